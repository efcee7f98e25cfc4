/-! ===== the reference's methods, 328 ===== -/
def m_MD_divisor : mr_T := (⟨"PlainMusicModel", "divisor", "(JJ)J"⟩, prog_14_method_31_code, 11, some .long)
theorem d_MD_divisor_0 : decode prog_14_method_31_code 0 = .ok (.lload_n 1, 1) := by decide +kernel
theorem d_MD_divisor_1 : decode prog_14_method_31_code 1 = .ok (.lconst 0, 1) := by decide +kernel
theorem d_MD_divisor_2 : decode prog_14_method_31_code 2 = .ok (.lcmp, 1) := by decide +kernel
theorem d_MD_divisor_3 : decode prog_14_method_31_code 3 = .ok (.ifCond .ge 8, 3) := by decide +kernel
theorem d_MD_divisor_11 : decode prog_14_method_31_code 11 = .ok (.lload_n 1, 1) := by decide +kernel
theorem d_MD_divisor_12 : decode prog_14_method_31_code 12 = .ok (.lstore 5, 2) := by decide +kernel
theorem d_MD_divisor_14 : decode prog_14_method_31_code 14 = .ok (.lload_n 3, 1) := by decide +kernel
theorem d_MD_divisor_15 : decode prog_14_method_31_code 15 = .ok (.lstore 7, 2) := by decide +kernel
theorem d_MD_divisor_17 : decode prog_14_method_31_code 17 = .ok (.lload 7, 2) := by decide +kernel
theorem d_MD_divisor_19 : decode prog_14_method_31_code 19 = .ok (.lconst 0, 1) := by decide +kernel
theorem d_MD_divisor_20 : decode prog_14_method_31_code 20 = .ok (.lcmp, 1) := by decide +kernel
theorem d_MD_divisor_21 : decode prog_14_method_31_code 21 = .ok (.ifCond .eq 21, 3) := by decide +kernel
theorem d_MD_divisor_42 : decode prog_14_method_31_code 42 = .ok (.lload 5, 2) := by decide +kernel
theorem d_MD_divisor_44 : decode prog_14_method_31_code 44 = .ok (.lreturn, 1) := by decide +kernel
theorem d_MD_divisor_24 : decode prog_14_method_31_code 24 = .ok (.lload 5, 2) := by decide +kernel
theorem d_MD_divisor_26 : decode prog_14_method_31_code 26 = .ok (.lload 7, 2) := by decide +kernel
theorem d_MD_divisor_28 : decode prog_14_method_31_code 28 = .ok (.lrem, 1) := by decide +kernel
theorem d_MD_divisor_29 : decode prog_14_method_31_code 29 = .ok (.lstore 9, 2) := by decide +kernel
theorem d_MD_divisor_31 : decode prog_14_method_31_code 31 = .ok (.lload 7, 2) := by decide +kernel
theorem d_MD_divisor_33 : decode prog_14_method_31_code 33 = .ok (.lstore 5, 2) := by decide +kernel
theorem d_MD_divisor_35 : decode prog_14_method_31_code 35 = .ok (.lload 9, 2) := by decide +kernel
theorem d_MD_divisor_37 : decode prog_14_method_31_code 37 = .ok (.lstore 7, 2) := by decide +kernel
theorem d_MD_divisor_39 : decode prog_14_method_31_code 39 = .ok (.goto (-22), 3) := by decide +kernel
theorem d_MD_divisor_6 : decode prog_14_method_31_code 6 = .ok (.lload_n 1, 1) := by decide +kernel
theorem d_MD_divisor_7 : decode prog_14_method_31_code 7 = .ok (.lneg, 1) := by decide +kernel
theorem d_MD_divisor_8 : decode prog_14_method_31_code 8 = .ok (.goto 4, 3) := by decide +kernel
def m_MD_fraction : mr_T := (⟨"PlainMusicModel", "fraction", "(JJ)V"⟩, prog_14_method_32_code, 7, none)
theorem d_MD_fraction_0 : decode prog_14_method_32_code 0 = .ok (.aload_n 0, 1) := by decide +kernel
theorem d_MD_fraction_1 : decode prog_14_method_32_code 1 = .ok (.lload_n 1, 1) := by decide +kernel
theorem d_MD_fraction_2 : decode prog_14_method_32_code 2 = .ok (.lload_n 3, 1) := by decide +kernel
theorem d_MD_fraction_3 : decode prog_14_method_32_code 3 = .ok (.invokevirtual 381, 3) := by decide +kernel
theorem k_MD_divisor : mt_OK m_MD_divisor 2 1 := ⟨gwi_1942, gwi_146, ⟨by decide +kernel, by decide +kernel, by decide +kernel⟩, fun h => absurd h (by decide), fun _ => ⟨gwi_1941, gwi_85⟩, fun h => absurd h (by decide)⟩
theorem l_MD_381 : ml_OK "PlainMusicModel" 381 ⟨"PlainMusicModel", "divisor", "(JJ)J"⟩ := Or.inl gwi_1939
theorem d_MD_fraction_6 : decode prog_14_method_32_code 6 = .ok (.lstore 5, 2) := by decide +kernel
theorem d_MD_fraction_8 : decode prog_14_method_32_code 8 = .ok (.aload_n 0, 1) := by decide +kernel
theorem d_MD_fraction_9 : decode prog_14_method_32_code 9 = .ok (.lload_n 1, 1) := by decide +kernel
theorem d_MD_fraction_10 : decode prog_14_method_32_code 10 = .ok (.lload 5, 2) := by decide +kernel
theorem d_MD_fraction_12 : decode prog_14_method_32_code 12 = .ok (.ldiv, 1) := by decide +kernel
theorem d_MD_fraction_13 : decode prog_14_method_32_code 13 = .ok (.putfield 385, 3) := by decide +kernel
theorem f_MD_385 : fl_OK "PlainMusicModel" 385 12 65 .long false := ⟨_, rfl, by decide, gwi_1547, rfl, rfl⟩
theorem mq_170_65 : mq 170 65 = ((-9223372036854775808), 9223372036854775807) := by decide +kernel
theorem d_MD_fraction_16 : decode prog_14_method_32_code 16 = .ok (.aload_n 0, 1) := by decide +kernel
theorem d_MD_fraction_17 : decode prog_14_method_32_code 17 = .ok (.lload_n 3, 1) := by decide +kernel
theorem d_MD_fraction_18 : decode prog_14_method_32_code 18 = .ok (.lload 5, 2) := by decide +kernel
theorem d_MD_fraction_20 : decode prog_14_method_32_code 20 = .ok (.ldiv, 1) := by decide +kernel
theorem d_MD_fraction_21 : decode prog_14_method_32_code 21 = .ok (.putfield 388, 3) := by decide +kernel
theorem f_MD_388 : fl_OK "PlainMusicModel" 388 12 66 .long false := ⟨_, rfl, by decide, gwi_1548, rfl, rfl⟩
theorem mq_170_66 : mq 170 66 = ((-9223372036854775808), 9223372036854775807) := by decide +kernel
theorem d_MD_fraction_24 : decode prog_14_method_32_code 24 = .ok (.return_, 1) := by decide +kernel
def m_MD_compare : mr_T := (⟨"PlainMusicModel", "compare", "(JJJJ)I"⟩, prog_14_method_34_code, 13, some .int)
theorem d_MD_compare_0 : decode prog_14_method_34_code 0 = .ok (.lload_n 1, 1) := by decide +kernel
theorem d_MD_compare_1 : decode prog_14_method_34_code 1 = .ok (.lload 7, 2) := by decide +kernel
theorem d_MD_compare_3 : decode prog_14_method_34_code 3 = .ok (.lmul, 1) := by decide +kernel
theorem d_MD_compare_4 : decode prog_14_method_34_code 4 = .ok (.lstore 9, 2) := by decide +kernel
theorem d_MD_compare_6 : decode prog_14_method_34_code 6 = .ok (.lload 5, 2) := by decide +kernel
theorem d_MD_compare_8 : decode prog_14_method_34_code 8 = .ok (.lload_n 3, 1) := by decide +kernel
theorem d_MD_compare_9 : decode prog_14_method_34_code 9 = .ok (.lmul, 1) := by decide +kernel
theorem d_MD_compare_10 : decode prog_14_method_34_code 10 = .ok (.lstore 11, 2) := by decide +kernel
theorem d_MD_compare_12 : decode prog_14_method_34_code 12 = .ok (.lload 9, 2) := by decide +kernel
theorem d_MD_compare_14 : decode prog_14_method_34_code 14 = .ok (.lload 11, 2) := by decide +kernel
theorem d_MD_compare_16 : decode prog_14_method_34_code 16 = .ok (.lcmp, 1) := by decide +kernel
theorem d_MD_compare_17 : decode prog_14_method_34_code 17 = .ok (.ifCond .ge 7, 3) := by decide +kernel
theorem d_MD_compare_24 : decode prog_14_method_34_code 24 = .ok (.lload 9, 2) := by decide +kernel
theorem d_MD_compare_26 : decode prog_14_method_34_code 26 = .ok (.lload 11, 2) := by decide +kernel
theorem d_MD_compare_28 : decode prog_14_method_34_code 28 = .ok (.lcmp, 1) := by decide +kernel
theorem d_MD_compare_29 : decode prog_14_method_34_code 29 = .ok (.ifCond .le 7, 3) := by decide +kernel
theorem d_MD_compare_36 : decode prog_14_method_34_code 36 = .ok (.iconst 0, 1) := by decide +kernel
theorem d_MD_compare_37 : decode prog_14_method_34_code 37 = .ok (.ireturn, 1) := by decide +kernel
theorem d_MD_compare_32 : decode prog_14_method_34_code 32 = .ok (.iconst 1, 1) := by decide +kernel
theorem d_MD_compare_33 : decode prog_14_method_34_code 33 = .ok (.goto 4, 3) := by decide +kernel
theorem d_MD_compare_20 : decode prog_14_method_34_code 20 = .ok (.iconst (-1), 1) := by decide +kernel
theorem d_MD_compare_21 : decode prog_14_method_34_code 21 = .ok (.goto 16, 3) := by decide +kernel
def m_MD_isFar : mr_T := (⟨"PlainMusicModel", "isFar", "(JJ)Z"⟩, prog_14_method_35_code, 5, some .boolean)
theorem d_MD_isFar_0 : decode prog_14_method_35_code 0 = .ok (.lload_n 1, 1) := by decide +kernel
theorem d_MD_isFar_1 : decode prog_14_method_35_code 1 = .ok (.ldc2_w 395, 3) := by decide +kernel
theorem cst_MD_395 : Cond.constantLong "PlainMusicModel" 395 (Int64.ofInt 1000) ∈ gw := gwi_1947
theorem d_MD_isFar_4 : decode prog_14_method_35_code 4 = .ok (.lload_n 3, 1) := by decide +kernel
theorem d_MD_isFar_5 : decode prog_14_method_35_code 5 = .ok (.lmul, 1) := by decide +kernel
theorem d_MD_isFar_6 : decode prog_14_method_35_code 6 = .ok (.lcmp, 1) := by decide +kernel
theorem d_MD_isFar_7 : decode prog_14_method_35_code 7 = .ok (.ifCond .gt 11, 3) := by decide +kernel
theorem d_MD_isFar_18 : decode prog_14_method_35_code 18 = .ok (.iconst 1, 1) := by decide +kernel
theorem d_MD_isFar_19 : decode prog_14_method_35_code 19 = .ok (.goto 4, 3) := by decide +kernel
theorem d_MD_isFar_23 : decode prog_14_method_35_code 23 = .ok (.ireturn, 1) := by decide +kernel
theorem d_MD_isFar_10 : decode prog_14_method_35_code 10 = .ok (.lload_n 3, 1) := by decide +kernel
theorem d_MD_isFar_11 : decode prog_14_method_35_code 11 = .ok (.ldc2_w 397, 3) := by decide +kernel
theorem cst_MD_397 : Cond.constantLong "PlainMusicModel" 397 (Int64.ofInt 1000000) ∈ gw := gwi_1948
theorem d_MD_isFar_14 : decode prog_14_method_35_code 14 = .ok (.lcmp, 1) := by decide +kernel
theorem d_MD_isFar_15 : decode prog_14_method_35_code 15 = .ok (.ifCond .le 7, 3) := by decide +kernel
theorem d_MD_isFar_22 : decode prog_14_method_35_code 22 = .ok (.iconst 0, 1) := by decide +kernel
def m_MD_sum : mr_T := (⟨"PlainMusicModel", "sum", "(JJJJ)V"⟩, prog_14_method_33_code, 9, none)
theorem d_MD_sum_0 : decode prog_14_method_33_code 0 = .ok (.aload_n 0, 1) := by decide +kernel
theorem d_MD_sum_1 : decode prog_14_method_33_code 1 = .ok (.lload_n 1, 1) := by decide +kernel
theorem d_MD_sum_2 : decode prog_14_method_33_code 2 = .ok (.lload 7, 2) := by decide +kernel
theorem d_MD_sum_4 : decode prog_14_method_33_code 4 = .ok (.lmul, 1) := by decide +kernel
theorem d_MD_sum_5 : decode prog_14_method_33_code 5 = .ok (.lload 5, 2) := by decide +kernel
theorem d_MD_sum_7 : decode prog_14_method_33_code 7 = .ok (.lload_n 3, 1) := by decide +kernel
theorem d_MD_sum_8 : decode prog_14_method_33_code 8 = .ok (.lmul, 1) := by decide +kernel
theorem d_MD_sum_9 : decode prog_14_method_33_code 9 = .ok (.ladd, 1) := by decide +kernel
theorem d_MD_sum_10 : decode prog_14_method_33_code 10 = .ok (.lload_n 3, 1) := by decide +kernel
theorem d_MD_sum_11 : decode prog_14_method_33_code 11 = .ok (.lload 7, 2) := by decide +kernel
theorem d_MD_sum_13 : decode prog_14_method_33_code 13 = .ok (.lmul, 1) := by decide +kernel
theorem d_MD_sum_14 : decode prog_14_method_33_code 14 = .ok (.invokevirtual 391, 3) := by decide +kernel
theorem k_MD_fraction : mt_OK m_MD_fraction 2 1 := ⟨gwi_1938, gwi_146, ⟨by decide +kernel, by decide +kernel, by decide +kernel⟩, fun h => absurd h (by decide), fun _ => ⟨gwi_1937, gwi_84⟩, fun h => absurd h (by decide)⟩
theorem l_MD_391 : ml_OK "PlainMusicModel" 391 ⟨"PlainMusicModel", "fraction", "(JJ)V"⟩ := Or.inl gwi_1935
theorem d_MD_sum_17 : decode prog_14_method_33_code 17 = .ok (.return_, 1) := by decide +kernel
theorem s_MD_divisor {G : cx_T} {h : ah_T} {a1 : Int} {a2 : Int} (la1 : (-4611686018427387904) ≤ a1) (ua1 : a1 ≤ 4611686018427387904) (la2 : 0 ≤ a2) (ua2 : a2 ≤ 4611686018427387904) (hnz : a1 ≠ 0 ∨ 1 ≤ a2) : con G 0 0 0 m_MD_divisor [av_R (some 170), av_L a1, av_L a2] h (fun r h' => ∃ z, r = some (av_L z) ∧ (1 ≤ z ∧ z ≤ 4611686018427387904) ∧ (z = (Int.gcd a1 a2 : Int)) ∧ h = h') := by
  refine con_of (L := [some (av_R (some 170)), some (av_L a1), none, some (av_L a2), none, none, none, none, none, none, none]) (by decide +kernel) (Nat.le_of_ble_eq_true rfl) rfl ?_
  refine A_lload_n 1 d_MD_divisor_0 rfl rfl ?_
  refine A_lconst_0 d_MD_divisor_1 ?_
  refine A_lcmpn d_MD_divisor_2 (fun x1 lx1 ex1 gx1 _ _ => ?_)
  refine A_if_ge (tgt := 11) d_MD_divisor_3 (by decide) (fun c2 => ?_) (fun c2 => ?_)
  · have mc2 : a1 ≥ 0 := by omega
    refine A_lload_n 1 d_MD_divisor_11 rfl rfl ?_
    refine A_lstore (L' := [some (av_R (some 170)), some (av_L a1), none, some (av_L a2), none, some (av_L a1), none, none, none, none, none]) d_MD_divisor_12 (Nat.le_of_ble_eq_true rfl) rfl ?_
    refine A_lload_n 3 d_MD_divisor_14 rfl rfl ?_
    refine A_lstore (L' := [some (av_R (some 170)), some (av_L a1), none, some (av_L a2), none, some (av_L a1), none, some (av_L a2), none, none, none]) d_MD_divisor_15 (Nat.le_of_ble_eq_true rfl) rfl ?_
    have lp17 : ∀ (n : Nat) (i3 i4 : Int) , 0 ≤ i3 → i3 ≤ 4611686018427387904 → 0 ≤ i4 → i4 ≤ 4611686018427387904 → (0 ≤ i3 ∧ 0 ≤ i4 ∧ (Int.gcd i3 i4 : Int) = (Int.gcd a1 a2 : Int)) → (i4).toNat < n → aw G (rm_R 0 0 0) m_MD_divisor 0 0 17 [some (av_R (some 170)), some (av_L a1), none, some (av_L a2), none, some (av_L i3), none, some (av_L i4), none, none, none] [] h (fun r h' => ∃ z, r = some (av_L z) ∧ (1 ≤ z ∧ z ≤ 4611686018427387904) ∧ (z = (Int.gcd a1 a2 : Int)) ∧ h = h') := by
      intro n
      induction n with
      | zero => intro i3 i4 _ _ _ _ _ hm; omega
      | succ n ih17 =>
        intro i3 i4 hl0 hl1 hl2 hl3 hinv hm
        refine A_lload d_MD_divisor_17 rfl ?_
        refine A_lconst_0 d_MD_divisor_19 ?_
        refine A_lcmpn d_MD_divisor_20 (fun x5 lx5 ex5 gx5 _ _ => ?_)
        refine A_if_eq (tgt := 42) d_MD_divisor_21 (by decide) (fun c6 => ?_) (fun c6 => ?_)
        · have mc6 : i4 = 0 := by omega
          refine A_lload d_MD_divisor_42 rfl ?_
          have yg : i3 = (Int.gcd a1 a2 : Int) := (gd_e hinv.1 (by have q1 := hinv.2.2; have q2 : i4 = 0 := (by omega); rw [q2] at q1; exact q1))
          have yh : (1 : Int) ≤ (Int.gcd a1 a2 : Int) := gd_1 hnz
          exact A_lret d_MD_divisor_44 (by decide) rfl ⟨_, rfl, ⟨by omega, by omega⟩, (gd_e hinv.1 (by have q1 := hinv.2.2; have q2 : i4 = 0 := (by omega); rw [q2] at q1; exact q1)), rfl⟩
        · have mc6 : i4 ≠ 0 := by omega
          refine A_lload d_MD_divisor_24 rfl ?_
          refine A_lload d_MD_divisor_26 rfl ?_
          refine A_lremc d_MD_divisor_28 (by omega) (fun x7 ex7 _ _ => ?_)
          have bx7 := rem_nn ex7 (by omega) (by omega)
          refine A_lstore (L' := [some (av_R (some 170)), some (av_L a1), none, some (av_L a2), none, some (av_L i3), none, some (av_L i4), none, some (av_L x7), none]) d_MD_divisor_29 (Nat.le_of_ble_eq_true rfl) rfl ?_
          refine A_lload d_MD_divisor_31 rfl ?_
          refine A_pc (pc' := 33) rfl ?_
          refine A_lstore (L' := [some (av_R (some 170)), some (av_L a1), none, some (av_L a2), none, some (av_L i4), none, some (av_L i4), none, some (av_L x7), none]) d_MD_divisor_33 (Nat.le_of_ble_eq_true rfl) rfl ?_
          refine A_lload d_MD_divisor_35 rfl ?_
          refine A_lstore (L' := [some (av_R (some 170)), some (av_L a1), none, some (av_L a2), none, some (av_L i4), none, some (av_L x7), none, some (av_L x7), none]) d_MD_divisor_37 (Nat.le_of_ble_eq_true rfl) rfl ?_
          refine A_goto (tgt := 17) d_MD_divisor_39 (by decide) ?_
          refine A_free (L' := [some (av_R (some 170)), some (av_L a1), none, some (av_L a2), none, some (av_L i4), none, some (av_L x7), none, none, none]) (And.intro rfl (And.intro rfl (And.intro rfl (And.intro rfl (And.intro rfl trivial))))) ?_
          exact ih17 i4 x7 (by omega) (by omega) (by omega) (by omega) (by obtain ⟨d1, d2, d3⟩ := gd_st hinv.1 hinv.2.1 (by omega) ex7; exact ⟨by omega, by omega, (congrArg Nat.cast d3).trans hinv.2.2⟩) (by omega)
    exact lp17 _ a1 a2 (by omega) (by omega) (by omega) (by omega) (by first | exact ⟨by omega, by omega, rfl⟩ | exact ⟨by omega, by omega, congrArg Nat.cast (gd_ng a1 a2)⟩) (Nat.lt_succ_self _)
  · have mc2 : a1 < 0 := by omega
    refine A_lload_n 1 d_MD_divisor_6 rfl rfl ?_
    refine A_lnegv (z := (-a1)) d_MD_divisor_7 (w64_to (by omega) (by unfold i64; omega)) ?_
    refine A_goto (tgt := 12) d_MD_divisor_8 (by decide) ?_
    refine A_lstore (L' := [some (av_R (some 170)), some (av_L a1), none, some (av_L a2), none, some (av_L (-a1)), none, none, none, none, none]) d_MD_divisor_12 (Nat.le_of_ble_eq_true rfl) rfl ?_
    refine A_lload_n 3 d_MD_divisor_14 rfl rfl ?_
    refine A_lstore (L' := [some (av_R (some 170)), some (av_L a1), none, some (av_L a2), none, some (av_L (-a1)), none, some (av_L a2), none, none, none]) d_MD_divisor_15 (Nat.le_of_ble_eq_true rfl) rfl ?_
    have lp17 : ∀ (n : Nat) (i8 i9 : Int) , 0 ≤ i8 → i8 ≤ 4611686018427387904 → 0 ≤ i9 → i9 ≤ 4611686018427387904 → (0 ≤ i8 ∧ 0 ≤ i9 ∧ (Int.gcd i8 i9 : Int) = (Int.gcd a1 a2 : Int)) → (i9).toNat < n → aw G (rm_R 0 0 0) m_MD_divisor 0 0 17 [some (av_R (some 170)), some (av_L a1), none, some (av_L a2), none, some (av_L i8), none, some (av_L i9), none, none, none] [] h (fun r h' => ∃ z, r = some (av_L z) ∧ (1 ≤ z ∧ z ≤ 4611686018427387904) ∧ (z = (Int.gcd a1 a2 : Int)) ∧ h = h') := by
      intro n
      induction n with
      | zero => intro i8 i9 _ _ _ _ _ hm; omega
      | succ n ih17 =>
        intro i8 i9 hl0 hl1 hl2 hl3 hinv hm
        refine A_lload d_MD_divisor_17 rfl ?_
        refine A_lconst_0 d_MD_divisor_19 ?_
        refine A_lcmpn d_MD_divisor_20 (fun x10 lx10 ex10 gx10 _ _ => ?_)
        refine A_if_eq (tgt := 42) d_MD_divisor_21 (by decide) (fun c11 => ?_) (fun c11 => ?_)
        · have mc11 : i9 = 0 := by omega
          refine A_lload d_MD_divisor_42 rfl ?_
          have yg : i8 = (Int.gcd a1 a2 : Int) := (gd_e hinv.1 (by have q1 := hinv.2.2; have q2 : i9 = 0 := (by omega); rw [q2] at q1; exact q1))
          have yh : (1 : Int) ≤ (Int.gcd a1 a2 : Int) := gd_1 hnz
          exact A_lret d_MD_divisor_44 (by decide) rfl ⟨_, rfl, ⟨by omega, by omega⟩, (gd_e hinv.1 (by have q1 := hinv.2.2; have q2 : i9 = 0 := (by omega); rw [q2] at q1; exact q1)), rfl⟩
        · have mc11 : i9 ≠ 0 := by omega
          refine A_lload d_MD_divisor_24 rfl ?_
          refine A_lload d_MD_divisor_26 rfl ?_
          refine A_lremc d_MD_divisor_28 (by omega) (fun x12 ex12 _ _ => ?_)
          have bx12 := rem_nn ex12 (by omega) (by omega)
          refine A_lstore (L' := [some (av_R (some 170)), some (av_L a1), none, some (av_L a2), none, some (av_L i8), none, some (av_L i9), none, some (av_L x12), none]) d_MD_divisor_29 (Nat.le_of_ble_eq_true rfl) rfl ?_
          refine A_lload d_MD_divisor_31 rfl ?_
          refine A_pc (pc' := 33) rfl ?_
          refine A_lstore (L' := [some (av_R (some 170)), some (av_L a1), none, some (av_L a2), none, some (av_L i9), none, some (av_L i9), none, some (av_L x12), none]) d_MD_divisor_33 (Nat.le_of_ble_eq_true rfl) rfl ?_
          refine A_lload d_MD_divisor_35 rfl ?_
          refine A_lstore (L' := [some (av_R (some 170)), some (av_L a1), none, some (av_L a2), none, some (av_L i9), none, some (av_L x12), none, some (av_L x12), none]) d_MD_divisor_37 (Nat.le_of_ble_eq_true rfl) rfl ?_
          refine A_goto (tgt := 17) d_MD_divisor_39 (by decide) ?_
          refine A_free (L' := [some (av_R (some 170)), some (av_L a1), none, some (av_L a2), none, some (av_L i9), none, some (av_L x12), none, none, none]) (And.intro rfl (And.intro rfl (And.intro rfl (And.intro rfl (And.intro rfl trivial))))) ?_
          exact ih17 i9 x12 (by omega) (by omega) (by omega) (by omega) (by obtain ⟨d1, d2, d3⟩ := gd_st hinv.1 hinv.2.1 (by omega) ex12; exact ⟨by omega, by omega, (congrArg Nat.cast d3).trans hinv.2.2⟩) (by omega)
    exact lp17 _ (-a1) a2 (by omega) (by omega) (by omega) (by omega) (by first | exact ⟨by omega, by omega, rfl⟩ | exact ⟨by omega, by omega, congrArg Nat.cast (gd_ng a1 a2)⟩) (Nat.lt_succ_self _)
theorem s_MD_fraction {G : cx_T} {h : ah_T} (hx : mi h) {a1 : Int} {a2 : Int} (la1 : (-4611686018427387904) ≤ a1) (ua1 : a1 ≤ 4611686018427387904) (la2 : 1 ≤ a2) (ua2 : a2 ≤ 4611686018427387904) : con G 1 0 0 m_MD_fraction [av_R (some 170), av_L a1, av_L a2] h (fun r h' => r = none ∧ ((∃ d : Int, h'.2.2.1 170 65 * d = a1 ∧ h'.2.2.1 170 66 * d = a2 ∧ d = Int.gcd a1 a2) ∧ 1 ≤ h'.2.2.1 170 66 ∧ h'.2.2.1 170 66 ≤ a2 ∧ (0 ≤ a1 → 0 ≤ h'.2.2.1 170 65 ∧ h'.2.2.1 170 65 ≤ a1) ∧ (a1 ≤ 0 → a1 ≤ h'.2.2.1 170 65 ∧ h'.2.2.1 170 65 ≤ 0) ∧ (1 ≤ a1 → 1 ≤ h'.2.2.1 170 65) ∧ Int.gcd (h'.2.2.1 170 65) (h'.2.2.1 170 66) = 1) ∧ kM (pm [65, 66] []) h h') := by
  refine con_of (L := [some (av_R (some 170)), some (av_L a1), none, some (av_L a2), none, none, none]) (by decide +kernel) (Nat.le_of_ble_eq_true rfl) rfl ?_
  have k0 : kM (pm [65, 66] []) h h := kM_0 hx
  refine A_aload_n 0 d_MD_fraction_0 rfl rfl ?_
  refine A_lload_n 1 d_MD_fraction_1 rfl rfl ?_
  refine A_lload_n 3 d_MD_fraction_2 rfl rfl ?_
  refine A_callV2 m_MD_divisor T_ok d_MD_fraction_3 l_MD_381 k_MD_divisor (mi_s k0.1 sf_170) rfl (by decide +kernel) (by decide) (Nat.le_of_ble_eq_true rfl) (s_MD_divisor  (by omega) (by omega) (by omega) (by omega) (by omega)) (fun r h1 hq => ?_)
  obtain ⟨x3, rfl, ⟨_, _⟩, xx3, rfl⟩ := hq
  refine A_lstore (L' := [some (av_R (some 170)), some (av_L a1), none, some (av_L a2), none, some (av_L x3), none]) d_MD_fraction_6 (Nat.le_of_ble_eq_true rfl) rfl ?_
  refine A_aload_n 0 d_MD_fraction_8 rfl rfl ?_
  refine A_lload_n 1 d_MD_fraction_9 rfl rfl ?_
  refine A_lload d_MD_fraction_10 rfl ?_
  refine A_ldivc d_MD_fraction_12 (by omega) (fun x4 ex4 _ _ => ?_)
  refine A_pc (pc' := 13) rfl ?_
  refine A_putLk (KR := kM (pm [65, 66] []) h) T_ok d_MD_fraction_13 f_MD_385 (mi_s k0.1 sf_170) fin_f (kM_l k0 (by decide) (by decide) mq_170_65 (by omega) (by omega)) (fun h5 k6 eh5 => ?_)
  refine A_aload_n 0 d_MD_fraction_16 rfl rfl ?_
  refine A_lload_n 3 d_MD_fraction_17 rfl rfl ?_
  refine A_lload d_MD_fraction_18 rfl ?_
  refine A_ldivc d_MD_fraction_20 (by omega) (fun x7 ex7 _ _ => ?_)
  have bx7 := div_nn64 ex7 (by omega) (by omega) (by omega)
  refine A_putLk (KR := kM (pm [65, 66] []) h) T_ok d_MD_fraction_21 f_MD_388 (mi_s k6.1 sf_170) fin_f (kM_l k6 (by decide) (by decide) mq_170_66 (by omega) (by omega)) (fun h8 k9 eh8 => ?_)
  refine A_pc (pc' := 24) rfl ?_
  exact A_vret d_MD_fraction_24 (by decide) rfl ⟨rfl, (by obtain ⟨o1, o2, o3, o4, o5, o6, o7, o8⟩ := fr_ok xx3 (by omega) (by omega) (by omega) (by omega) ex4 ex7; rw [((eh8.2.1 _ _ (fun _ => by decide)).trans eh5.2.2), eh8.2.2]; exact ⟨⟨x3, o1, o2, xx3⟩, o3, o4, o5, o6, o7, o8⟩), k9⟩
theorem s_MD_compare {G : cx_T} {h : ah_T} {a1 : Int} {a2 : Int} {a3 : Int} {a4 : Int}  : con G 0 0 0 m_MD_compare [av_R (some 170), av_L a1, av_L a2, av_L a3, av_L a4] h (fun r h' => ∃ z, r = some (av_I z) ∧ ((-1) ≤ z ∧ z ≤ 1) ∧ h = h') := by
  refine con_of (L := [some (av_R (some 170)), some (av_L a1), none, some (av_L a2), none, some (av_L a3), none, some (av_L a4), none, none, none, none, none]) (by decide +kernel) (Nat.le_of_ble_eq_true rfl) rfl ?_
  refine A_locL 1 rfl (fun ra => ?_)
  obtain ⟨_, _⟩ := ra
  refine A_locL 3 rfl (fun ra => ?_)
  obtain ⟨_, _⟩ := ra
  refine A_locL 5 rfl (fun ra => ?_)
  obtain ⟨_, _⟩ := ra
  refine A_locL 7 rfl (fun ra => ?_)
  obtain ⟨_, _⟩ := ra
  refine A_lload_n 1 d_MD_compare_0 rfl rfl ?_
  refine A_lload d_MD_compare_1 rfl ?_
  refine A_lmulw d_MD_compare_3 (fun x1 _ _ _ => ?_)
  refine A_lstore (L' := [some (av_R (some 170)), some (av_L a1), none, some (av_L a2), none, some (av_L a3), none, some (av_L a4), none, some (av_L x1), none, none, none]) d_MD_compare_4 (Nat.le_of_ble_eq_true rfl) rfl ?_
  refine A_lload d_MD_compare_6 rfl ?_
  refine A_pc (pc' := 8) rfl ?_
  refine A_lload_n 3 d_MD_compare_8 rfl rfl ?_
  refine A_lmulw d_MD_compare_9 (fun x2 _ _ _ => ?_)
  refine A_lstore (L' := [some (av_R (some 170)), some (av_L a1), none, some (av_L a2), none, some (av_L a3), none, some (av_L a4), none, some (av_L x1), none, some (av_L x2), none]) d_MD_compare_10 (Nat.le_of_ble_eq_true rfl) rfl ?_
  refine A_lload d_MD_compare_12 rfl ?_
  refine A_lload d_MD_compare_14 rfl ?_
  refine A_lcmpn d_MD_compare_16 (fun x3 lx3 ex3 gx3 _ _ => ?_)
  refine A_pc (pc' := 17) rfl ?_
  refine A_if_ge (tgt := 24) d_MD_compare_17 (by decide) (fun c4 => ?_) (fun c4 => ?_)
  · have mc4 : (x1 - x2) ≥ 0 := by omega
    refine A_lload d_MD_compare_24 rfl ?_
    refine A_lload d_MD_compare_26 rfl ?_
    refine A_lcmpn d_MD_compare_28 (fun x5 lx5 ex5 gx5 _ _ => ?_)
    refine A_if_le (tgt := 36) d_MD_compare_29 (by decide) (fun c6 => ?_) (fun c6 => ?_)
    · have mc6 : (x1 - x2) ≤ 0 := by omega
      refine A_iconst d_MD_compare_36 rfl ?_
      exact A_iret d_MD_compare_37 (by decide) rfl ⟨_, rfl, ⟨by omega, by omega⟩, rfl⟩
    · have mc6 : (x1 - x2) > 0 := by omega
      refine A_iconst d_MD_compare_32 rfl ?_
      refine A_goto (tgt := 37) d_MD_compare_33 (by decide) ?_
      exact A_iret d_MD_compare_37 (by decide) rfl ⟨_, rfl, ⟨by omega, by omega⟩, rfl⟩
  · have mc4 : (x1 - x2) < 0 := by omega
    refine A_iconst d_MD_compare_20 rfl ?_
    refine A_goto (tgt := 37) d_MD_compare_21 (by decide) ?_
    exact A_iret d_MD_compare_37 (by decide) rfl ⟨_, rfl, ⟨by omega, by omega⟩, rfl⟩
theorem s_MD_isFar {G : cx_T} {h : ah_T} {a1 : Int} {a2 : Int} (la1 : 0 ≤ a1) (ua1 : a1 ≤ 4611686018427387904) (la2 : 0 ≤ a2) (ua2 : a2 ≤ 1125899906842624) : con G 0 0 0 m_MD_isFar [av_R (some 170), av_L a1, av_L a2] h (fun r h' => ∃ z, r = some (av_I z) ∧ (z = 0 ∨ z = 1) ∧ (z = 0 → a2 ≤ 1000000 ∧ a1 ≤ 1000 * a2) ∧ h = h') := by
  refine con_of (L := [some (av_R (some 170)), some (av_L a1), none, some (av_L a2), none]) (by decide +kernel) (Nat.le_of_ble_eq_true rfl) rfl ?_
  refine A_lload_n 1 d_MD_isFar_0 rfl rfl ?_
  refine A_ldc2 (z := 1000) d_MD_isFar_1 cst_MD_395 rfl ?_
  refine A_lload_n 3 d_MD_isFar_4 rfl rfl ?_
  refine A_lmulv (z := (1000 * a2)) d_MD_isFar_5 (w64_to (by omega) (by unfold i64; omega)) ?_
  refine A_lcmpn d_MD_isFar_6 (fun x1 lx1 ex1 gx1 _ _ => ?_)
  refine A_pc (pc' := 7) rfl ?_
  refine A_if_gt (tgt := 18) d_MD_isFar_7 (by decide) (fun c2 => ?_) (fun c2 => ?_)
  · have mc2 : (a1 - 1000 * a2) > 0 := by omega
    refine A_iconst d_MD_isFar_18 rfl ?_
    refine A_goto (tgt := 23) d_MD_isFar_19 (by decide) ?_
    exact A_zret d_MD_isFar_23 (by decide) rfl (by omega) ⟨_, rfl, by omega, (fun _ => ⟨by omega, by omega⟩), rfl⟩
  · have mc2 : (a1 - 1000 * a2) ≤ 0 := by omega
    refine A_lload_n 3 d_MD_isFar_10 rfl rfl ?_
    refine A_ldc2 (z := 1000000) d_MD_isFar_11 cst_MD_397 rfl ?_
    refine A_lcmpn d_MD_isFar_14 (fun x3 lx3 ex3 gx3 _ _ => ?_)
    refine A_if_le (tgt := 22) d_MD_isFar_15 (by decide) (fun c4 => ?_) (fun c4 => ?_)
    · have mc4 : (a2 - 1000000) ≤ 0 := by omega
      refine A_iconst d_MD_isFar_22 rfl ?_
      exact A_zret d_MD_isFar_23 (by decide) rfl (by omega) ⟨_, rfl, by omega, (fun _ => ⟨by omega, by omega⟩), rfl⟩
    · have mc4 : (a2 - 1000000) > 0 := by omega
      refine A_iconst d_MD_isFar_18 rfl ?_
      refine A_goto (tgt := 23) d_MD_isFar_19 (by decide) ?_
      exact A_zret d_MD_isFar_23 (by decide) rfl (by omega) ⟨_, rfl, by omega, (fun _ => ⟨by omega, by omega⟩), rfl⟩
theorem s_MD_sum {G : cx_T} {h : ah_T} (hx : mi h) {a1 : Int} {a2 : Int} {a3 : Int} {a4 : Int} (la1 : (-4000000000) ≤ a1) (ua1 : a1 ≤ 4000000000) (la2 : 1 ≤ a2) (ua2 : a2 ≤ 1000000) (la3 : (-4000000000) ≤ a3) (ua3 : a3 ≤ 4000000000) (la4 : 1 ≤ a4) (ua4 : a4 ≤ 1000000) : con G 2 0 0 m_MD_sum [av_R (some 170), av_L a1, av_L a2, av_L a3, av_L a4] h (fun r h' => r = none ∧ (1 ≤ h'.2.2.1 170 66 ∧ h'.2.2.1 170 66 ≤ 1000000000000 ∧ -8000000000000000 ≤ h'.2.2.1 170 65 ∧ h'.2.2.1 170 65 ≤ 8000000000000000 ∧ (0 ≤ a1 → 0 ≤ a3 → 0 ≤ h'.2.2.1 170 65) ∧ (0 ≤ a1 → a1 ≤ 1000000000 → 0 ≤ a3 → a3 ≤ 1000000000 → h'.2.2.1 170 65 ≤ 2000000000000000)) ∧ kM (pm [65, 66] []) h h') := by
  refine con_of (L := [some (av_R (some 170)), some (av_L a1), none, some (av_L a2), none, some (av_L a3), none, some (av_L a4), none]) (by decide +kernel) (Nat.le_of_ble_eq_true rfl) rfl ?_
  have k0 : kM (pm [65, 66] []) h h := kM_0 hx
  refine A_aload_n 0 d_MD_sum_0 rfl rfl ?_
  refine A_lload_n 1 d_MD_sum_1 rfl rfl ?_
  refine A_lload d_MD_sum_2 rfl ?_
  refine A_lmulw d_MD_sum_4 (fun x1 ex1 _ _ => ?_)
  have bx1 := mul_b64 (ux := 4000000000) (uy := 1000000) ex1 (by omega) (by omega) (by omega) (by omega) (by decide)
  refine A_lload d_MD_sum_5 rfl ?_
  refine A_pc (pc' := 7) rfl ?_
  refine A_lload_n 3 d_MD_sum_7 rfl rfl ?_
  refine A_lmulw d_MD_sum_8 (fun x2 ex2 _ _ => ?_)
  have bx2 := mul_b64 (ux := 4000000000) (uy := 1000000) ex2 (by omega) (by omega) (by omega) (by omega) (by decide)
  refine A_laddv (z := (x1 + x2)) d_MD_sum_9 (w64_to (by omega) (by unfold i64; omega)) ?_
  refine A_lload_n 3 d_MD_sum_10 rfl rfl ?_
  refine A_lload d_MD_sum_11 rfl ?_
  refine A_lmulw d_MD_sum_13 (fun x3 ex3 _ _ => ?_)
  have bx3 := mul_pp64 (ux := 1000000) (uy := 1000000) ex3 (by omega) (by omega) (by omega) (by omega) (by decide)
  have ys0 : 0 ≤ a1 → 0 ≤ x1 := fun q => by rw [bx1.2.2]; exact Int.mul_nonneg q (by omega)
  have yt0 : 0 ≤ a1 → a1 ≤ 1000000000 → x1 ≤ 1000000000000000 := fun q1 q2 => by rw [bx1.2.2]; exact Int.le_trans (Int.mul_le_mul q2 ua4 (by omega) (by decide)) (by decide)
  have ys1 : 0 ≤ a3 → 0 ≤ x2 := fun q => by rw [bx2.2.2]; exact Int.mul_nonneg q (by omega)
  have yt1 : 0 ≤ a3 → a3 ≤ 1000000000 → x2 ≤ 1000000000000000 := fun q1 q2 => by rw [bx2.2.2]; exact Int.le_trans (Int.mul_le_mul q2 ua2 (by omega) (by decide)) (by decide)
  refine A_pc (pc' := 14) rfl ?_
  refine A_callV2 m_MD_fraction T_ok d_MD_sum_14 l_MD_391 k_MD_fraction (mi_s k0.1 sf_170) rfl (by decide +kernel) (by decide) (Nat.le_of_ble_eq_true rfl) (s_MD_fraction k0.1 (by omega) (by omega) (by omega) (by omega)) (fun r h4 hq => ?_)
  obtain ⟨rfl, xk5, k5⟩ := hq
  have k6 := kM_t k0 k5 (pm_s (by decide) (by decide))
  exact A_vret d_MD_sum_17 (by decide) rfl ⟨rfl, (by have q1 := xk5; exact ⟨by omega, by omega, by omega, by omega, fun _ _ => by omega, fun _ _ _ _ => by omega⟩), k6⟩
