/-! ===== the reference's methods, 360 ===== -/
def m_MD_product : mr_T := (⟨"PlainMusicModel", "product", "(JJJ)J"⟩, prog_14_method_97_code, 13, some .long)
theorem d_MD_product_0 : decode prog_14_method_97_code 0 = .ok (.lconst 0, 1) := by decide +kernel
theorem d_MD_product_1 : decode prog_14_method_97_code 1 = .ok (.lstore 7, 2) := by decide +kernel
theorem d_MD_product_3 : decode prog_14_method_97_code 3 = .ok (.lload_n 3, 1) := by decide +kernel
theorem d_MD_product_4 : decode prog_14_method_97_code 4 = .ok (.lload 5, 2) := by decide +kernel
theorem d_MD_product_6 : decode prog_14_method_97_code 6 = .ok (.lrem, 1) := by decide +kernel
theorem d_MD_product_7 : decode prog_14_method_97_code 7 = .ok (.lstore 9, 2) := by decide +kernel
theorem d_MD_product_9 : decode prog_14_method_97_code 9 = .ok (.lload_n 1, 1) := by decide +kernel
theorem d_MD_product_10 : decode prog_14_method_97_code 10 = .ok (.lstore 11, 2) := by decide +kernel
theorem d_MD_product_12 : decode prog_14_method_97_code 12 = .ok (.lload 11, 2) := by decide +kernel
theorem d_MD_product_14 : decode prog_14_method_97_code 14 = .ok (.lconst 0, 1) := by decide +kernel
theorem d_MD_product_15 : decode prog_14_method_97_code 15 = .ok (.lcmp, 1) := by decide +kernel
theorem d_MD_product_16 : decode prog_14_method_97_code 16 = .ok (.ifCond .le 42, 3) := by decide +kernel
theorem d_MD_product_58 : decode prog_14_method_97_code 58 = .ok (.lload 7, 2) := by decide +kernel
theorem d_MD_product_60 : decode prog_14_method_97_code 60 = .ok (.lreturn, 1) := by decide +kernel
theorem d_MD_product_19 : decode prog_14_method_97_code 19 = .ok (.lload 11, 2) := by decide +kernel
theorem d_MD_product_21 : decode prog_14_method_97_code 21 = .ok (.lconst 1, 1) := by decide +kernel
theorem d_MD_product_22 : decode prog_14_method_97_code 22 = .ok (.land, 1) := by decide +kernel
theorem d_MD_product_23 : decode prog_14_method_97_code 23 = .ok (.lconst 1, 1) := by decide +kernel
theorem d_MD_product_24 : decode prog_14_method_97_code 24 = .ok (.lcmp, 1) := by decide +kernel
theorem d_MD_product_25 : decode prog_14_method_97_code 25 = .ok (.ifCond .ne 13, 3) := by decide +kernel
theorem d_MD_product_38 : decode prog_14_method_97_code 38 = .ok (.ldc2_w 452, 3) := by decide +kernel
theorem d_MD_product_41 : decode prog_14_method_97_code 41 = .ok (.lload 9, 2) := by decide +kernel
theorem d_MD_product_43 : decode prog_14_method_97_code 43 = .ok (.lmul, 1) := by decide +kernel
theorem d_MD_product_44 : decode prog_14_method_97_code 44 = .ok (.lload 5, 2) := by decide +kernel
theorem d_MD_product_46 : decode prog_14_method_97_code 46 = .ok (.lrem, 1) := by decide +kernel
theorem d_MD_product_47 : decode prog_14_method_97_code 47 = .ok (.lstore 9, 2) := by decide +kernel
theorem d_MD_product_49 : decode prog_14_method_97_code 49 = .ok (.lload 11, 2) := by decide +kernel
theorem d_MD_product_51 : decode prog_14_method_97_code 51 = .ok (.iconst 1, 1) := by decide +kernel
theorem d_MD_product_52 : decode prog_14_method_97_code 52 = .ok (.lshr, 1) := by decide +kernel
theorem d_MD_product_53 : decode prog_14_method_97_code 53 = .ok (.lstore 11, 2) := by decide +kernel
theorem d_MD_product_55 : decode prog_14_method_97_code 55 = .ok (.goto (-43), 3) := by decide +kernel
theorem d_MD_product_28 : decode prog_14_method_97_code 28 = .ok (.lload 7, 2) := by decide +kernel
theorem d_MD_product_30 : decode prog_14_method_97_code 30 = .ok (.lload 9, 2) := by decide +kernel
theorem d_MD_product_32 : decode prog_14_method_97_code 32 = .ok (.ladd, 1) := by decide +kernel
theorem d_MD_product_33 : decode prog_14_method_97_code 33 = .ok (.lload 5, 2) := by decide +kernel
theorem d_MD_product_35 : decode prog_14_method_97_code 35 = .ok (.lrem, 1) := by decide +kernel
theorem d_MD_product_36 : decode prog_14_method_97_code 36 = .ok (.lstore 7, 2) := by decide +kernel
theorem s_MD_product {G : cx_T} {h : ah_T} {a1 : Int} {a2 : Int} {a3 : Int} (la1 : 0 ≤ a1) (ua1 : a1 ≤ 4611686018427387904) (la3 : 1 ≤ a3) (ua3 : a3 ≤ 2305843009213693952) : con G 0 0 0 m_MD_product [av_R (some 170), av_L a1, av_L a2, av_L a3] h (fun r h' => ∃ z, r = some (av_L z) ∧ ((-2305843009213693952) ≤ z ∧ z ≤ 2305843009213693952) ∧ (-a3 < z ∧ z < a3) ∧ h = h') := by
  refine con_of (L := [some (av_R (some 170)), some (av_L a1), none, some (av_L a2), none, some (av_L a3), none, none, none, none, none, none, none]) (by decide +kernel) (Nat.le_of_ble_eq_true rfl) rfl ?_
  refine A_locL 3 rfl (fun ra => ?_)
  obtain ⟨_, _⟩ := ra
  refine A_lconst_0 d_MD_product_0 ?_
  refine A_lstore (L' := [some (av_R (some 170)), some (av_L a1), none, some (av_L a2), none, some (av_L a3), none, some (av_L 0), none, none, none, none, none]) d_MD_product_1 (Nat.le_of_ble_eq_true rfl) rfl ?_
  refine A_lload_n 3 d_MD_product_3 rfl rfl ?_
  refine A_lload d_MD_product_4 rfl ?_
  refine A_lremc d_MD_product_6 (by omega) (fun x1 ex1 _ _ => ?_)
  have bx1 := rem_c ex1 (by omega)
  refine A_pc (pc' := 7) rfl ?_
  refine A_lstore (L' := [some (av_R (some 170)), some (av_L a1), none, some (av_L a2), none, some (av_L a3), none, some (av_L 0), none, some (av_L x1), none, none, none]) d_MD_product_7 (Nat.le_of_ble_eq_true rfl) rfl ?_
  refine A_lload_n 1 d_MD_product_9 rfl rfl ?_
  refine A_lstore (L' := [some (av_R (some 170)), some (av_L a1), none, some (av_L a2), none, some (av_L a3), none, some (av_L 0), none, some (av_L x1), none, some (av_L a1), none]) d_MD_product_10 (Nat.le_of_ble_eq_true rfl) rfl ?_
  have lp12 : ∀ (n : Nat) (i2 i3 i4 : Int) , (-9223372036854775808) ≤ i2 → i2 ≤ 9223372036854775807 → (-9223372036854775808) ≤ i3 → i3 ≤ 9223372036854775807 → 0 ≤ i4 → i4 ≤ 4611686018427387904 → (-a3 < i2 ∧ i2 < a3) → (i4).toNat < n → aw G (rm_R 0 0 0) m_MD_product 0 0 12 [some (av_R (some 170)), some (av_L a1), none, some (av_L a2), none, some (av_L a3), none, some (av_L i2), none, some (av_L i3), none, some (av_L i4), none] [] h (fun r h' => ∃ z, r = some (av_L z) ∧ ((-2305843009213693952) ≤ z ∧ z ≤ 2305843009213693952) ∧ (-a3 < z ∧ z < a3) ∧ h = h') := by
    intro n
    induction n with
    | zero => intro i2 i3 i4 _ _ _ _ _ _ _ hm; omega
    | succ n ih12 =>
      intro i2 i3 i4 hl0 hl1 hl2 hl3 hl4 hl5 hinv hm
      refine A_lload d_MD_product_12 rfl ?_
      refine A_lconst_0 d_MD_product_14 ?_
      refine A_lcmpn d_MD_product_15 (fun x5 lx5 ex5 gx5 _ _ => ?_)
      refine A_if_le (tgt := 58) d_MD_product_16 (by decide) (fun c6 => ?_) (fun c6 => ?_)
      · have mc6 : i4 ≤ 0 := by omega
        refine A_lload d_MD_product_58 rfl ?_
        exact A_lret d_MD_product_60 (by decide) rfl ⟨_, rfl, ⟨by omega, by omega⟩, (by omega), rfl⟩
      · have mc6 : i4 > 0 := by omega
        refine A_lload d_MD_product_19 rfl ?_
        refine A_lconst_1 d_MD_product_21 ?_
        refine A_land d_MD_product_22 ?_
        refine A_nrL (fun x7 ex7 _ _ => ?_)
        refine A_lconst_1 d_MD_product_23 ?_
        refine A_lcmpn d_MD_product_24 (fun x8 lx8 ex8 gx8 _ _ => ?_)
        refine A_pc (pc' := 25) rfl ?_
        refine A_if_ne (tgt := 38) d_MD_product_25 (by decide) (fun c9 => ?_) (fun c9 => ?_)
        · have mc9 : (x7 - 1) ≠ 0 := by omega
          refine A_ldc2 (z := 2) d_MD_product_38 cst_MD_452 rfl ?_
          refine A_lload d_MD_product_41 rfl ?_
          refine A_lmulw d_MD_product_43 (fun x10 _ _ _ => ?_)
          refine A_lload d_MD_product_44 rfl ?_
          refine A_lremc d_MD_product_46 (by omega) (fun x11 ex11 _ _ => ?_)
          have bx11 := rem_c ex11 (by omega)
          refine A_pc (pc' := 47) rfl ?_
          refine A_lstore (L' := [some (av_R (some 170)), some (av_L a1), none, some (av_L a2), none, some (av_L a3), none, some (av_L i2), none, some (av_L x11), none, some (av_L i4), none]) d_MD_product_47 (Nat.le_of_ble_eq_true rfl) rfl ?_
          refine A_lload d_MD_product_49 rfl ?_
          refine A_iconst d_MD_product_51 rfl ?_
          refine A_lshr d_MD_product_52 ?_
          refine A_nrL (fun x12 ex12 _ _ => ?_)
          have bx12 := lshr1 ex12 (by omega) (by omega)
          refine A_lstore (L' := [some (av_R (some 170)), some (av_L a1), none, some (av_L a2), none, some (av_L a3), none, some (av_L i2), none, some (av_L x11), none, some (av_L x12), none]) d_MD_product_53 (Nat.le_of_ble_eq_true rfl) rfl ?_
          refine A_goto (tgt := 12) d_MD_product_55 (by decide) ?_
          exact ih12 i2 x11 x12 (by omega) (by omega) (by omega) (by omega) (by omega) (by omega) (by omega) (by omega)
        · have mc9 : (x7 - 1) = 0 := by omega
          refine A_lload d_MD_product_28 rfl ?_
          refine A_lload d_MD_product_30 rfl ?_
          refine A_laddw d_MD_product_32 (fun x13 _ _ _ => ?_)
          refine A_lload d_MD_product_33 rfl ?_
          refine A_lremc d_MD_product_35 (by omega) (fun x14 ex14 _ _ => ?_)
          have bx14 := rem_c ex14 (by omega)
          refine A_pc (pc' := 36) rfl ?_
          refine A_lstore (L' := [some (av_R (some 170)), some (av_L a1), none, some (av_L a2), none, some (av_L a3), none, some (av_L x14), none, some (av_L i3), none, some (av_L i4), none]) d_MD_product_36 (Nat.le_of_ble_eq_true rfl) rfl ?_
          refine A_ldc2 (z := 2) d_MD_product_38 cst_MD_452 rfl ?_
          refine A_lload d_MD_product_41 rfl ?_
          refine A_lmulw d_MD_product_43 (fun x15 _ _ _ => ?_)
          refine A_lload d_MD_product_44 rfl ?_
          refine A_lremc d_MD_product_46 (by omega) (fun x16 ex16 _ _ => ?_)
          have bx16 := rem_c ex16 (by omega)
          refine A_pc (pc' := 47) rfl ?_
          refine A_lstore (L' := [some (av_R (some 170)), some (av_L a1), none, some (av_L a2), none, some (av_L a3), none, some (av_L x14), none, some (av_L x16), none, some (av_L i4), none]) d_MD_product_47 (Nat.le_of_ble_eq_true rfl) rfl ?_
          refine A_lload d_MD_product_49 rfl ?_
          refine A_iconst d_MD_product_51 rfl ?_
          refine A_lshr d_MD_product_52 ?_
          refine A_nrL (fun x17 ex17 _ _ => ?_)
          have bx17 := lshr1 ex17 (by omega) (by omega)
          refine A_lstore (L' := [some (av_R (some 170)), some (av_L a1), none, some (av_L a2), none, some (av_L a3), none, some (av_L x14), none, some (av_L x16), none, some (av_L x17), none]) d_MD_product_53 (Nat.le_of_ble_eq_true rfl) rfl ?_
          refine A_goto (tgt := 12) d_MD_product_55 (by decide) ?_
          exact ih12 x14 x16 x17 (by omega) (by omega) (by omega) (by omega) (by omega) (by omega) (by omega) (by omega)
  exact lp12 _ 0 x1 a1 (by omega) (by omega) (by omega) (by omega) (by omega) (by omega) (by omega) (Nat.lt_succ_self _)
