/-! ===== Judge: what its methods leave as it was ===== -/
abbrev FCJ : Nat → Prop := fun a => a < 143 ∨ 146 ≤ a
theorem z_Judge_add {G : cx_T} {s : Nat} {h : ah_T} (hx : xi s h) {a1 : Int} {a2 : Int} {a3 : Int} {a4 : Int}  : con G 0 0 0 m_Judge_add [av_R (some 143), av_I a1, av_I a2, av_I a3, av_I a4] h (fun r h' => r = none ∧ kF FCJ s h h') := by
  refine con_of (L := [some (av_R (some 143)), some (av_I a1), some (av_I a2), some (av_I a3), some (av_I a4)]) (by decide +kernel) (Nat.le_of_ble_eq_true rfl) rfl ?_
  have hS : isS s := hx.2.1
  have hs0 : s = 17 ∨ s = 80 := hS
  have k0 : kF FCJ s h h := kF_0 hx
  refine A_locI 1 rfl (fun ra => ?_)
  obtain ⟨_, _⟩ := ra
  refine A_locI 2 rfl (fun ra => ?_)
  obtain ⟨_, _⟩ := ra
  refine A_locI 3 rfl (fun ra => ?_)
  obtain ⟨_, _⟩ := ra
  refine A_locI 4 rfl (fun ra => ?_)
  obtain ⟨_, _⟩ := ra
  refine A_aload_n 0 d_Judge_add_0 rfl rfl ?_
  refine A_getIn (lo := 0) (hi := 6404) T_ok d_Judge_add_1 f_Judge_18 (xi_s k0.1 sf_143) (xi_g k0.1 (by decide) rgf_143_1) (fun x1 ex1 _ _ => ?_)
  refine A_aload_n 0 d_Judge_add_4 rfl rfl ?_
  refine A_getAv (z := some 144) T_ok d_Judge_add_5 f_Judge_11 (xi_s k0.1 sf_143) (xi_r k0.1 rff_143_0) ?_
  refine A_alenN d_Judge_add_8 (xi_s k0.1 sf_144) (by decide) (by decide) ?_
  refine A_pc (pc' := 9) rfl ?_
  refine A_icmp_ge (tgt := 46) d_Judge_add_9 (by decide) (fun c3 => ?_) (fun c3 => ?_)
  · exact A_vret d_Judge_add_46 (by decide) rfl ⟨rfl, k0⟩
  · refine A_aload_n 0 d_Judge_add_12 rfl rfl ?_
    refine A_getAv (z := some 144) T_ok d_Judge_add_13 f_Judge_11 (xi_s k0.1 sf_143) (xi_r k0.1 rff_143_0) ?_
    refine A_aload_n 0 d_Judge_add_16 rfl rfl ?_
    refine A_getIv (z := x1) T_ok d_Judge_add_17 f_Judge_18 (xi_s k0.1 sf_143) ex1.symm ?_
    refine A_iload_n 1 d_Judge_add_20 rfl rfl ?_
    refine A_pc (pc' := 21) rfl ?_
    refine A_iload_n 2 d_Judge_add_21 rfl rfl ?_
    refine A_iconst d_Judge_add_22 rfl ?_
    refine A_ishl d_Judge_add_23 ?_
    refine A_nrI (fun x6 ex6 _ _ => ?_)
    refine A_ior d_Judge_add_24 ?_
    refine A_nrI (fun x7 ex7 _ _ => ?_)
    refine A_iload_n 3 d_Judge_add_25 rfl rfl ?_
    refine A_iconst d_Judge_add_26 rfl ?_
    refine A_pc (pc' := 27) rfl ?_
    refine A_ishl d_Judge_add_27 ?_
    refine A_nrI (fun x8 ex8 _ _ => ?_)
    refine A_ior d_Judge_add_28 ?_
    refine A_nrI (fun x9 ex9 _ _ => ?_)
    refine A_iload d_Judge_add_29 rfl ?_
    refine A_bipush d_Judge_add_31 rfl ?_
    refine A_ishl d_Judge_add_33 ?_
    refine A_nrI (fun x10 ex10 _ _ => ?_)
    refine A_ior d_Judge_add_34 ?_
    refine A_nrI (fun x11 ex11 _ _ => ?_)
    refine A_pc (pc' := 35) rfl ?_
    refine A_iastorek (KR := kF FCJ s h) d_Judge_add_35 (xi_s k0.1 sf_144) (by omega) (by omega) (kF_j k0 (by decide) (ns_b rfl) (rgf_144 _) (by omega) (by omega)) (fun h12 k13 eh12 => ?_)
    refine A_aload_n 0 d_Judge_add_36 rfl rfl ?_
    refine A_dupR d_Judge_add_37 ?_
    refine A_getIv (z := x1) T_ok d_Judge_add_38 f_Judge_18 (xi_s k13.1 sf_143) ((eh12.1 _ _ (fun q => absurd q (by decide))).trans ex1.symm) ?_
    refine A_iconst d_Judge_add_41 rfl ?_
    refine A_iaddv (z := (x1 + 1)) d_Judge_add_42 (w32_to (by omega) (by unfold i32; omega)) ?_
    refine A_pc (pc' := 43) rfl ?_
    refine A_putIk (KR := kF FCJ s h) T_ok d_Judge_add_43 f_Judge_18 (xi_s k13.1 sf_143) fin_f (kF_j k13 (by decide) (ns_b rfl) rgf_143_1 (by omega) (by omega)) (fun h15 k16 eh15 => ?_)
    exact A_vret d_Judge_add_46 (by decide) rfl ⟨rfl, k16⟩
theorem z_Judge_hearAlone {G : cx_T} {s : Nat} {h : ah_T} (hx : xi s h) {a1 : Nat} {a2 : Int} {a3 : Int} (ha1 : isV a1) (la3 : 0 ≤ a3) (ua3 : a3 ≤ 299) : con G 3 0 0 m_Judge_hearAlone [av_R (some 143), av_R (some a1), av_I a2, av_I a3] h (fun r h' => r = none ∧ kF FCJ s h h') := by
  refine con_of (L := [some (av_R (some 143)), some (av_R (some a1)), some (av_I a2), some (av_I a3)]) (by decide +kernel) (Nat.le_of_ble_eq_true rfl) rfl ?_
  have hS : isS s := hx.2.1
  have hs0 : s = 17 ∨ s = 80 := hS
  have k0 : kF FCJ s h h := kF_0 hx
  have ga1 := lt_V ha1
  refine A_locI 2 rfl (fun ra => ?_)
  obtain ⟨_, _⟩ := ra
  refine A_aload_n 1 d_Judge_hearAlone_0 rfl rfl ?_
  refine A_iload_n 3 d_Judge_hearAlone_1 rfl rfl ?_
  refine A_callV1 m_Voice_isTied T_ok d_Judge_hearAlone_2 l_Judge_75 k_Voice_isTied (xs_V k0.1 ha1) rfl (by decide +kernel) (by decide) (Nat.le_of_ble_eq_true rfl) (s_Voice_isTied k0.1 ha1 (by omega) (by omega)) (fun r h1 hq => ?_)
  obtain ⟨x3, rfl, bx3, rfl⟩ := hq
  refine A_if_eq (tgt := 24) d_Judge_hearAlone_5 (by decide) (fun c4 => ?_) (fun c4 => ?_)
  · refine A_iload_n 3 d_Judge_hearAlone_24 rfl rfl ?_
    refine A_if_le (tgt := 75) d_Judge_hearAlone_25 (by decide) (fun c5 => ?_) (fun c5 => ?_)
    · exact A_vret d_Judge_hearAlone_75 (by decide) rfl ⟨rfl, k0⟩
    · refine A_aload_n 1 d_Judge_hearAlone_28 rfl rfl ?_
      refine A_iload_n 3 d_Judge_hearAlone_29 rfl rfl ?_
      refine A_callV1 m_Voice_isRest T_ok d_Judge_hearAlone_30 l_Judge_83 k_Voice_isRest (xs_V k0.1 ha1) rfl (by decide +kernel) (by decide) (Nat.le_of_ble_eq_true rfl) (s_Voice_isRest k0.1 ha1 (by omega) (by omega)) (fun r h6 hq => ?_)
      obtain ⟨x8, rfl, bx8, rfl⟩ := hq
      refine A_if_ne (tgt := 75) d_Judge_hearAlone_33 (by decide) (fun c9 => ?_) (fun c9 => ?_)
      · exact A_vret d_Judge_hearAlone_75 (by decide) rfl ⟨rfl, k0⟩
      · refine A_aload_n 1 d_Judge_hearAlone_36 rfl rfl ?_
        refine A_iload_n 3 d_Judge_hearAlone_37 rfl rfl ?_
        refine A_iconst d_Judge_hearAlone_38 rfl ?_
        refine A_isubv (z := (a3 - 1)) d_Judge_hearAlone_39 (w32_to (by omega) (by unfold i32; omega)) ?_
        refine A_callV1 m_Voice_isRest T_ok d_Judge_hearAlone_40 l_Judge_83 k_Voice_isRest (xs_V k0.1 ha1) rfl (by decide +kernel) (by decide) (Nat.le_of_ble_eq_true rfl) (s_Voice_isRest k0.1 ha1 (by omega) (by omega)) (fun r h10 hq => ?_)
        obtain ⟨x12, rfl, bx12, rfl⟩ := hq
        refine A_if_ne (tgt := 75) d_Judge_hearAlone_43 (by decide) (fun c13 => ?_) (fun c13 => ?_)
        · exact A_vret d_Judge_hearAlone_75 (by decide) rfl ⟨rfl, k0⟩
        · refine A_aload_n 1 d_Judge_hearAlone_46 rfl rfl ?_
          refine A_iload_n 3 d_Judge_hearAlone_47 rfl rfl ?_
          refine A_callV1 m_Voice_lowestKey T_ok d_Judge_hearAlone_48 l_Judge_86 k_Voice_lowestKey (xs_V k0.1 ha1) rfl (by decide +kernel) (by decide) (Nat.le_of_ble_eq_true rfl) (s_Voice_lowestKey k0.1 ha1 (by omega) (by omega)) (fun r h14 hq => ?_)
          obtain ⟨x16, rfl, ⟨_, _⟩, rfl⟩ := hq
          refine A_aload_n 1 d_Judge_hearAlone_51 rfl rfl ?_
          refine A_iload_n 3 d_Judge_hearAlone_52 rfl rfl ?_
          refine A_iconst d_Judge_hearAlone_53 rfl ?_
          refine A_isubv (z := (a3 - 1)) d_Judge_hearAlone_54 (w32_to (by omega) (by unfold i32; omega)) ?_
          refine A_callV1 m_Voice_lowestKey T_ok d_Judge_hearAlone_55 l_Judge_86 k_Voice_lowestKey (xs_V k0.1 ha1) rfl (by decide +kernel) (by decide) (Nat.le_of_ble_eq_true rfl) (s_Voice_lowestKey k0.1 ha1 (by omega) (by omega)) (fun r h17 hq => ?_)
          obtain ⟨x19, rfl, ⟨_, _⟩, rfl⟩ := hq
          refine A_isubw d_Judge_hearAlone_58 (fun x20 _ _ _ => ?_)
          refine A_mabs d_Judge_hearAlone_59 lm_Judge_90 ma_abs (by decide) (by decide) (Nat.le_of_ble_eq_true rfl) rfl ?_
          refine A_nrI (fun x21 ex21 _ _ => ?_)
          refine A_bipush d_Judge_hearAlone_62 rfl ?_
          refine A_icmp_le (tgt := 75) d_Judge_hearAlone_64 (by decide) (fun c22 => ?_) (fun c22 => ?_)
          · exact A_vret d_Judge_hearAlone_75 (by decide) rfl ⟨rfl, k0⟩
          · refine A_aload_n 0 d_Judge_hearAlone_67 rfl rfl ?_
            refine A_iconst d_Judge_hearAlone_68 rfl ?_
            refine A_iload_n 2 d_Judge_hearAlone_69 rfl rfl ?_
            refine A_iload_n 3 d_Judge_hearAlone_70 rfl rfl ?_
            refine A_iconst d_Judge_hearAlone_71 rfl ?_
            refine A_pc (pc' := 72) rfl ?_
            refine A_callV4 m_Judge_add T_ok d_Judge_hearAlone_72 l_Judge_50 k_Judge_add (xi_s k0.1 sf_143) rfl (by decide +kernel) (by decide) (Nat.le_of_ble_eq_true rfl) (z_Judge_add k0.1 ) (fun r h23 hq => ?_)
            obtain ⟨rfl, k24⟩ := hq
            have k25 := kF_t k0 k24 (fun _ q => q)
            exact A_vret d_Judge_hearAlone_75 (by decide) rfl ⟨rfl, k25⟩
  · refine A_aload_n 1 d_Judge_hearAlone_8 rfl rfl ?_
    refine A_iload_n 3 d_Judge_hearAlone_9 rfl rfl ?_
    refine A_callS2 m_Judge_isHeld d_Judge_hearAlone_10 l_Judge_79 k_Judge_isHeld (by decide +kernel) (by decide) (Nat.le_of_ble_eq_true rfl) (s_Judge_isHeld k0.1 ha1 (by omega) (by omega)) (fun r h26 hq => ?_)
    obtain ⟨x28, rfl, bx28, rfl⟩ := hq
    refine A_if_ne (tgt := 24) d_Judge_hearAlone_13 (by decide) (fun c29 => ?_) (fun c29 => ?_)
    · refine A_iload_n 3 d_Judge_hearAlone_24 rfl rfl ?_
      refine A_if_le (tgt := 75) d_Judge_hearAlone_25 (by decide) (fun c30 => ?_) (fun c30 => ?_)
      · exact A_vret d_Judge_hearAlone_75 (by decide) rfl ⟨rfl, k0⟩
      · refine A_aload_n 1 d_Judge_hearAlone_28 rfl rfl ?_
        refine A_iload_n 3 d_Judge_hearAlone_29 rfl rfl ?_
        refine A_callV1 m_Voice_isRest T_ok d_Judge_hearAlone_30 l_Judge_83 k_Voice_isRest (xs_V k0.1 ha1) rfl (by decide +kernel) (by decide) (Nat.le_of_ble_eq_true rfl) (s_Voice_isRest k0.1 ha1 (by omega) (by omega)) (fun r h31 hq => ?_)
        obtain ⟨x33, rfl, bx33, rfl⟩ := hq
        refine A_if_ne (tgt := 75) d_Judge_hearAlone_33 (by decide) (fun c34 => ?_) (fun c34 => ?_)
        · exact A_vret d_Judge_hearAlone_75 (by decide) rfl ⟨rfl, k0⟩
        · refine A_aload_n 1 d_Judge_hearAlone_36 rfl rfl ?_
          refine A_iload_n 3 d_Judge_hearAlone_37 rfl rfl ?_
          refine A_iconst d_Judge_hearAlone_38 rfl ?_
          refine A_isubv (z := (a3 - 1)) d_Judge_hearAlone_39 (w32_to (by omega) (by unfold i32; omega)) ?_
          refine A_callV1 m_Voice_isRest T_ok d_Judge_hearAlone_40 l_Judge_83 k_Voice_isRest (xs_V k0.1 ha1) rfl (by decide +kernel) (by decide) (Nat.le_of_ble_eq_true rfl) (s_Voice_isRest k0.1 ha1 (by omega) (by omega)) (fun r h35 hq => ?_)
          obtain ⟨x37, rfl, bx37, rfl⟩ := hq
          refine A_if_ne (tgt := 75) d_Judge_hearAlone_43 (by decide) (fun c38 => ?_) (fun c38 => ?_)
          · exact A_vret d_Judge_hearAlone_75 (by decide) rfl ⟨rfl, k0⟩
          · refine A_aload_n 1 d_Judge_hearAlone_46 rfl rfl ?_
            refine A_iload_n 3 d_Judge_hearAlone_47 rfl rfl ?_
            refine A_callV1 m_Voice_lowestKey T_ok d_Judge_hearAlone_48 l_Judge_86 k_Voice_lowestKey (xs_V k0.1 ha1) rfl (by decide +kernel) (by decide) (Nat.le_of_ble_eq_true rfl) (s_Voice_lowestKey k0.1 ha1 (by omega) (by omega)) (fun r h39 hq => ?_)
            obtain ⟨x41, rfl, ⟨_, _⟩, rfl⟩ := hq
            refine A_aload_n 1 d_Judge_hearAlone_51 rfl rfl ?_
            refine A_iload_n 3 d_Judge_hearAlone_52 rfl rfl ?_
            refine A_iconst d_Judge_hearAlone_53 rfl ?_
            refine A_isubv (z := (a3 - 1)) d_Judge_hearAlone_54 (w32_to (by omega) (by unfold i32; omega)) ?_
            refine A_callV1 m_Voice_lowestKey T_ok d_Judge_hearAlone_55 l_Judge_86 k_Voice_lowestKey (xs_V k0.1 ha1) rfl (by decide +kernel) (by decide) (Nat.le_of_ble_eq_true rfl) (s_Voice_lowestKey k0.1 ha1 (by omega) (by omega)) (fun r h42 hq => ?_)
            obtain ⟨x44, rfl, ⟨_, _⟩, rfl⟩ := hq
            refine A_isubw d_Judge_hearAlone_58 (fun x45 _ _ _ => ?_)
            refine A_mabs d_Judge_hearAlone_59 lm_Judge_90 ma_abs (by decide) (by decide) (Nat.le_of_ble_eq_true rfl) rfl ?_
            refine A_nrI (fun x46 ex46 _ _ => ?_)
            refine A_bipush d_Judge_hearAlone_62 rfl ?_
            refine A_icmp_le (tgt := 75) d_Judge_hearAlone_64 (by decide) (fun c47 => ?_) (fun c47 => ?_)
            · exact A_vret d_Judge_hearAlone_75 (by decide) rfl ⟨rfl, k0⟩
            · refine A_aload_n 0 d_Judge_hearAlone_67 rfl rfl ?_
              refine A_iconst d_Judge_hearAlone_68 rfl ?_
              refine A_iload_n 2 d_Judge_hearAlone_69 rfl rfl ?_
              refine A_iload_n 3 d_Judge_hearAlone_70 rfl rfl ?_
              refine A_iconst d_Judge_hearAlone_71 rfl ?_
              refine A_pc (pc' := 72) rfl ?_
              refine A_callV4 m_Judge_add T_ok d_Judge_hearAlone_72 l_Judge_50 k_Judge_add (xi_s k0.1 sf_143) rfl (by decide +kernel) (by decide) (Nat.le_of_ble_eq_true rfl) (z_Judge_add k0.1 ) (fun r h48 hq => ?_)
              obtain ⟨rfl, k49⟩ := hq
              have k50 := kF_t k0 k49 (fun _ q => q)
              exact A_vret d_Judge_hearAlone_75 (by decide) rfl ⟨rfl, k50⟩
    · refine A_aload_n 0 d_Judge_hearAlone_16 rfl rfl ?_
      refine A_iconst d_Judge_hearAlone_17 rfl ?_
      refine A_iload_n 2 d_Judge_hearAlone_18 rfl rfl ?_
      refine A_iload_n 3 d_Judge_hearAlone_19 rfl rfl ?_
      refine A_iconst d_Judge_hearAlone_20 rfl ?_
      refine A_pc (pc' := 21) rfl ?_
      refine A_callV4 m_Judge_add T_ok d_Judge_hearAlone_21 l_Judge_50 k_Judge_add (xi_s k0.1 sf_143) rfl (by decide +kernel) (by decide) (Nat.le_of_ble_eq_true rfl) (z_Judge_add k0.1 ) (fun r h51 hq => ?_)
      obtain ⟨rfl, k52⟩ := hq
      have k53 := kF_t k0 k52 (fun _ q => q)
      refine A_iload_n 3 d_Judge_hearAlone_24 rfl rfl ?_
      refine A_if_le (tgt := 75) d_Judge_hearAlone_25 (by decide) (fun c54 => ?_) (fun c54 => ?_)
      · exact A_vret d_Judge_hearAlone_75 (by decide) rfl ⟨rfl, k53⟩
      · refine A_aload_n 1 d_Judge_hearAlone_28 rfl rfl ?_
        refine A_iload_n 3 d_Judge_hearAlone_29 rfl rfl ?_
        refine A_callV1 m_Voice_isRest T_ok d_Judge_hearAlone_30 l_Judge_83 k_Voice_isRest (xs_V k53.1 ha1) rfl (by decide +kernel) (by decide) (Nat.le_of_ble_eq_true rfl) (s_Voice_isRest k53.1 ha1 (by omega) (by omega)) (fun r h55 hq => ?_)
        obtain ⟨x57, rfl, bx57, rfl⟩ := hq
        refine A_if_ne (tgt := 75) d_Judge_hearAlone_33 (by decide) (fun c58 => ?_) (fun c58 => ?_)
        · exact A_vret d_Judge_hearAlone_75 (by decide) rfl ⟨rfl, k53⟩
        · refine A_aload_n 1 d_Judge_hearAlone_36 rfl rfl ?_
          refine A_iload_n 3 d_Judge_hearAlone_37 rfl rfl ?_
          refine A_iconst d_Judge_hearAlone_38 rfl ?_
          refine A_isubv (z := (a3 - 1)) d_Judge_hearAlone_39 (w32_to (by omega) (by unfold i32; omega)) ?_
          refine A_callV1 m_Voice_isRest T_ok d_Judge_hearAlone_40 l_Judge_83 k_Voice_isRest (xs_V k53.1 ha1) rfl (by decide +kernel) (by decide) (Nat.le_of_ble_eq_true rfl) (s_Voice_isRest k53.1 ha1 (by omega) (by omega)) (fun r h59 hq => ?_)
          obtain ⟨x61, rfl, bx61, rfl⟩ := hq
          refine A_if_ne (tgt := 75) d_Judge_hearAlone_43 (by decide) (fun c62 => ?_) (fun c62 => ?_)
          · exact A_vret d_Judge_hearAlone_75 (by decide) rfl ⟨rfl, k53⟩
          · refine A_aload_n 1 d_Judge_hearAlone_46 rfl rfl ?_
            refine A_iload_n 3 d_Judge_hearAlone_47 rfl rfl ?_
            refine A_callV1 m_Voice_lowestKey T_ok d_Judge_hearAlone_48 l_Judge_86 k_Voice_lowestKey (xs_V k53.1 ha1) rfl (by decide +kernel) (by decide) (Nat.le_of_ble_eq_true rfl) (s_Voice_lowestKey k53.1 ha1 (by omega) (by omega)) (fun r h63 hq => ?_)
            obtain ⟨x65, rfl, ⟨_, _⟩, rfl⟩ := hq
            refine A_aload_n 1 d_Judge_hearAlone_51 rfl rfl ?_
            refine A_iload_n 3 d_Judge_hearAlone_52 rfl rfl ?_
            refine A_iconst d_Judge_hearAlone_53 rfl ?_
            refine A_isubv (z := (a3 - 1)) d_Judge_hearAlone_54 (w32_to (by omega) (by unfold i32; omega)) ?_
            refine A_callV1 m_Voice_lowestKey T_ok d_Judge_hearAlone_55 l_Judge_86 k_Voice_lowestKey (xs_V k53.1 ha1) rfl (by decide +kernel) (by decide) (Nat.le_of_ble_eq_true rfl) (s_Voice_lowestKey k53.1 ha1 (by omega) (by omega)) (fun r h66 hq => ?_)
            obtain ⟨x68, rfl, ⟨_, _⟩, rfl⟩ := hq
            refine A_isubw d_Judge_hearAlone_58 (fun x69 _ _ _ => ?_)
            refine A_mabs d_Judge_hearAlone_59 lm_Judge_90 ma_abs (by decide) (by decide) (Nat.le_of_ble_eq_true rfl) rfl ?_
            refine A_nrI (fun x70 ex70 _ _ => ?_)
            refine A_bipush d_Judge_hearAlone_62 rfl ?_
            refine A_icmp_le (tgt := 75) d_Judge_hearAlone_64 (by decide) (fun c71 => ?_) (fun c71 => ?_)
            · exact A_vret d_Judge_hearAlone_75 (by decide) rfl ⟨rfl, k53⟩
            · refine A_aload_n 0 d_Judge_hearAlone_67 rfl rfl ?_
              refine A_iconst d_Judge_hearAlone_68 rfl ?_
              refine A_iload_n 2 d_Judge_hearAlone_69 rfl rfl ?_
              refine A_iload_n 3 d_Judge_hearAlone_70 rfl rfl ?_
              refine A_iconst d_Judge_hearAlone_71 rfl ?_
              refine A_pc (pc' := 72) rfl ?_
              refine A_callV4 m_Judge_add T_ok d_Judge_hearAlone_72 l_Judge_50 k_Judge_add (xi_s k53.1 sf_143) rfl (by decide +kernel) (by decide) (Nat.le_of_ble_eq_true rfl) (z_Judge_add k53.1 ) (fun r h72 hq => ?_)
              obtain ⟨rfl, k73⟩ := hq
              have k74 := kF_t k53 k73 (fun _ q => q)
              exact A_vret d_Judge_hearAlone_75 (by decide) rfl ⟨rfl, k74⟩
theorem z_Judge_hearCrossings {G : cx_T} {s : Nat} {h : ah_T} (hx : xi s h) {a1 : Nat} {a2 : Nat} {a3 : Int} {a4 : Int} (ha1 : isS a1) (ha2 : isV a2) (la4 : 0 ≤ a4) (ua4 : a4 ≤ 299) : con G 3 0 0 m_Judge_hearCrossings [av_R (some 143), av_R (some a1), av_R (some a2), av_I a3, av_I a4] h (fun r h' => r = none ∧ kF FCJ s h h') := by
  refine con_of (L := [some (av_R (some 143)), some (av_R (some a1)), some (av_R (some a2)), some (av_I a3), some (av_I a4), none, none]) (by decide +kernel) (Nat.le_of_ble_eq_true rfl) rfl ?_
  have hS : isS s := hx.2.1
  have hs0 : s = 17 ∨ s = 80 := hS
  have k0 : kF FCJ s h h := kF_0 hx
  have ga2 := lt_V ha2
  refine A_locI 3 rfl (fun ra => ?_)
  obtain ⟨_, _⟩ := ra
  refine A_iconst d_Judge_hearCrossings_0 rfl ?_
  refine A_istore (L' := [some (av_R (some 143)), some (av_R (some a1)), some (av_R (some a2)), some (av_I a3), some (av_I a4), some (av_I 0), none]) d_Judge_hearCrossings_1 (Nat.le_of_ble_eq_true rfl) rfl ?_
  have lp3 : ∀ (n : Nat) (i1 : Int) (h2 : ah_T) , 0 ≤ i1 → i1 ≤ 4 → kF FCJ s h h2 → (5 - i1).toNat < n → aw G (rm_R 3 0 0) m_Judge_hearCrossings 0 0 3 [some (av_R (some 143)), some (av_R (some a1)), some (av_R (some a2)), some (av_I a3), some (av_I a4), some (av_I i1), none] [] h2 (fun r h' => r = none ∧ kF FCJ s h h') := by
    intro n
    induction n with
    | zero => intro i1 h2 _ _ _ hm; omega
    | succ n ih3 =>
      intro i1 h2 hl0 hl1 k3 hm
      refine A_iload d_Judge_hearCrossings_3 rfl ?_
      refine A_iload_n 3 d_Judge_hearCrossings_5 rfl rfl ?_
      refine A_icmp_ge (tgt := 88) d_Judge_hearCrossings_6 (by decide) (fun c4 => ?_) (fun c4 => ?_)
      · exact A_vret d_Judge_hearCrossings_88 (by decide) rfl ⟨rfl, k3⟩
      · refine A_iload d_Judge_hearCrossings_9 rfl ?_
        refine A_aload_n 0 d_Judge_hearCrossings_11 rfl rfl ?_
        refine A_getAv (z := some 145) T_ok d_Judge_hearCrossings_12 f_Judge_15 (xi_s k3.1 sf_143) (xi_r k3.1 rff_143_2) ?_
        refine A_alenN d_Judge_hearCrossings_15 (xi_s k3.1 sf_145) (by decide) (by decide) ?_
        refine A_icmp_ge (tgt := 88) d_Judge_hearCrossings_16 (by decide) (fun c6 => ?_) (fun c6 => ?_)
        · exact A_vret d_Judge_hearCrossings_88 (by decide) rfl ⟨rfl, k3⟩
        · refine A_aload_n 1 d_Judge_hearCrossings_19 rfl rfl ?_
          refine A_iload d_Judge_hearCrossings_20 rfl ?_
          refine A_callV1 m_Score_voiceAt T_ok d_Judge_hearCrossings_22 l_Judge_27 k_Score_voiceAt (xs_S k3.1 ha1) rfl (by decide +kernel) (by decide) (Nat.le_of_ble_eq_true rfl) (s_Score_voiceAt k3.1 ha1) (fun r h7 hq => ?_)
          obtain ⟨ox9, rfl, qx9, rfl⟩ := hq
          rcases qx9 with rfl | ⟨x9, rfl, tx9⟩
          · refine A_astore (L' := [some (av_R (some 143)), some (av_R (some a1)), some (av_R (some a2)), some (av_I a3), some (av_I a4), some (av_I i1), some (av_R none)]) d_Judge_hearCrossings_25 (Nat.le_of_ble_eq_true rfl) rfl ?_
            refine A_aload d_Judge_hearCrossings_27 rfl ?_
            refine A_ifnull (tgt := 82) d_Judge_hearCrossings_29 (by decide) (fun _ => ?_) (fun a q => by cases q)
            refine A_iincv (z := (i1 + 1)) (L' := [some (av_R (some 143)), some (av_R (some a1)), some (av_R (some a2)), some (av_I a3), some (av_I a4), some (av_I (i1 + 1)), some (av_R none)]) d_Judge_hearCrossings_82 rfl (w32_to (by omega) (by unfold i32; omega)) rfl ?_
            refine A_goto (tgt := 3) d_Judge_hearCrossings_85 (by decide) ?_
            refine A_free (L' := [some (av_R (some 143)), some (av_R (some a1)), some (av_R (some a2)), some (av_I a3), some (av_I a4), some (av_I (i1 + 1)), none]) (And.intro rfl (And.intro rfl (And.intro rfl (And.intro rfl (And.intro rfl (And.intro rfl trivial)))))) ?_
            exact ih3 (i1 + 1) h2 (by omega) (by omega) k3 (by omega)
          · refine A_astore (L' := [some (av_R (some 143)), some (av_R (some a1)), some (av_R (some a2)), some (av_I a3), some (av_I a4), some (av_I i1), some (av_R (some x9))]) d_Judge_hearCrossings_25 (Nat.le_of_ble_eq_true rfl) rfl ?_
            refine A_aload d_Judge_hearCrossings_27 rfl ?_
            refine A_ifnull (tgt := 82) d_Judge_hearCrossings_29 (by decide) (fun q => by cases q) (fun _ _ => ?_)
            refine A_aload_n 0 d_Judge_hearCrossings_32 rfl rfl ?_
            refine A_getAv (z := some 145) T_ok d_Judge_hearCrossings_33 f_Judge_15 (xi_s k3.1 sf_143) (xi_r k3.1 rff_143_2) ?_
            refine A_iload d_Judge_hearCrossings_36 rfl ?_
            refine A_aload d_Judge_hearCrossings_38 rfl ?_
            refine A_aload_n 0 d_Judge_hearCrossings_40 rfl rfl ?_
            refine A_pc (pc' := 41) rfl ?_
            refine A_getAv (z := some 145) T_ok d_Judge_hearCrossings_41 f_Judge_15 (xi_s k3.1 sf_143) (xi_r k3.1 rff_143_2) ?_
            refine A_iload d_Judge_hearCrossings_44 rfl ?_
            refine A_ialoadn (lo := 0) (hi := 300) d_Judge_hearCrossings_46 (xi_s k3.1 sf_145) (by omega) (by omega) (xi_g k3.1 (by decide) (rgf_145 _)) (fun x12 ex12 _ _ => ?_)
            refine A_aload_n 2 d_Judge_hearCrossings_47 rfl rfl ?_
            refine A_iload d_Judge_hearCrossings_48 rfl ?_
            refine A_callS4 m_Judge_firstNotEnded d_Judge_hearCrossings_50 l_Judge_106 k_Judge_firstNotEnded (by decide +kernel) (by decide) (Nat.le_of_ble_eq_true rfl) (s_Judge_firstNotEnded k3.1 (tV_V ha1 tx9) (by omega) (by omega) ha2 (by omega) (by omega)) (fun r h13 hq => ?_)
            obtain ⟨x15, rfl, ⟨_, _⟩, rfl⟩ := hq
            refine A_iastorek (KR := kF FCJ s h) d_Judge_hearCrossings_53 (xi_s k3.1 sf_145) (by omega) (by omega) (kF_j k3 (by decide) (ns_b rfl) (rgf_145 _) (by omega) (by omega)) (fun h16 k17 eh16 => ?_)
            refine A_aload d_Judge_hearCrossings_54 rfl ?_
            refine A_aload_n 0 d_Judge_hearCrossings_56 rfl rfl ?_
            refine A_getAv (z := some 145) T_ok d_Judge_hearCrossings_57 f_Judge_15 (xi_s k17.1 sf_143) (xi_r k17.1 rff_143_2) ?_
            refine A_iload d_Judge_hearCrossings_60 rfl ?_
            refine A_pc (pc' := 62) rfl ?_
            refine A_ialoadv (z := x15) d_Judge_hearCrossings_62 (xi_s k17.1 sf_145) (by omega) (by omega) eh16.2.1 ?_
            refine A_aload_n 2 d_Judge_hearCrossings_63 rfl rfl ?_
            refine A_iload d_Judge_hearCrossings_64 rfl ?_
            refine A_callS4 m_Judge_isCrossed d_Judge_hearCrossings_66 l_Judge_110 k_Judge_isCrossed (by decide +kernel) (by decide) (Nat.le_of_ble_eq_true rfl) (s_Judge_isCrossed k17.1 (tV_V ha1 tx9) (by omega) (by omega) ha2 (by omega) (by omega)) (fun r h20 hq => ?_)
            obtain ⟨x22, rfl, bx22, rfl⟩ := hq
            refine A_if_eq (tgt := 82) d_Judge_hearCrossings_69 (by decide) (fun c23 => ?_) (fun c23 => ?_)
            · refine A_iincv (z := (i1 + 1)) (L' := [some (av_R (some 143)), some (av_R (some a1)), some (av_R (some a2)), some (av_I a3), some (av_I a4), some (av_I (i1 + 1)), some (av_R (some x9))]) d_Judge_hearCrossings_82 rfl (w32_to (by omega) (by unfold i32; omega)) rfl ?_
              refine A_goto (tgt := 3) d_Judge_hearCrossings_85 (by decide) ?_
              refine A_free (L' := [some (av_R (some 143)), some (av_R (some a1)), some (av_R (some a2)), some (av_I a3), some (av_I a4), some (av_I (i1 + 1)), none]) (And.intro rfl (And.intro rfl (And.intro rfl (And.intro rfl (And.intro rfl (And.intro rfl trivial)))))) ?_
              exact ih3 (i1 + 1) h16 (by omega) (by omega) k17 (by omega)
            · refine A_aload_n 0 d_Judge_hearCrossings_72 rfl rfl ?_
              refine A_iconst d_Judge_hearCrossings_73 rfl ?_
              refine A_iload_n 3 d_Judge_hearCrossings_74 rfl rfl ?_
              refine A_iload d_Judge_hearCrossings_75 rfl ?_
              refine A_iload d_Judge_hearCrossings_77 rfl ?_
              refine A_pc (pc' := 79) rfl ?_
              refine A_callV4 m_Judge_add T_ok d_Judge_hearCrossings_79 l_Judge_50 k_Judge_add (xi_s k17.1 sf_143) rfl (by decide +kernel) (by decide) (Nat.le_of_ble_eq_true rfl) (z_Judge_add k17.1 ) (fun r h24 hq => ?_)
              obtain ⟨rfl, k25⟩ := hq
              have k26 := kF_t k17 k25 (fun _ q => q)
              refine A_iincv (z := (i1 + 1)) (L' := [some (av_R (some 143)), some (av_R (some a1)), some (av_R (some a2)), some (av_I a3), some (av_I a4), some (av_I (i1 + 1)), some (av_R (some x9))]) d_Judge_hearCrossings_82 rfl (w32_to (by omega) (by unfold i32; omega)) rfl ?_
              refine A_goto (tgt := 3) d_Judge_hearCrossings_85 (by decide) ?_
              refine A_free (L' := [some (av_R (some 143)), some (av_R (some a1)), some (av_R (some a2)), some (av_I a3), some (av_I a4), some (av_I (i1 + 1)), none]) (And.intro rfl (And.intro rfl (And.intro rfl (And.intro rfl (And.intro rfl (And.intro rfl trivial)))))) ?_
              exact ih3 (i1 + 1) h24 (by omega) (by omega) k26 (by omega)
  exact lp3 _ 0 h (by omega) (by omega) k0 (Nat.lt_succ_self _)
theorem z_Judge_hearParallels {G : cx_T} {s : Nat} {h : ah_T} (hx : xi s h) {a1 : Nat} {a2 : Nat} {a3 : Int} {a4 : Int} (ha1 : isS a1) (ha2 : isV a2) (la4 : 0 ≤ a4) (ua4 : a4 ≤ 299) : con G 3 0 0 m_Judge_hearParallels [av_R (some 143), av_R (some a1), av_R (some a2), av_I a3, av_I a4] h (fun r h' => r = none ∧ kF FCJ s h h') := by
  refine con_of (L := [some (av_R (some 143)), some (av_R (some a1)), some (av_R (some a2)), some (av_I a3), some (av_I a4), none, none]) (by decide +kernel) (Nat.le_of_ble_eq_true rfl) rfl ?_
  have hS : isS s := hx.2.1
  have hs0 : s = 17 ∨ s = 80 := hS
  have k0 : kF FCJ s h h := kF_0 hx
  have ga2 := lt_V ha2
  refine A_locI 3 rfl (fun ra => ?_)
  obtain ⟨_, _⟩ := ra
  refine A_iconst d_Judge_hearParallels_0 rfl ?_
  refine A_istore (L' := [some (av_R (some 143)), some (av_R (some a1)), some (av_R (some a2)), some (av_I a3), some (av_I a4), some (av_I 0), none]) d_Judge_hearParallels_1 (Nat.le_of_ble_eq_true rfl) rfl ?_
  have lp3 : ∀ (n : Nat) (i1 : Int) (h2 : ah_T) , 0 ≤ i1 → i1 ≤ 4 → kF FCJ s h h2 → (5 - i1).toNat < n → aw G (rm_R 3 0 0) m_Judge_hearParallels 0 0 3 [some (av_R (some 143)), some (av_R (some a1)), some (av_R (some a2)), some (av_I a3), some (av_I a4), some (av_I i1), none] [] h2 (fun r h' => r = none ∧ kF FCJ s h h') := by
    intro n
    induction n with
    | zero => intro i1 h2 _ _ _ hm; omega
    | succ n ih3 =>
      intro i1 h2 hl0 hl1 k3 hm
      refine A_iload d_Judge_hearParallels_3 rfl ?_
      refine A_iload_n 3 d_Judge_hearParallels_5 rfl rfl ?_
      refine A_icmp_ge (tgt := 66) d_Judge_hearParallels_6 (by decide) (fun c4 => ?_) (fun c4 => ?_)
      · exact A_vret d_Judge_hearParallels_66 (by decide) rfl ⟨rfl, k3⟩
      · refine A_iload d_Judge_hearParallels_9 rfl ?_
        refine A_aload_n 0 d_Judge_hearParallels_11 rfl rfl ?_
        refine A_getAv (z := some 145) T_ok d_Judge_hearParallels_12 f_Judge_15 (xi_s k3.1 sf_143) (xi_r k3.1 rff_143_2) ?_
        refine A_alenN d_Judge_hearParallels_15 (xi_s k3.1 sf_145) (by decide) (by decide) ?_
        refine A_icmp_ge (tgt := 66) d_Judge_hearParallels_16 (by decide) (fun c6 => ?_) (fun c6 => ?_)
        · exact A_vret d_Judge_hearParallels_66 (by decide) rfl ⟨rfl, k3⟩
        · refine A_aload_n 1 d_Judge_hearParallels_19 rfl rfl ?_
          refine A_iload d_Judge_hearParallels_20 rfl ?_
          refine A_callV1 m_Score_voiceAt T_ok d_Judge_hearParallels_22 l_Judge_27 k_Score_voiceAt (xs_S k3.1 ha1) rfl (by decide +kernel) (by decide) (Nat.le_of_ble_eq_true rfl) (s_Score_voiceAt k3.1 ha1) (fun r h7 hq => ?_)
          obtain ⟨ox9, rfl, qx9, rfl⟩ := hq
          rcases qx9 with rfl | ⟨x9, rfl, tx9⟩
          · refine A_astore (L' := [some (av_R (some 143)), some (av_R (some a1)), some (av_R (some a2)), some (av_I a3), some (av_I a4), some (av_I i1), some (av_R none)]) d_Judge_hearParallels_25 (Nat.le_of_ble_eq_true rfl) rfl ?_
            refine A_aload d_Judge_hearParallels_27 rfl ?_
            refine A_ifnull (tgt := 60) d_Judge_hearParallels_29 (by decide) (fun _ => ?_) (fun a q => by cases q)
            refine A_iincv (z := (i1 + 1)) (L' := [some (av_R (some 143)), some (av_R (some a1)), some (av_R (some a2)), some (av_I a3), some (av_I a4), some (av_I (i1 + 1)), some (av_R none)]) d_Judge_hearParallels_60 rfl (w32_to (by omega) (by unfold i32; omega)) rfl ?_
            refine A_goto (tgt := 3) d_Judge_hearParallels_63 (by decide) ?_
            refine A_free (L' := [some (av_R (some 143)), some (av_R (some a1)), some (av_R (some a2)), some (av_I a3), some (av_I a4), some (av_I (i1 + 1)), none]) (And.intro rfl (And.intro rfl (And.intro rfl (And.intro rfl (And.intro rfl (And.intro rfl trivial)))))) ?_
            exact ih3 (i1 + 1) h2 (by omega) (by omega) k3 (by omega)
          · refine A_astore (L' := [some (av_R (some 143)), some (av_R (some a1)), some (av_R (some a2)), some (av_I a3), some (av_I a4), some (av_I i1), some (av_R (some x9))]) d_Judge_hearParallels_25 (Nat.le_of_ble_eq_true rfl) rfl ?_
            refine A_aload d_Judge_hearParallels_27 rfl ?_
            refine A_ifnull (tgt := 60) d_Judge_hearParallels_29 (by decide) (fun q => by cases q) (fun _ _ => ?_)
            refine A_aload d_Judge_hearParallels_32 rfl ?_
            refine A_aload_n 0 d_Judge_hearParallels_34 rfl rfl ?_
            refine A_getAv (z := some 145) T_ok d_Judge_hearParallels_35 f_Judge_15 (xi_s k3.1 sf_143) (xi_r k3.1 rff_143_2) ?_
            refine A_iload d_Judge_hearParallels_38 rfl ?_
            refine A_ialoadn (lo := 0) (hi := 300) d_Judge_hearParallels_40 (xi_s k3.1 sf_145) (by omega) (by omega) (xi_g k3.1 (by decide) (rgf_145 _)) (fun x11 ex11 _ _ => ?_)
            refine A_pc (pc' := 41) rfl ?_
            refine A_aload_n 2 d_Judge_hearParallels_41 rfl rfl ?_
            refine A_iload d_Judge_hearParallels_42 rfl ?_
            refine A_callS4 m_Judge_isParallel d_Judge_hearParallels_44 l_Judge_133 k_Judge_isParallel (by decide +kernel) (by decide) (Nat.le_of_ble_eq_true rfl) (s_Judge_isParallel k3.1 (tV_V ha1 tx9) (by omega) (by omega) ha2 (by omega) (by omega)) (fun r h12 hq => ?_)
            obtain ⟨x14, rfl, bx14, rfl⟩ := hq
            refine A_if_eq (tgt := 60) d_Judge_hearParallels_47 (by decide) (fun c15 => ?_) (fun c15 => ?_)
            · refine A_iincv (z := (i1 + 1)) (L' := [some (av_R (some 143)), some (av_R (some a1)), some (av_R (some a2)), some (av_I a3), some (av_I a4), some (av_I (i1 + 1)), some (av_R (some x9))]) d_Judge_hearParallels_60 rfl (w32_to (by omega) (by unfold i32; omega)) rfl ?_
              refine A_goto (tgt := 3) d_Judge_hearParallels_63 (by decide) ?_
              refine A_free (L' := [some (av_R (some 143)), some (av_R (some a1)), some (av_R (some a2)), some (av_I a3), some (av_I a4), some (av_I (i1 + 1)), none]) (And.intro rfl (And.intro rfl (And.intro rfl (And.intro rfl (And.intro rfl (And.intro rfl trivial)))))) ?_
              exact ih3 (i1 + 1) h2 (by omega) (by omega) k3 (by omega)
            · refine A_aload_n 0 d_Judge_hearParallels_50 rfl rfl ?_
              refine A_iconst d_Judge_hearParallels_51 rfl ?_
              refine A_iload_n 3 d_Judge_hearParallels_52 rfl rfl ?_
              refine A_iload d_Judge_hearParallels_53 rfl ?_
              refine A_iload d_Judge_hearParallels_55 rfl ?_
              refine A_pc (pc' := 57) rfl ?_
              refine A_callV4 m_Judge_add T_ok d_Judge_hearParallels_57 l_Judge_50 k_Judge_add (xi_s k3.1 sf_143) rfl (by decide +kernel) (by decide) (Nat.le_of_ble_eq_true rfl) (z_Judge_add k3.1 ) (fun r h16 hq => ?_)
              obtain ⟨rfl, k17⟩ := hq
              have k18 := kF_t k3 k17 (fun _ q => q)
              refine A_iincv (z := (i1 + 1)) (L' := [some (av_R (some 143)), some (av_R (some a1)), some (av_R (some a2)), some (av_I a3), some (av_I a4), some (av_I (i1 + 1)), some (av_R (some x9))]) d_Judge_hearParallels_60 rfl (w32_to (by omega) (by unfold i32; omega)) rfl ?_
              refine A_goto (tgt := 3) d_Judge_hearParallels_63 (by decide) ?_
              refine A_free (L' := [some (av_R (some 143)), some (av_R (some a1)), some (av_R (some a2)), some (av_I a3), some (av_I a4), some (av_I (i1 + 1)), none]) (And.intro rfl (And.intro rfl (And.intro rfl (And.intro rfl (And.intro rfl (And.intro rfl trivial)))))) ?_
              exact ih3 (i1 + 1) h16 (by omega) (by omega) k18 (by omega)
  exact lp3 _ 0 h (by omega) (by omega) k0 (Nat.lt_succ_self _)
theorem z_Judge_hearVoice {G : cx_T} {s : Nat} {h : ah_T} (hx : xi s h) {a1 : Nat} {a2 : Nat} {a3 : Int} (ha1 : isS a1) (ha2 : isV a2) : con G 4 0 0 m_Judge_hearVoice [av_R (some 143), av_R (some a1), av_R (some a2), av_I a3] h (fun r h' => r = none ∧ kF FCJ s h h') := by
  refine con_of (L := [some (av_R (some 143)), some (av_R (some a1)), some (av_R (some a2)), some (av_I a3), none, none]) (by decide +kernel) (Nat.le_of_ble_eq_true rfl) rfl ?_
  have hS : isS s := hx.2.1
  have hs0 : s = 17 ∨ s = 80 := hS
  have k0 : kF FCJ s h h := kF_0 hx
  have ga2 := lt_V ha2
  refine A_locI 3 rfl (fun ra => ?_)
  obtain ⟨_, _⟩ := ra
  refine A_iconst d_Judge_hearVoice_0 rfl ?_
  refine A_istore (L' := [some (av_R (some 143)), some (av_R (some a1)), some (av_R (some a2)), some (av_I a3), some (av_I 0), none]) d_Judge_hearVoice_1 (Nat.le_of_ble_eq_true rfl) rfl ?_
  have lp3 : ∀ (n : Nat) (i1 : Int) (h2 : ah_T) , 0 ≤ i1 → i1 ≤ 4 → kF FCJ s h h2 → (5 - i1).toNat < n → aw G (rm_R 4 0 0) m_Judge_hearVoice 0 0 3 [some (av_R (some 143)), some (av_R (some a1)), some (av_R (some a2)), some (av_I a3), some (av_I i1), none] [] h2 (fun r h' => r = none ∧ kF FCJ s h h') := by
    intro n
    induction n with
    | zero => intro i1 h2 _ _ _ hm; omega
    | succ n ih3 =>
      intro i1 h2 hl0 hl1 k3 hm
      refine A_iload d_Judge_hearVoice_3 rfl ?_
      refine A_aload_n 0 d_Judge_hearVoice_5 rfl rfl ?_
      refine A_getAv (z := some 145) T_ok d_Judge_hearVoice_6 f_Judge_15 (xi_s k3.1 sf_143) (xi_r k3.1 rff_143_2) ?_
      refine A_alenN d_Judge_hearVoice_9 (xi_s k3.1 sf_145) (by decide) (by decide) ?_
      refine A_icmp_ge (tgt := 27) d_Judge_hearVoice_10 (by decide) (fun c5 => ?_) (fun c5 => ?_)
      · refine A_iconst d_Judge_hearVoice_27 rfl ?_
        refine A_istore (L' := [some (av_R (some 143)), some (av_R (some a1)), some (av_R (some a2)), some (av_I a3), some (av_I 0), none]) d_Judge_hearVoice_28 (Nat.le_of_ble_eq_true rfl) rfl ?_
        refine A_iconst d_Judge_hearVoice_30 rfl ?_
        refine A_istore (L' := [some (av_R (some 143)), some (av_R (some a1)), some (av_R (some a2)), some (av_I a3), some (av_I 0), some (av_I 0)]) d_Judge_hearVoice_31 (Nat.le_of_ble_eq_true rfl) rfl ?_
        have lp33 : ∀ (n : Nat) (i6 i7 : Int) (h8 : ah_T) , 0 ≤ i6 → i6 ≤ 101 → 0 ≤ i7 → i7 ≤ 301 → kF FCJ s h h8 → (302 - i7).toNat < n → aw G (rm_R 4 0 0) m_Judge_hearVoice 0 0 33 [some (av_R (some 143)), some (av_R (some a1)), some (av_R (some a2)), some (av_I a3), some (av_I i6), some (av_I i7)] [] h8 (fun r h' => r = none ∧ kF FCJ s h h') := by
          intro n
          induction n with
          | zero => intro i6 i7 h8 _ _ _ _ _ hm; omega
          | succ n ih33 =>
            intro i6 i7 h8 hl0 hl1 hl2 hl3 k9 hm
            refine A_iload d_Judge_hearVoice_33 rfl ?_
            refine A_aload_n 2 d_Judge_hearVoice_35 rfl rfl ?_
            refine A_getIn (lo := 0) (hi := 300) T_ok d_Judge_hearVoice_36 f_Judge_35 (xs_V k9.1 ha2) (xi_g k9.1 (lt1_V ha2) (rg_V_14 ha2)) (fun x10 ex10 _ _ => ?_)
            refine A_icmp_gt (tgt := 130) d_Judge_hearVoice_39 (by decide) (fun c11 => ?_) (fun c11 => ?_)
            · exact A_vret d_Judge_hearVoice_130 (by decide) rfl ⟨rfl, k9⟩
            · have lp42 : ∀ (n : Nat) (i12 : Int) (h13 : ah_T) , 0 ≤ i12 → i12 ≤ 101 → kF FCJ s h h13 → (102 - i12).toNat < n → aw G (rm_R 4 0 0) m_Judge_hearVoice 0 0 42 [some (av_R (some 143)), some (av_R (some a1)), some (av_R (some a2)), some (av_I a3), some (av_I i12), some (av_I i7)] [] h13 (fun r h' => r = none ∧ kF FCJ s h h') := by
                intro n
                induction n with
                | zero => intro i12 h13 _ _ _ hm; omega
                | succ n ih42 =>
                  intro i12 h13 hl0 hl1 k14 hm
                  refine A_iload d_Judge_hearVoice_42 rfl ?_
                  refine A_aload_n 2 d_Judge_hearVoice_44 rfl rfl ?_
                  refine A_getIn (lo := 0) (hi := 101) T_ok d_Judge_hearVoice_45 f_Judge_40 (xs_V k14.1 ha2) (xi_g k14.1 (lt1_V ha2) (rg_V_16 ha2)) (fun x15 ex15 _ _ => ?_)
                  refine A_icmp_ge (tgt := 89) d_Judge_hearVoice_48 (by decide) (fun c16 => ?_) (fun c16 => ?_)
                  · refine A_iload d_Judge_hearVoice_89 rfl ?_
                    refine A_aload_n 2 d_Judge_hearVoice_91 rfl rfl ?_
                    refine A_getIn (lo := 0) (hi := 300) T_ok d_Judge_hearVoice_92 f_Judge_35 (xs_V k14.1 ha2) (xi_g k14.1 (lt1_V ha2) (rg_V_14 ha2)) (fun x17 ex17 _ _ => ?_)
                    refine A_icmp_ge (tgt := 124) d_Judge_hearVoice_95 (by decide) (fun c18 => ?_) (fun c18 => ?_)
                    · refine A_iincv (z := (i7 + 1)) (L' := [some (av_R (some 143)), some (av_R (some a1)), some (av_R (some a2)), some (av_I a3), some (av_I i12), some (av_I (i7 + 1))]) d_Judge_hearVoice_124 rfl (w32_to (by omega) (by unfold i32; omega)) rfl ?_
                      refine A_goto (tgt := 33) d_Judge_hearVoice_127 (by decide) ?_
                      exact ih33 i12 (i7 + 1) h13 (by omega) (by omega) (by omega) (by omega) k14 (by omega)
                    · refine A_aload_n 0 d_Judge_hearVoice_98 rfl rfl ?_
                      refine A_aload_n 2 d_Judge_hearVoice_99 rfl rfl ?_
                      refine A_iload_n 3 d_Judge_hearVoice_100 rfl rfl ?_
                      refine A_iload d_Judge_hearVoice_101 rfl ?_
                      refine A_callV3 m_Judge_hearAlone T_ok d_Judge_hearVoice_103 l_Judge_54 k_Judge_hearAlone (xi_s k14.1 sf_143) rfl (by decide +kernel) (by decide) (Nat.le_of_ble_eq_true rfl) (z_Judge_hearAlone k14.1 ha2 (by omega) (by omega)) (fun r h19 hq => ?_)
                      obtain ⟨rfl, k20⟩ := hq
                      have k21 := kF_t k14 k20 (fun _ q => q)
                      refine A_aload_n 0 d_Judge_hearVoice_106 rfl rfl ?_
                      refine A_aload_n 1 d_Judge_hearVoice_107 rfl rfl ?_
                      refine A_aload_n 2 d_Judge_hearVoice_108 rfl rfl ?_
                      refine A_iload_n 3 d_Judge_hearVoice_109 rfl rfl ?_
                      refine A_iload d_Judge_hearVoice_110 rfl ?_
                      refine A_pc (pc' := 112) rfl ?_
                      refine A_callV4 m_Judge_hearCrossings T_ok d_Judge_hearVoice_112 l_Judge_58 k_Judge_hearCrossings (xi_s k21.1 sf_143) rfl (by decide +kernel) (by decide) (Nat.le_of_ble_eq_true rfl) (z_Judge_hearCrossings k21.1 ha1 ha2 (by omega) (by omega)) (fun r h22 hq => ?_)
                      obtain ⟨rfl, k23⟩ := hq
                      have k24 := kF_t k21 k23 (fun _ q => q)
                      refine A_aload_n 0 d_Judge_hearVoice_115 rfl rfl ?_
                      refine A_aload_n 1 d_Judge_hearVoice_116 rfl rfl ?_
                      refine A_aload_n 2 d_Judge_hearVoice_117 rfl rfl ?_
                      refine A_iload_n 3 d_Judge_hearVoice_118 rfl rfl ?_
                      refine A_iload d_Judge_hearVoice_119 rfl ?_
                      refine A_pc (pc' := 121) rfl ?_
                      refine A_callV4 m_Judge_hearParallels T_ok d_Judge_hearVoice_121 l_Judge_62 k_Judge_hearParallels (xi_s k24.1 sf_143) rfl (by decide +kernel) (by decide) (Nat.le_of_ble_eq_true rfl) (z_Judge_hearParallels k24.1 ha1 ha2 (by omega) (by omega)) (fun r h25 hq => ?_)
                      obtain ⟨rfl, k26⟩ := hq
                      have k27 := kF_t k24 k26 (fun _ q => q)
                      refine A_iincv (z := (i7 + 1)) (L' := [some (av_R (some 143)), some (av_R (some a1)), some (av_R (some a2)), some (av_I a3), some (av_I i12), some (av_I (i7 + 1))]) d_Judge_hearVoice_124 rfl (w32_to (by omega) (by unfold i32; omega)) rfl ?_
                      refine A_goto (tgt := 33) d_Judge_hearVoice_127 (by decide) ?_
                      exact ih33 i12 (i7 + 1) h25 (by omega) (by omega) (by omega) (by omega) k27 (by omega)
                  · refine A_aload_n 2 d_Judge_hearVoice_51 rfl rfl ?_
                    refine A_getAv (z := some (a2 + 13)) T_ok d_Judge_hearVoice_52 f_Judge_43 (xs_V k14.1 ha2) (xr_V_15 k14.1 ha2) ?_
                    refine A_iload d_Judge_hearVoice_55 rfl ?_
                    refine A_ialoadn (lo := 0) (hi := 300) d_Judge_hearVoice_57 (xs_V_15 k14.1 ha2) (by omega) (by omega) (xi_g k14.1 (lt2_V ha2 (by decide)) (rg_V_15 ha2 _)) (fun x29 ex29 _ _ => ?_)
                    refine A_iload d_Judge_hearVoice_58 rfl ?_
                    refine A_pc (pc' := 60) rfl ?_
                    refine A_icmp_gt (tgt := 89) d_Judge_hearVoice_60 (by decide) (fun c30 => ?_) (fun c30 => ?_)
                    · refine A_iload d_Judge_hearVoice_89 rfl ?_
                      refine A_aload_n 2 d_Judge_hearVoice_91 rfl rfl ?_
                      refine A_getIn (lo := 0) (hi := 300) T_ok d_Judge_hearVoice_92 f_Judge_35 (xs_V k14.1 ha2) (xi_g k14.1 (lt1_V ha2) (rg_V_14 ha2)) (fun x31 ex31 _ _ => ?_)
                      refine A_icmp_ge (tgt := 124) d_Judge_hearVoice_95 (by decide) (fun c32 => ?_) (fun c32 => ?_)
                      · refine A_iincv (z := (i7 + 1)) (L' := [some (av_R (some 143)), some (av_R (some a1)), some (av_R (some a2)), some (av_I a3), some (av_I i12), some (av_I (i7 + 1))]) d_Judge_hearVoice_124 rfl (w32_to (by omega) (by unfold i32; omega)) rfl ?_
                        refine A_goto (tgt := 33) d_Judge_hearVoice_127 (by decide) ?_
                        exact ih33 i12 (i7 + 1) h13 (by omega) (by omega) (by omega) (by omega) k14 (by omega)
                      · refine A_aload_n 0 d_Judge_hearVoice_98 rfl rfl ?_
                        refine A_aload_n 2 d_Judge_hearVoice_99 rfl rfl ?_
                        refine A_iload_n 3 d_Judge_hearVoice_100 rfl rfl ?_
                        refine A_iload d_Judge_hearVoice_101 rfl ?_
                        refine A_callV3 m_Judge_hearAlone T_ok d_Judge_hearVoice_103 l_Judge_54 k_Judge_hearAlone (xi_s k14.1 sf_143) rfl (by decide +kernel) (by decide) (Nat.le_of_ble_eq_true rfl) (z_Judge_hearAlone k14.1 ha2 (by omega) (by omega)) (fun r h33 hq => ?_)
                        obtain ⟨rfl, k34⟩ := hq
                        have k35 := kF_t k14 k34 (fun _ q => q)
                        refine A_aload_n 0 d_Judge_hearVoice_106 rfl rfl ?_
                        refine A_aload_n 1 d_Judge_hearVoice_107 rfl rfl ?_
                        refine A_aload_n 2 d_Judge_hearVoice_108 rfl rfl ?_
                        refine A_iload_n 3 d_Judge_hearVoice_109 rfl rfl ?_
                        refine A_iload d_Judge_hearVoice_110 rfl ?_
                        refine A_pc (pc' := 112) rfl ?_
                        refine A_callV4 m_Judge_hearCrossings T_ok d_Judge_hearVoice_112 l_Judge_58 k_Judge_hearCrossings (xi_s k35.1 sf_143) rfl (by decide +kernel) (by decide) (Nat.le_of_ble_eq_true rfl) (z_Judge_hearCrossings k35.1 ha1 ha2 (by omega) (by omega)) (fun r h36 hq => ?_)
                        obtain ⟨rfl, k37⟩ := hq
                        have k38 := kF_t k35 k37 (fun _ q => q)
                        refine A_aload_n 0 d_Judge_hearVoice_115 rfl rfl ?_
                        refine A_aload_n 1 d_Judge_hearVoice_116 rfl rfl ?_
                        refine A_aload_n 2 d_Judge_hearVoice_117 rfl rfl ?_
                        refine A_iload_n 3 d_Judge_hearVoice_118 rfl rfl ?_
                        refine A_iload d_Judge_hearVoice_119 rfl ?_
                        refine A_pc (pc' := 121) rfl ?_
                        refine A_callV4 m_Judge_hearParallels T_ok d_Judge_hearVoice_121 l_Judge_62 k_Judge_hearParallels (xi_s k38.1 sf_143) rfl (by decide +kernel) (by decide) (Nat.le_of_ble_eq_true rfl) (z_Judge_hearParallels k38.1 ha1 ha2 (by omega) (by omega)) (fun r h39 hq => ?_)
                        obtain ⟨rfl, k40⟩ := hq
                        have k41 := kF_t k38 k40 (fun _ q => q)
                        refine A_iincv (z := (i7 + 1)) (L' := [some (av_R (some 143)), some (av_R (some a1)), some (av_R (some a2)), some (av_I a3), some (av_I i12), some (av_I (i7 + 1))]) d_Judge_hearVoice_124 rfl (w32_to (by omega) (by unfold i32; omega)) rfl ?_
                        refine A_goto (tgt := 33) d_Judge_hearVoice_127 (by decide) ?_
                        exact ih33 i12 (i7 + 1) h39 (by omega) (by omega) (by omega) (by omega) k41 (by omega)
                    · refine A_aload_n 1 d_Judge_hearVoice_63 rfl rfl ?_
                      refine A_aload_n 2 d_Judge_hearVoice_64 rfl rfl ?_
                      refine A_iload d_Judge_hearVoice_65 rfl ?_
                      refine A_callS3 m_Judge_isWhole d_Judge_hearVoice_67 l_Judge_46 k_Judge_isWhole (by decide +kernel) (by decide) (Nat.le_of_ble_eq_true rfl) (s_Judge_isWhole k14.1 ha1 ha2 (by omega) (by omega)) (fun r h42 hq => ?_)
                      obtain ⟨x44, rfl, bx44, rfl⟩ := hq
                      refine A_if_ne (tgt := 83) d_Judge_hearVoice_70 (by decide) (fun c45 => ?_) (fun c45 => ?_)
                      · refine A_iincv (z := (i12 + 1)) (L' := [some (av_R (some 143)), some (av_R (some a1)), some (av_R (some a2)), some (av_I a3), some (av_I (i12 + 1)), some (av_I i7)]) d_Judge_hearVoice_83 rfl (w32_to (by omega) (by unfold i32; omega)) rfl ?_
                        refine A_goto (tgt := 42) d_Judge_hearVoice_86 (by decide) ?_
                        exact ih42 (i12 + 1) h13 (by omega) (by omega) k14 (by omega)
                      · refine A_aload_n 0 d_Judge_hearVoice_73 rfl rfl ?_
                        refine A_iconst d_Judge_hearVoice_74 rfl ?_
                        refine A_iload_n 3 d_Judge_hearVoice_75 rfl rfl ?_
                        refine A_iload d_Judge_hearVoice_76 rfl ?_
                        refine A_iload d_Judge_hearVoice_78 rfl ?_
                        refine A_pc (pc' := 80) rfl ?_
                        refine A_callV4 m_Judge_add T_ok d_Judge_hearVoice_80 l_Judge_50 k_Judge_add (xi_s k14.1 sf_143) rfl (by decide +kernel) (by decide) (Nat.le_of_ble_eq_true rfl) (z_Judge_add k14.1 ) (fun r h46 hq => ?_)
                        obtain ⟨rfl, k47⟩ := hq
                        have k48 := kF_t k14 k47 (fun _ q => q)
                        refine A_iincv (z := (i12 + 1)) (L' := [some (av_R (some 143)), some (av_R (some a1)), some (av_R (some a2)), some (av_I a3), some (av_I (i12 + 1)), some (av_I i7)]) d_Judge_hearVoice_83 rfl (w32_to (by omega) (by unfold i32; omega)) rfl ?_
                        refine A_goto (tgt := 42) d_Judge_hearVoice_86 (by decide) ?_
                        exact ih42 (i12 + 1) h46 (by omega) (by omega) k48 (by omega)
              exact lp42 _ i6 h8 (by omega) (by omega) k9 (Nat.lt_succ_self _)
        exact lp33 _ 0 0 h2 (by omega) (by omega) (by omega) (by omega) k3 (Nat.lt_succ_self _)
      · refine A_aload_n 0 d_Judge_hearVoice_13 rfl rfl ?_
        refine A_getAv (z := some 145) T_ok d_Judge_hearVoice_14 f_Judge_15 (xi_s k3.1 sf_143) (xi_r k3.1 rff_143_2) ?_
        refine A_iload d_Judge_hearVoice_17 rfl ?_
        refine A_iconst d_Judge_hearVoice_19 rfl ?_
        refine A_iastorek (KR := kF FCJ s h) d_Judge_hearVoice_20 (xi_s k3.1 sf_145) (by omega) (by omega) (kF_j k3 (by decide) (ns_b rfl) (rgf_145 _) (by omega) (by omega)) (fun h50 k51 eh50 => ?_)
        refine A_pc (pc' := 21) rfl ?_
        refine A_iincv (z := (i1 + 1)) (L' := [some (av_R (some 143)), some (av_R (some a1)), some (av_R (some a2)), some (av_I a3), some (av_I (i1 + 1)), none]) d_Judge_hearVoice_21 rfl (w32_to (by omega) (by unfold i32; omega)) rfl ?_
        refine A_goto (tgt := 3) d_Judge_hearVoice_24 (by decide) ?_
        exact ih3 (i1 + 1) h50 (by omega) (by omega) k51 (by omega)
  exact lp3 _ 0 h (by omega) (by omega) k0 (Nat.lt_succ_self _)
theorem z_Judge_hear {G : cx_T} {s : Nat} {h : ah_T} (hx : xi s h) {a1 : Nat} (ha1 : isS a1) : con G 5 0 0 m_Judge_hear [av_R (some 143), av_R (some a1)] h (fun r h' => ∃ z, r = some (av_I z) ∧ (0 ≤ z ∧ z ≤ 6404) ∧ kF FCJ s h h') := by
  refine con_of (L := [some (av_R (some 143)), some (av_R (some a1)), none, none]) (by decide +kernel) (Nat.le_of_ble_eq_true rfl) rfl ?_
  have hS : isS s := hx.2.1
  have hs0 : s = 17 ∨ s = 80 := hS
  have k0 : kF FCJ s h h := kF_0 hx
  refine A_aload_n 0 d_Judge_hear_0 rfl rfl ?_
  refine A_iconst d_Judge_hear_1 rfl ?_
  refine A_putIk (KR := kF FCJ s h) T_ok d_Judge_hear_2 f_Judge_18 (xi_s k0.1 sf_143) fin_f (kF_j k0 (by decide) (ns_b rfl) rgf_143_1 (by omega) (by omega)) (fun h1 k2 eh1 => ?_)
  refine A_iconst d_Judge_hear_5 rfl ?_
  refine A_istore_n 2 (L' := [some (av_R (some 143)), some (av_R (some a1)), some (av_I 0), none]) d_Judge_hear_6 rfl (Nat.le_of_ble_eq_true rfl) rfl ?_
  have lp7 : ∀ (n : Nat) (i3 : Int) (h4 : ah_T) , 0 ≤ i3 → i3 ≤ 4 → kF FCJ s h h4 → (5 - i3).toNat < n → aw G (rm_R 5 0 0) m_Judge_hear 0 0 7 [some (av_R (some 143)), some (av_R (some a1)), some (av_I i3), none] [] h4 (fun r h' => ∃ z, r = some (av_I z) ∧ (0 ≤ z ∧ z ≤ 6404) ∧ kF FCJ s h h') := by
    intro n
    induction n with
    | zero => intro i3 h4 _ _ _ hm; omega
    | succ n ih7 =>
      intro i3 h4 hl0 hl1 k5 hm
      refine A_iload_n 2 d_Judge_hear_7 rfl rfl ?_
      refine A_aload_n 1 d_Judge_hear_8 rfl rfl ?_
      refine A_getIn (lo := 0) (hi := 4) T_ok d_Judge_hear_9 f_Judge_22 (xs_S k5.1 ha1) (xi_g k5.1 (lt1_S ha1) (rg_S_1 ha1)) (fun x6 ex6 _ _ => ?_)
      refine A_icmp_ge (tgt := 38) d_Judge_hear_12 (by decide) (fun c7 => ?_) (fun c7 => ?_)
      · refine A_aload_n 0 d_Judge_hear_38 rfl rfl ?_
        refine A_getIn (lo := 0) (hi := 6404) T_ok d_Judge_hear_39 f_Judge_18 (xi_s k5.1 sf_143) (xi_g k5.1 (by decide) rgf_143_1) (fun x8 ex8 _ _ => ?_)
        exact A_iret d_Judge_hear_42 (by decide) rfl ⟨_, rfl, ⟨by omega, by omega⟩, k5⟩
      · refine A_aload_n 1 d_Judge_hear_15 rfl rfl ?_
        refine A_iload_n 2 d_Judge_hear_16 rfl rfl ?_
        refine A_callV1 m_Score_voiceAt T_ok d_Judge_hear_17 l_Judge_27 k_Score_voiceAt (xs_S k5.1 ha1) rfl (by decide +kernel) (by decide) (Nat.le_of_ble_eq_true rfl) (s_Score_voiceAt k5.1 ha1) (fun r h9 hq => ?_)
        obtain ⟨ox11, rfl, qx11, rfl⟩ := hq
        rcases qx11 with rfl | ⟨x11, rfl, tx11⟩
        · refine A_astore_n 3 (L' := [some (av_R (some 143)), some (av_R (some a1)), some (av_I i3), some (av_R none)]) d_Judge_hear_20 rfl (Nat.le_of_ble_eq_true rfl) rfl ?_
          refine A_aload_n 3 d_Judge_hear_21 rfl rfl ?_
          refine A_ifnull (tgt := 32) d_Judge_hear_22 (by decide) (fun _ => ?_) (fun a q => by cases q)
          refine A_iincv (z := (i3 + 1)) (L' := [some (av_R (some 143)), some (av_R (some a1)), some (av_I (i3 + 1)), some (av_R none)]) d_Judge_hear_32 rfl (w32_to (by omega) (by unfold i32; omega)) rfl ?_
          refine A_goto (tgt := 7) d_Judge_hear_35 (by decide) ?_
          refine A_free (L' := [some (av_R (some 143)), some (av_R (some a1)), some (av_I (i3 + 1)), none]) (And.intro rfl (And.intro rfl (And.intro rfl trivial))) ?_
          exact ih7 (i3 + 1) h4 (by omega) (by omega) k5 (by omega)
        · refine A_astore_n 3 (L' := [some (av_R (some 143)), some (av_R (some a1)), some (av_I i3), some (av_R (some x11))]) d_Judge_hear_20 rfl (Nat.le_of_ble_eq_true rfl) rfl ?_
          refine A_aload_n 3 d_Judge_hear_21 rfl rfl ?_
          refine A_ifnull (tgt := 32) d_Judge_hear_22 (by decide) (fun q => by cases q) (fun _ _ => ?_)
          refine A_aload_n 0 d_Judge_hear_25 rfl rfl ?_
          refine A_aload_n 1 d_Judge_hear_26 rfl rfl ?_
          refine A_aload_n 3 d_Judge_hear_27 rfl rfl ?_
          refine A_iload_n 2 d_Judge_hear_28 rfl rfl ?_
          refine A_callV3 m_Judge_hearVoice T_ok d_Judge_hear_29 l_Judge_31 k_Judge_hearVoice (xi_s k5.1 sf_143) rfl (by decide +kernel) (by decide) (Nat.le_of_ble_eq_true rfl) (z_Judge_hearVoice k5.1 ha1 (tV_V ha1 tx11)) (fun r h12 hq => ?_)
          obtain ⟨rfl, k13⟩ := hq
          have k14 := kF_t k5 k13 (fun _ q => q)
          refine A_iincv (z := (i3 + 1)) (L' := [some (av_R (some 143)), some (av_R (some a1)), some (av_I (i3 + 1)), some (av_R (some x11))]) d_Judge_hear_32 rfl (w32_to (by omega) (by unfold i32; omega)) rfl ?_
          refine A_goto (tgt := 7) d_Judge_hear_35 (by decide) ?_
          refine A_free (L' := [some (av_R (some 143)), some (av_R (some a1)), some (av_I (i3 + 1)), none]) (And.intro rfl (And.intro rfl (And.intro rfl trivial))) ?_
          exact ih7 (i3 + 1) h12 (by omega) (by omega) k14 (by omega)
  exact lp7 _ 0 h1 (by omega) (by omega) k2 (Nat.lt_succ_self _)
theorem z_PM_judge {G : cx_T} {s : Nat} {h : ah_T} (hx : xi s h)   : con G 6 0 0 m_PM_judge [av_R (some 0)] h (fun r h' => ∃ z, r = some (av_I z) ∧ ((-2147483648) ≤ z ∧ z ≤ 2147483647) ∧ kF FCJ s h h') := by
  refine con_of (L := [some (av_R (some 0))]) (by decide +kernel) (Nat.le_of_ble_eq_true rfl) rfl ?_
  have hS : isS s := hx.2.1
  have hs0 : s = 17 ∨ s = 80 := hS
  have k0 : kF FCJ s h h := kF_0 hx
  refine A_aload_n 0 d_PM_judge_0 rfl rfl ?_
  refine A_getOv (z := some 143) T_ok d_PM_judge_1 f_PM_37 (xi_s k0.1 sf_0) (xi_r k0.1 rff_0_5) ?_
  refine A_aload_n 0 d_PM_judge_4 rfl rfl ?_
  refine A_getOv (z := some (97 - s)) T_ok d_PM_judge_5 f_PM_27 (xi_s k0.1 sf_0) k0.1.2.2.1 ?_
  refine A_callV1 m_Judge_hear T_ok d_PM_judge_8 l_PM_157 k_Judge_hear (xi_s k0.1 sf_143) rfl (by decide +kernel) (by decide) (Nat.le_of_ble_eq_true rfl) (z_Judge_hear k0.1 (isS_o hS)) (fun r h3 hq => ?_)
  obtain ⟨x5, rfl, ⟨_, _⟩, k4⟩ := hq
  have k6 := kF_t k0 k4 (fun _ q => q)
  exact A_iret d_PM_judge_11 (by decide) rfl ⟨_, rfl, ⟨by omega, by omega⟩, k6⟩
