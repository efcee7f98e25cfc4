/-! ===== Judge: what its methods leave as it was ===== -/
abbrev FCJ : Nat → Prop := fun a => a < 143 ∨ 146 ≤ a
theorem z_Judge_add {G : cx_T} {s : Nat} {h : ah_T} (hx : xi s h) {a1 : Int} {a2 : Int} {a3 : Int} {a4 : Int}  : con G 0 0 0 m_Judge_add [av_R (some 143), av_I a1, av_I a2, av_I a3, av_I a4] h (fun r h' => r = none ∧ kF FCJ s h h') := by
  refine con_of (L := [some (av_R (some 143)), some (av_I a1), some (av_I a2), some (av_I a3), some (av_I a4)]) (by decide +kernel) (Nat.le_of_ble_eq_true rfl) rfl ?_
  have hS : isS s := hx.2.1
  have hs0 : s = 17 ∨ s = 80 := hS
  have k0 : kF FCJ s h h := kF_0 hx
  refine A_locI 1 rfl (fun ra => ?_)
  obtain ⟨_, _⟩ := ra
  refine A_locI 2 rfl (fun ra => ?_)
  obtain ⟨_, _⟩ := ra
  refine A_locI 3 rfl (fun ra => ?_)
  obtain ⟨_, _⟩ := ra
  refine A_locI 4 rfl (fun ra => ?_)
  obtain ⟨_, _⟩ := ra
  refine A_aload_n 0 d_Judge_add_0 rfl rfl ?_
  refine A_getIn (lo := 0) (hi := 6404) T_ok d_Judge_add_1 f_Judge_18 (xi_s k0.1 sf_143) (xi_g k0.1 (by decide) rgf_143_1) (fun x1 ex1 _ _ => ?_)
  refine A_aload_n 0 d_Judge_add_4 rfl rfl ?_
  refine A_getAv (z := some 144) T_ok d_Judge_add_5 f_Judge_11 (xi_s k0.1 sf_143) (xi_r k0.1 rff_143_0) ?_
  refine A_alenN d_Judge_add_8 (xi_s k0.1 sf_144) (by decide) (by decide) ?_
  refine A_pc (pc' := 9) rfl ?_
  refine A_icmp_ge (tgt := 46) d_Judge_add_9 (by decide) (fun c3 => ?_) (fun c3 => ?_)
  · exact A_vret d_Judge_add_46 (by decide) rfl ⟨rfl, k0⟩
  · refine A_aload_n 0 d_Judge_add_12 rfl rfl ?_
    refine A_getAv (z := some 144) T_ok d_Judge_add_13 f_Judge_11 (xi_s k0.1 sf_143) (xi_r k0.1 rff_143_0) ?_
    refine A_aload_n 0 d_Judge_add_16 rfl rfl ?_
    refine A_getIv (z := x1) T_ok d_Judge_add_17 f_Judge_18 (xi_s k0.1 sf_143) ex1.symm ?_
    refine A_iload_n 1 d_Judge_add_20 rfl rfl ?_
    refine A_pc (pc' := 21) rfl ?_
    refine A_iload_n 2 d_Judge_add_21 rfl rfl ?_
    refine A_iconst d_Judge_add_22 rfl ?_
    refine A_ishl d_Judge_add_23 ?_
    refine A_nrI (fun x6 ex6 _ _ => ?_)
    refine A_ior d_Judge_add_24 ?_
    refine A_nrI (fun x7 ex7 _ _ => ?_)
    refine A_iload_n 3 d_Judge_add_25 rfl rfl ?_
    refine A_iconst d_Judge_add_26 rfl ?_
    refine A_pc (pc' := 27) rfl ?_
    refine A_ishl d_Judge_add_27 ?_
    refine A_nrI (fun x8 ex8 _ _ => ?_)
    refine A_ior d_Judge_add_28 ?_
    refine A_nrI (fun x9 ex9 _ _ => ?_)
    refine A_iload d_Judge_add_29 rfl ?_
    refine A_bipush d_Judge_add_31 rfl ?_
    refine A_ishl d_Judge_add_33 ?_
    refine A_nrI (fun x10 ex10 _ _ => ?_)
    refine A_ior d_Judge_add_34 ?_
    refine A_nrI (fun x11 ex11 _ _ => ?_)
    refine A_pc (pc' := 35) rfl ?_
    refine A_iastorek (KR := kF FCJ s h) d_Judge_add_35 (xi_s k0.1 sf_144) (by omega) (by omega) (kF_j k0 (by decide) (ns_b rfl) (rgf_144 _) (by omega) (by omega)) (fun h12 k13 eh12 => ?_)
    refine A_aload_n 0 d_Judge_add_36 rfl rfl ?_
    refine A_dupR d_Judge_add_37 ?_
    refine A_getIv (z := x1) T_ok d_Judge_add_38 f_Judge_18 (xi_s k13.1 sf_143) ((eh12.1 _ _ (fun q => absurd q (by decide))).trans ex1.symm) ?_
    refine A_iconst d_Judge_add_41 rfl ?_
    refine A_iaddv (z := (x1 + 1)) d_Judge_add_42 (w32_to (by omega) (by unfold i32; omega)) ?_
    refine A_pc (pc' := 43) rfl ?_
    refine A_putIk (KR := kF FCJ s h) T_ok d_Judge_add_43 f_Judge_18 (xi_s k13.1 sf_143) fin_f (kF_j k13 (by decide) (ns_b rfl) rgf_143_1 (by omega) (by omega)) (fun h15 k16 eh15 => ?_)
    exact A_vret d_Judge_add_46 (by decide) rfl ⟨rfl, k16⟩
theorem z_Judge_hearAlone {G : cx_T} {s : Nat} {h : ah_T} (hx : xi s h) {a1 : Nat} {a2 : Int} {a3 : Int} (ha1 : isV a1) (la3 : 0 ≤ a3) (ua3 : a3 ≤ 299) : con G 3 0 0 m_Judge_hearAlone [av_R (some 143), av_R (some a1), av_I a2, av_I a3] h (fun r h' => r = none ∧ kF FCJ s h h') := by
  refine con_of (L := [some (av_R (some 143)), some (av_R (some a1)), some (av_I a2), some (av_I a3)]) (by decide +kernel) (Nat.le_of_ble_eq_true rfl) rfl ?_
  have hS : isS s := hx.2.1
  have hs0 : s = 17 ∨ s = 80 := hS
  have k0 : kF FCJ s h h := kF_0 hx
  have ga1 := lt_V ha1
  refine A_locI 2 rfl (fun ra => ?_)
  obtain ⟨_, _⟩ := ra
  refine A_aload_n 1 d_Judge_hearAlone_0 rfl rfl ?_
  refine A_iload_n 3 d_Judge_hearAlone_1 rfl rfl ?_
  refine A_callV1 m_Voice_isTied T_ok d_Judge_hearAlone_2 l_Judge_75 k_Voice_isTied (xs_V k0.1 ha1) rfl (by decide +kernel) (by decide) (Nat.le_of_ble_eq_true rfl) (s_Voice_isTied k0.1 ha1 (by omega) (by omega)) (fun r h1 hq => ?_)
  obtain ⟨x3, rfl, bx3, rfl⟩ := hq
  refine A_if_eq (tgt := 24) d_Judge_hearAlone_5 (by decide) (fun c4 => ?_) (fun c4 => ?_)
  · refine A_iload_n 3 d_Judge_hearAlone_24 rfl rfl ?_
    refine A_if_le (tgt := 75) d_Judge_hearAlone_25 (by decide) (fun c5 => ?_) (fun c5 => ?_)
    · exact A_vret d_Judge_hearAlone_75 (by decide) rfl ⟨rfl, k0⟩
    · refine A_aload_n 1 d_Judge_hearAlone_28 rfl rfl ?_
      refine A_iload_n 3 d_Judge_hearAlone_29 rfl rfl ?_
      refine A_callV1 m_Voice_isRest T_ok d_Judge_hearAlone_30 l_Judge_83 k_Voice_isRest (xs_V k0.1 ha1) rfl (by decide +kernel) (by decide) (Nat.le_of_ble_eq_true rfl) (s_Voice_isRest k0.1 ha1 (by omega) (by omega)) (fun r h6 hq => ?_)
      obtain ⟨x8, rfl, bx8, rfl⟩ := hq
      refine A_if_ne (tgt := 75) d_Judge_hearAlone_33 (by decide) (fun c9 => ?_) (fun c9 => ?_)
      · exact A_vret d_Judge_hearAlone_75 (by decide) rfl ⟨rfl, k0⟩
      · refine A_aload_n 1 d_Judge_hearAlone_36 rfl rfl ?_
        refine A_iload_n 3 d_Judge_hearAlone_37 rfl rfl ?_
        refine A_iconst d_Judge_hearAlone_38 rfl ?_
        refine A_isubv (z := (a3 - 1)) d_Judge_hearAlone_39 (w32_to (by omega) (by unfold i32; omega)) ?_
        refine A_callV1 m_Voice_isRest T_ok d_Judge_hearAlone_40 l_Judge_83 k_Voice_isRest (xs_V k0.1 ha1) rfl (by decide +kernel) (by decide) (Nat.le_of_ble_eq_true rfl) (s_Voice_isRest k0.1 ha1 (by omega) (by omega)) (fun r h10 hq => ?_)
        obtain ⟨x12, rfl, bx12, rfl⟩ := hq
        refine A_if_ne (tgt := 75) d_Judge_hearAlone_43 (by decide) (fun c13 => ?_) (fun c13 => ?_)
        · exact A_vret d_Judge_hearAlone_75 (by decide) rfl ⟨rfl, k0⟩
        · refine A_aload_n 1 d_Judge_hearAlone_46 rfl rfl ?_
          refine A_iload_n 3 d_Judge_hearAlone_47 rfl rfl ?_
          refine A_callV1 m_Voice_lowestKey T_ok d_Judge_hearAlone_48 l_Judge_86 k_Voice_lowestKey (xs_V k0.1 ha1) rfl (by decide +kernel) (by decide) (Nat.le_of_ble_eq_true rfl) (s_Voice_lowestKey k0.1 ha1 (by omega) (by omega)) (fun r h14 hq => ?_)
          obtain ⟨x16, rfl, ⟨_, _⟩, rfl⟩ := hq
          refine A_aload_n 1 d_Judge_hearAlone_51 rfl rfl ?_
          refine A_iload_n 3 d_Judge_hearAlone_52 rfl rfl ?_
          refine A_iconst d_Judge_hearAlone_53 rfl ?_
          refine A_isubv (z := (a3 - 1)) d_Judge_hearAlone_54 (w32_to (by omega) (by unfold i32; omega)) ?_
          refine A_callV1 m_Voice_lowestKey T_ok d_Judge_hearAlone_55 l_Judge_86 k_Voice_lowestKey (xs_V k0.1 ha1) rfl (by decide +kernel) (by decide) (Nat.le_of_ble_eq_true rfl) (s_Voice_lowestKey k0.1 ha1 (by omega) (by omega)) (fun r h17 hq => ?_)
          obtain ⟨x19, rfl, ⟨_, _⟩, rfl⟩ := hq
          refine A_isubw d_Judge_hearAlone_58 (fun x20 _ _ _ => ?_)
          refine A_mabs d_Judge_hearAlone_59 lm_Judge_90 ma_abs (by decide) (by decide) (Nat.le_of_ble_eq_true rfl) rfl ?_
          refine A_nrI (fun x21 ex21 _ _ => ?_)
          refine A_bipush d_Judge_hearAlone_62 rfl ?_
          refine A_icmp_le (tgt := 75) d_Judge_hearAlone_64 (by decide) (fun c22 => ?_) (fun c22 => ?_)
          · exact A_vret d_Judge_hearAlone_75 (by decide) rfl ⟨rfl, k0⟩
          · refine A_aload_n 0 d_Judge_hearAlone_67 rfl rfl ?_
            refine A_iconst d_Judge_hearAlone_68 rfl ?_
            refine A_iload_n 2 d_Judge_hearAlone_69 rfl rfl ?_
            refine A_iload_n 3 d_Judge_hearAlone_70 rfl rfl ?_
            refine A_iconst d_Judge_hearAlone_71 rfl ?_
            refine A_pc (pc' := 72) rfl ?_
            refine A_callV4 m_Judge_add T_ok d_Judge_hearAlone_72 l_Judge_50 k_Judge_add (xi_s k0.1 sf_143) rfl (by decide +kernel) (by decide) (Nat.le_of_ble_eq_true rfl) (z_Judge_add k0.1 ) (fun r h23 hq => ?_)
            obtain ⟨rfl, k24⟩ := hq
            have k25 := kF_t k0 k24 (fun _ q => q)
            exact A_vret d_Judge_hearAlone_75 (by decide) rfl ⟨rfl, k25⟩
  · refine A_aload_n 1 d_Judge_hearAlone_8 rfl rfl ?_
    refine A_iload_n 3 d_Judge_hearAlone_9 rfl rfl ?_
    refine A_callS2 m_Judge_isHeld d_Judge_hearAlone_10 l_Judge_79 k_Judge_isHeld (by decide +kernel) (by decide) (Nat.le_of_ble_eq_true rfl) (s_Judge_isHeld k0.1 ha1 (by omega) (by omega)) (fun r h26 hq => ?_)
    obtain ⟨x28, rfl, bx28, rfl⟩ := hq
    refine A_if_ne (tgt := 24) d_Judge_hearAlone_13 (by decide) (fun c29 => ?_) (fun c29 => ?_)
    · refine A_iload_n 3 d_Judge_hearAlone_24 rfl rfl ?_
      refine A_if_le (tgt := 75) d_Judge_hearAlone_25 (by decide) (fun c30 => ?_) (fun c30 => ?_)
      · exact A_vret d_Judge_hearAlone_75 (by decide) rfl ⟨rfl, k0⟩
      · refine A_aload_n 1 d_Judge_hearAlone_28 rfl rfl ?_
        refine A_iload_n 3 d_Judge_hearAlone_29 rfl rfl ?_
        refine A_callV1 m_Voice_isRest T_ok d_Judge_hearAlone_30 l_Judge_83 k_Voice_isRest (xs_V k0.1 ha1) rfl (by decide +kernel) (by decide) (Nat.le_of_ble_eq_true rfl) (s_Voice_isRest k0.1 ha1 (by omega) (by omega)) (fun r h31 hq => ?_)
        obtain ⟨x33, rfl, bx33, rfl⟩ := hq
        refine A_if_ne (tgt := 75) d_Judge_hearAlone_33 (by decide) (fun c34 => ?_) (fun c34 => ?_)
        · exact A_vret d_Judge_hearAlone_75 (by decide) rfl ⟨rfl, k0⟩
        · refine A_aload_n 1 d_Judge_hearAlone_36 rfl rfl ?_
          refine A_iload_n 3 d_Judge_hearAlone_37 rfl rfl ?_
          refine A_iconst d_Judge_hearAlone_38 rfl ?_
          refine A_isubv (z := (a3 - 1)) d_Judge_hearAlone_39 (w32_to (by omega) (by unfold i32; omega)) ?_
          refine A_callV1 m_Voice_isRest T_ok d_Judge_hearAlone_40 l_Judge_83 k_Voice_isRest (xs_V k0.1 ha1) rfl (by decide +kernel) (by decide) (Nat.le_of_ble_eq_true rfl) (s_Voice_isRest k0.1 ha1 (by omega) (by omega)) (fun r h35 hq => ?_)
          obtain ⟨x37, rfl, bx37, rfl⟩ := hq
          refine A_if_ne (tgt := 75) d_Judge_hearAlone_43 (by decide) (fun c38 => ?_) (fun c38 => ?_)
          · exact A_vret d_Judge_hearAlone_75 (by decide) rfl ⟨rfl, k0⟩
          · refine A_aload_n 1 d_Judge_hearAlone_46 rfl rfl ?_
            refine A_iload_n 3 d_Judge_hearAlone_47 rfl rfl ?_
            refine A_callV1 m_Voice_lowestKey T_ok d_Judge_hearAlone_48 l_Judge_86 k_Voice_lowestKey (xs_V k0.1 ha1) rfl (by decide +kernel) (by decide) (Nat.le_of_ble_eq_true rfl) (s_Voice_lowestKey k0.1 ha1 (by omega) (by omega)) (fun r h39 hq => ?_)
            obtain ⟨x41, rfl, ⟨_, _⟩, rfl⟩ := hq
            refine A_aload_n 1 d_Judge_hearAlone_51 rfl rfl ?_
            refine A_iload_n 3 d_Judge_hearAlone_52 rfl rfl ?_
            refine A_iconst d_Judge_hearAlone_53 rfl ?_
            refine A_isubv (z := (a3 - 1)) d_Judge_hearAlone_54 (w32_to (by omega) (by unfold i32; omega)) ?_
            refine A_callV1 m_Voice_lowestKey T_ok d_Judge_hearAlone_55 l_Judge_86 k_Voice_lowestKey (xs_V k0.1 ha1) rfl (by decide +kernel) (by decide) (Nat.le_of_ble_eq_true rfl) (s_Voice_lowestKey k0.1 ha1 (by omega) (by omega)) (fun r h42 hq => ?_)
            obtain ⟨x44, rfl, ⟨_, _⟩, rfl⟩ := hq
            refine A_isubw d_Judge_hearAlone_58 (fun x45 _ _ _ => ?_)
            refine A_mabs d_Judge_hearAlone_59 lm_Judge_90 ma_abs (by decide) (by decide) (Nat.le_of_ble_eq_true rfl) rfl ?_
            refine A_nrI (fun x46 ex46 _ _ => ?_)
            refine A_bipush d_Judge_hearAlone_62 rfl ?_
            refine A_icmp_le (tgt := 75) d_Judge_hearAlone_64 (by decide) (fun c47 => ?_) (fun c47 => ?_)
            · exact A_vret d_Judge_hearAlone_75 (by decide) rfl ⟨rfl, k0⟩
            · refine A_aload_n 0 d_Judge_hearAlone_67 rfl rfl ?_
              refine A_iconst d_Judge_hearAlone_68 rfl ?_
              refine A_iload_n 2 d_Judge_hearAlone_69 rfl rfl ?_
              refine A_iload_n 3 d_Judge_hearAlone_70 rfl rfl ?_
              refine A_iconst d_Judge_hearAlone_71 rfl ?_
              refine A_pc (pc' := 72) rfl ?_
              refine A_callV4 m_Judge_add T_ok d_Judge_hearAlone_72 l_Judge_50 k_Judge_add (xi_s k0.1 sf_143) rfl (by decide +kernel) (by decide) (Nat.le_of_ble_eq_true rfl) (z_Judge_add k0.1 ) (fun r h48 hq => ?_)
              obtain ⟨rfl, k49⟩ := hq
              have k50 := kF_t k0 k49 (fun _ q => q)
              exact A_vret d_Judge_hearAlone_75 (by decide) rfl ⟨rfl, k50⟩
    · refine A_aload_n 0 d_Judge_hearAlone_16 rfl rfl ?_
      refine A_iconst d_Judge_hearAlone_17 rfl ?_
      refine A_iload_n 2 d_Judge_hearAlone_18 rfl rfl ?_
      refine A_iload_n 3 d_Judge_hearAlone_19 rfl rfl ?_
      refine A_iconst d_Judge_hearAlone_20 rfl ?_
      refine A_pc (pc' := 21) rfl ?_
      refine A_callV4 m_Judge_add T_ok d_Judge_hearAlone_21 l_Judge_50 k_Judge_add (xi_s k0.1 sf_143) rfl (by decide +kernel) (by decide) (Nat.le_of_ble_eq_true rfl) (z_Judge_add k0.1 ) (fun r h51 hq => ?_)
      obtain ⟨rfl, k52⟩ := hq
      have k53 := kF_t k0 k52 (fun _ q => q)
      refine A_iload_n 3 d_Judge_hearAlone_24 rfl rfl ?_
      refine A_if_le (tgt := 75) d_Judge_hearAlone_25 (by decide) (fun c54 => ?_) (fun c54 => ?_)
      · exact A_vret d_Judge_hearAlone_75 (by decide) rfl ⟨rfl, k53⟩
      · refine A_aload_n 1 d_Judge_hearAlone_28 rfl rfl ?_
        refine A_iload_n 3 d_Judge_hearAlone_29 rfl rfl ?_
        refine A_callV1 m_Voice_isRest T_ok d_Judge_hearAlone_30 l_Judge_83 k_Voice_isRest (xs_V k53.1 ha1) rfl (by decide +kernel) (by decide) (Nat.le_of_ble_eq_true rfl) (s_Voice_isRest k53.1 ha1 (by omega) (by omega)) (fun r h55 hq => ?_)
        obtain ⟨x57, rfl, bx57, rfl⟩ := hq
        refine A_if_ne (tgt := 75) d_Judge_hearAlone_33 (by decide) (fun c58 => ?_) (fun c58 => ?_)
        · exact A_vret d_Judge_hearAlone_75 (by decide) rfl ⟨rfl, k53⟩
        · refine A_aload_n 1 d_Judge_hearAlone_36 rfl rfl ?_
          refine A_iload_n 3 d_Judge_hearAlone_37 rfl rfl ?_
          refine A_iconst d_Judge_hearAlone_38 rfl ?_
          refine A_isubv (z := (a3 - 1)) d_Judge_hearAlone_39 (w32_to (by omega) (by unfold i32; omega)) ?_
          refine A_callV1 m_Voice_isRest T_ok d_Judge_hearAlone_40 l_Judge_83 k_Voice_isRest (xs_V k53.1 ha1) rfl (by decide +kernel) (by decide) (Nat.le_of_ble_eq_true rfl) (s_Voice_isRest k53.1 ha1 (by omega) (by omega)) (fun r h59 hq => ?_)
          obtain ⟨x61, rfl, bx61, rfl⟩ := hq
          refine A_if_ne (tgt := 75) d_Judge_hearAlone_43 (by decide) (fun c62 => ?_) (fun c62 => ?_)
          · exact A_vret d_Judge_hearAlone_75 (by decide) rfl ⟨rfl, k53⟩
          · refine A_aload_n 1 d_Judge_hearAlone_46 rfl rfl ?_
            refine A_iload_n 3 d_Judge_hearAlone_47 rfl rfl ?_
            refine A_callV1 m_Voice_lowestKey T_ok d_Judge_hearAlone_48 l_Judge_86 k_Voice_lowestKey (xs_V k53.1 ha1) rfl (by decide +kernel) (by decide) (Nat.le_of_ble_eq_true rfl) (s_Voice_lowestKey k53.1 ha1 (by omega) (by omega)) (fun r h63 hq => ?_)
            obtain ⟨x65, rfl, ⟨_, _⟩, rfl⟩ := hq
            refine A_aload_n 1 d_Judge_hearAlone_51 rfl rfl ?_
            refine A_iload_n 3 d_Judge_hearAlone_52 rfl rfl ?_
            refine A_iconst d_Judge_hearAlone_53 rfl ?_
            refine A_isubv (z := (a3 - 1)) d_Judge_hearAlone_54 (w32_to (by omega) (by unfold i32; omega)) ?_
            refine A_callV1 m_Voice_lowestKey T_ok d_Judge_hearAlone_55 l_Judge_86 k_Voice_lowestKey (xs_V k53.1 ha1) rfl (by decide +kernel) (by decide) (Nat.le_of_ble_eq_true rfl) (s_Voice_lowestKey k53.1 ha1 (by omega) (by omega)) (fun r h66 hq => ?_)
            obtain ⟨x68, rfl, ⟨_, _⟩, rfl⟩ := hq
            refine A_isubw d_Judge_hearAlone_58 (fun x69 _ _ _ => ?_)
            refine A_mabs d_Judge_hearAlone_59 lm_Judge_90 ma_abs (by decide) (by decide) (Nat.le_of_ble_eq_true rfl) rfl ?_
            refine A_nrI (fun x70 ex70 _ _ => ?_)
            refine A_bipush d_Judge_hearAlone_62 rfl ?_
            refine A_icmp_le (tgt := 75) d_Judge_hearAlone_64 (by decide) (fun c71 => ?_) (fun c71 => ?_)
            · exact A_vret d_Judge_hearAlone_75 (by decide) rfl ⟨rfl, k53⟩
            · refine A_aload_n 0 d_Judge_hearAlone_67 rfl rfl ?_
              refine A_iconst d_Judge_hearAlone_68 rfl ?_
              refine A_iload_n 2 d_Judge_hearAlone_69 rfl rfl ?_
              refine A_iload_n 3 d_Judge_hearAlone_70 rfl rfl ?_
              refine A_iconst d_Judge_hearAlone_71 rfl ?_
              refine A_pc (pc' := 72) rfl ?_
              refine A_callV4 m_Judge_add T_ok d_Judge_hearAlone_72 l_Judge_50 k_Judge_add (xi_s k53.1 sf_143) rfl (by decide +kernel) (by decide) (Nat.le_of_ble_eq_true rfl) (z_Judge_add k53.1 ) (fun r h72 hq => ?_)
              obtain ⟨rfl, k73⟩ := hq
              have k74 := kF_t k53 k73 (fun _ q => q)
              exact A_vret d_Judge_hearAlone_75 (by decide) rfl ⟨rfl, k74⟩
theorem z_Judge_hearCrossings {G : cx_T} {s : Nat} {h : ah_T} (hx : xi s h) {a1 : Nat} {a2 : Nat} {a3 : Int} {a4 : Int} (ha1 : isS a1) (ha2 : isV a2) (la4 : 0 ≤ a4) (ua4 : a4 ≤ 299) : con G 3 0 0 m_Judge_hearCrossings [av_R (some 143), av_R (some a1), av_R (some a2), av_I a3, av_I a4] h (fun r h' => r = none ∧ kF FCJ s h h') := by
  refine con_of (L := [some (av_R (some 143)), some (av_R (some a1)), some (av_R (some a2)), some (av_I a3), some (av_I a4), none, none]) (by decide +kernel) (Nat.le_of_ble_eq_true rfl) rfl ?_
  have hS : isS s := hx.2.1
  have hs0 : s = 17 ∨ s = 80 := hS
  have k0 : kF FCJ s h h := kF_0 hx
  have ga2 := lt_V ha2
  refine A_locI 3 rfl (fun ra => ?_)
  obtain ⟨_, _⟩ := ra
  refine A_iconst d_Judge_hearCrossings_0 rfl ?_
  refine A_istore (L' := [some (av_R (some 143)), some (av_R (some a1)), some (av_R (some a2)), some (av_I a3), some (av_I a4), some (av_I 0), none]) d_Judge_hearCrossings_1 (Nat.le_of_ble_eq_true rfl) rfl ?_
  have lp3 : ∀ (n : Nat) (i1 : Int) (h2 : ah_T) , 0 ≤ i1 → i1 ≤ 4 → kF FCJ s h h2 → (5 - i1).toNat < n → aw G (rm_R 3 0 0) m_Judge_hearCrossings 0 0 3 [some (av_R (some 143)), some (av_R (some a1)), some (av_R (some a2)), some (av_I a3), some (av_I a4), some (av_I i1), none] [] h2 (fun r h' => r = none ∧ kF FCJ s h h') := by
    intro n
    induction n with
    | zero => intro i1 h2 _ _ _ hm; omega
    | succ n ih3 =>
      intro i1 h2 hl0 hl1 k3 hm
      refine A_iload d_Judge_hearCrossings_3 rfl ?_
      refine A_iload_n 3 d_Judge_hearCrossings_5 rfl rfl ?_
      refine A_icmp_ge (tgt := 88) d_Judge_hearCrossings_6 (by decide) (fun c4 => ?_) (fun c4 => ?_)
      · exact A_vret d_Judge_hearCrossings_88 (by decide) rfl ⟨rfl, k3⟩
      · refine A_iload d_Judge_hearCrossings_9 rfl ?_
        refine A_aload_n 0 d_Judge_hearCrossings_11 rfl rfl ?_
        refine A_getAv (z := some 145) T_ok d_Judge_hearCrossings_12 f_Judge_15 (xi_s k3.1 sf_143) (xi_r k3.1 rff_143_2) ?_
        refine A_alenN d_Judge_hearCrossings_15 (xi_s k3.1 sf_145) (by decide) (by decide) ?_
        refine A_icmp_ge (tgt := 88) d_Judge_hearCrossings_16 (by decide) (fun c6 => ?_) (fun c6 => ?_)
        · exact A_vret d_Judge_hearCrossings_88 (by decide) rfl ⟨rfl, k3⟩
        · refine A_aload_n 1 d_Judge_hearCrossings_19 rfl rfl ?_
          refine A_iload d_Judge_hearCrossings_20 rfl ?_
          refine A_callV1 m_Score_voiceAt T_ok d_Judge_hearCrossings_22 l_Judge_27 k_Score_voiceAt (xs_S k3.1 ha1) rfl (by decide +kernel) (by decide) (Nat.le_of_ble_eq_true rfl) (s_Score_voiceAt k3.1 ha1) (fun r h7 hq => ?_)
          obtain ⟨ox9, rfl, qx9, rfl⟩ := hq
          rcases qx9 with rfl | ⟨x9, rfl, tx9⟩
          · refine A_astore (L' := [some (av_R (some 143)), some (av_R (some a1)), some (av_R (some a2)), some (av_I a3), some (av_I a4), some (av_I i1), some (av_R none)]) d_Judge_hearCrossings_25 (Nat.le_of_ble_eq_true rfl) rfl ?_
            refine A_aload d_Judge_hearCrossings_27 rfl ?_
            refine A_ifnull (tgt := 82) d_Judge_hearCrossings_29 (by decide) (fun _ => ?_) (fun a q => by cases q)
            refine A_iincv (z := (i1 + 1)) (L' := [some (av_R (some 143)), some (av_R (some a1)), some (av_R (some a2)), some (av_I a3), some (av_I a4), some (av_I (i1 + 1)), some (av_R none)]) d_Judge_hearCrossings_82 rfl (w32_to (by omega) (by unfold i32; omega)) rfl ?_
            refine A_goto (tgt := 3) d_Judge_hearCrossings_85 (by decide) ?_
            refine A_free (L' := [some (av_R (some 143)), some (av_R (some a1)), some (av_R (some a2)), some (av_I a3), some (av_I a4), some (av_I (i1 + 1)), none]) (And.intro rfl (And.intro rfl (And.intro rfl (And.intro rfl (And.intro rfl (And.intro rfl trivial)))))) ?_
            exact ih3 (i1 + 1) h2 (by omega) (by omega) k3 (by omega)
          · refine A_astore (L' := [some (av_R (some 143)), some (av_R (some a1)), some (av_R (some a2)), some (av_I a3), some (av_I a4), some (av_I i1), some (av_R (some x9))]) d_Judge_hearCrossings_25 (Nat.le_of_ble_eq_true rfl) rfl ?_
            refine A_aload d_Judge_hearCrossings_27 rfl ?_
            refine A_ifnull (tgt := 82) d_Judge_hearCrossings_29 (by decide) (fun q => by cases q) (fun _ _ => ?_)
            refine A_aload_n 0 d_Judge_hearCrossings_32 rfl rfl ?_
            refine A_getAv (z := some 145) T_ok d_Judge_hearCrossings_33 f_Judge_15 (xi_s k3.1 sf_143) (xi_r k3.1 rff_143_2) ?_
            refine A_iload d_Judge_hearCrossings_36 rfl ?_
            refine A_aload d_Judge_hearCrossings_38 rfl ?_
            refine A_aload_n 0 d_Judge_hearCrossings_40 rfl rfl ?_
            refine A_pc (pc' := 41) rfl ?_
            refine A_getAv (z := some 145) T_ok d_Judge_hearCrossings_41 f_Judge_15 (xi_s k3.1 sf_143) (xi_r k3.1 rff_143_2) ?_
            refine A_iload d_Judge_hearCrossings_44 rfl ?_
            refine A_ialoadn (lo := 0) (hi := 300) d_Judge_hearCrossings_46 (xi_s k3.1 sf_145) (by omega) (by omega) (xi_g k3.1 (by decide) (rgf_145 _)) (fun x12 ex12 _ _ => ?_)
            refine A_aload_n 2 d_Judge_hearCrossings_47 rfl rfl ?_
            refine A_iload d_Judge_hearCrossings_48 rfl ?_
            refine A_callS4 m_Judge_firstNotEnded d_Judge_hearCrossings_50 l_Judge_106 k_Judge_firstNotEnded (by decide +kernel) (by decide) (Nat.le_of_ble_eq_true rfl) (s_Judge_firstNotEnded k3.1 (tV_V ha1 tx9) (by omega) (by omega) ha2 (by omega) (by omega)) (fun r h13 hq => ?_)
            obtain ⟨x15, rfl, ⟨_, _⟩, rfl⟩ := hq
            refine A_iastorek (KR := kF FCJ s h) d_Judge_hearCrossings_53 (xi_s k3.1 sf_145) (by omega) (by omega) (kF_j k3 (by decide) (ns_b rfl) (rgf_145 _) (by omega) (by omega)) (fun h16 k17 eh16 => ?_)
            refine A_aload d_Judge_hearCrossings_54 rfl ?_
            refine A_aload_n 0 d_Judge_hearCrossings_56 rfl rfl ?_
            refine A_getAv (z := some 145) T_ok d_Judge_hearCrossings_57 f_Judge_15 (xi_s k17.1 sf_143) (xi_r k17.1 rff_143_2) ?_
            refine A_iload d_Judge_hearCrossings_60 rfl ?_
            refine A_pc (pc' := 62) rfl ?_
            refine A_ialoadv (z := x15) d_Judge_hearCrossings_62 (xi_s k17.1 sf_145) (by omega) (by omega) eh16.2.1 ?_
            refine A_aload_n 2 d_Judge_hearCrossings_63 rfl rfl ?_
            refine A_iload d_Judge_hearCrossings_64 rfl ?_
            refine A_callS4 m_Judge_isCrossed d_Judge_hearCrossings_66 l_Judge_110 k_Judge_isCrossed (by decide +kernel) (by decide) (Nat.le_of_ble_eq_true rfl) (s_Judge_isCrossed k17.1 (tV_V ha1 tx9) (by omega) (by omega) ha2 (by omega) (by omega)) (fun r h20 hq => ?_)
            obtain ⟨x22, rfl, bx22, rfl⟩ := hq
            refine A_if_eq (tgt := 82) d_Judge_hearCrossings_69 (by decide) (fun c23 => ?_) (fun c23 => ?_)
            · refine A_iincv (z := (i1 + 1)) (L' := [some (av_R (some 143)), some (av_R (some a1)), some (av_R (some a2)), some (av_I a3), some (av_I a4), some (av_I (i1 + 1)), some (av_R (some x9))]) d_Judge_hearCrossings_82 rfl (w32_to (by omega) (by unfold i32; omega)) rfl ?_
              refine A_goto (tgt := 3) d_Judge_hearCrossings_85 (by decide) ?_
              refine A_free (L' := [some (av_R (some 143)), some (av_R (some a1)), some (av_R (some a2)), some (av_I a3), some (av_I a4), some (av_I (i1 + 1)), none]) (And.intro rfl (And.intro rfl (And.intro rfl (And.intro rfl (And.intro rfl (And.intro rfl trivial)))))) ?_
              exact ih3 (i1 + 1) h16 (by omega) (by omega) k17 (by omega)
            · refine A_aload_n 0 d_Judge_hearCrossings_72 rfl rfl ?_
              refine A_iconst d_Judge_hearCrossings_73 rfl ?_
              refine A_iload_n 3 d_Judge_hearCrossings_74 rfl rfl ?_
              refine A_iload d_Judge_hearCrossings_75 rfl ?_
              refine A_iload d_Judge_hearCrossings_77 rfl ?_
              refine A_pc (pc' := 79) rfl ?_
              refine A_callV4 m_Judge_add T_ok d_Judge_hearCrossings_79 l_Judge_50 k_Judge_add (xi_s k17.1 sf_143) rfl (by decide +kernel) (by decide) (Nat.le_of_ble_eq_true rfl) (z_Judge_add k17.1 ) (fun r h24 hq => ?_)
              obtain ⟨rfl, k25⟩ := hq
              have k26 := kF_t k17 k25 (fun _ q => q)
              refine A_iincv (z := (i1 + 1)) (L' := [some (av_R (some 143)), some (av_R (some a1)), some (av_R (some a2)), some (av_I a3), some (av_I a4), some (av_I (i1 + 1)), some (av_R (some x9))]) d_Judge_hearCrossings_82 rfl (w32_to (by omega) (by unfold i32; omega)) rfl ?_
              refine A_goto (tgt := 3) d_Judge_hearCrossings_85 (by decide) ?_
              refine A_free (L' := [some (av_R (some 143)), some (av_R (some a1)), some (av_R (some a2)), some (av_I a3), some (av_I a4), some (av_I (i1 + 1)), none]) (And.intro rfl (And.intro rfl (And.intro rfl (And.intro rfl (And.intro rfl (And.intro rfl trivial)))))) ?_
              exact ih3 (i1 + 1) h24 (by omega) (by omega) k26 (by omega)
  exact lp3 _ 0 h (by omega) (by omega) k0 (Nat.lt_succ_self _)
theorem z_Judge_hearParallels {G : cx_T} {s : Nat} {h : ah_T} (hx : xi s h) {a1 : Nat} {a2 : Nat} {a3 : Int} {a4 : Int} (ha1 : isS a1) (ha2 : isV a2) (la4 : 0 ≤ a4) (ua4 : a4 ≤ 299) : con G 3 0 0 m_Judge_hearParallels [av_R (some 143), av_R (some a1), av_R (some a2), av_I a3, av_I a4] h (fun r h' => r = none ∧ kF FCJ s h h') := by
  refine con_of (L := [some (av_R (some 143)), some (av_R (some a1)), some (av_R (some a2)), some (av_I a3), some (av_I a4), none, none]) (by decide +kernel) (Nat.le_of_ble_eq_true rfl) rfl ?_
  have hS : isS s := hx.2.1
  have hs0 : s = 17 ∨ s = 80 := hS
  have k0 : kF FCJ s h h := kF_0 hx
  have ga2 := lt_V ha2
  refine A_locI 3 rfl (fun ra => ?_)
  obtain ⟨_, _⟩ := ra
  refine A_iconst d_Judge_hearParallels_0 rfl ?_
  refine A_istore (L' := [some (av_R (some 143)), some (av_R (some a1)), some (av_R (some a2)), some (av_I a3), some (av_I a4), some (av_I 0), none]) d_Judge_hearParallels_1 (Nat.le_of_ble_eq_true rfl) rfl ?_
  have lp3 : ∀ (n : Nat) (i1 : Int) (h2 : ah_T) , 0 ≤ i1 → i1 ≤ 4 → kF FCJ s h h2 → (5 - i1).toNat < n → aw G (rm_R 3 0 0) m_Judge_hearParallels 0 0 3 [some (av_R (some 143)), some (av_R (some a1)), some (av_R (some a2)), some (av_I a3), some (av_I a4), some (av_I i1), none] [] h2 (fun r h' => r = none ∧ kF FCJ s h h') := by
    intro n
    induction n with
    | zero => intro i1 h2 _ _ _ hm; omega
    | succ n ih3 =>
      intro i1 h2 hl0 hl1 k3 hm
      refine A_iload d_Judge_hearParallels_3 rfl ?_
      refine A_iload_n 3 d_Judge_hearParallels_5 rfl rfl ?_
      refine A_icmp_ge (tgt := 66) d_Judge_hearParallels_6 (by decide) (fun c4 => ?_) (fun c4 => ?_)
      · exact A_vret d_Judge_hearParallels_66 (by decide) rfl ⟨rfl, k3⟩
      · refine A_iload d_Judge_hearParallels_9 rfl ?_
        refine A_aload_n 0 d_Judge_hearParallels_11 rfl rfl ?_
        refine A_getAv (z := some 145) T_ok d_Judge_hearParallels_12 f_Judge_15 (xi_s k3.1 sf_143) (xi_r k3.1 rff_143_2) ?_
        refine A_alenN d_Judge_hearParallels_15 (xi_s k3.1 sf_145) (by decide) (by decide) ?_
        refine A_icmp_ge (tgt := 66) d_Judge_hearParallels_16 (by decide) (fun c6 => ?_) (fun c6 => ?_)
        · exact A_vret d_Judge_hearParallels_66 (by decide) rfl ⟨rfl, k3⟩
        · refine A_aload_n 1 d_Judge_hearParallels_19 rfl rfl ?_
          refine A_iload d_Judge_hearParallels_20 rfl ?_
          refine A_callV1 m_Score_voiceAt T_ok d_Judge_hearParallels_22 l_Judge_27 k_Score_voiceAt (xs_S k3.1 ha1) rfl (by decide +kernel) (by decide) (Nat.le_of_ble_eq_true rfl) (s_Score_voiceAt k3.1 ha1) (fun r h7 hq => ?_)
          obtain ⟨ox9, rfl, qx9, rfl⟩ := hq
          rcases qx9 with rfl | ⟨x9, rfl, tx9⟩
          · refine A_astore (L' := [some (av_R (some 143)), some (av_R (some a1)), some (av_R (some a2)), some (av_I a3), some (av_I a4), some (av_I i1), some (av_R none)]) d_Judge_hearParallels_25 (Nat.le_of_ble_eq_true rfl) rfl ?_
            refine A_aload d_Judge_hearParallels_27 rfl ?_
            refine A_ifnull (tgt := 60) d_Judge_hearParallels_29 (by decide) (fun _ => ?_) (fun a q => by cases q)
            refine A_iincv (z := (i1 + 1)) (L' := [some (av_R (some 143)), some (av_R (some a1)), some (av_R (some a2)), some (av_I a3), some (av_I a4), some (av_I (i1 + 1)), some (av_R none)]) d_Judge_hearParallels_60 rfl (w32_to (by omega) (by unfold i32; omega)) rfl ?_
            refine A_goto (tgt := 3) d_Judge_hearParallels_63 (by decide) ?_
            refine A_free (L' := [some (av_R (some 143)), some (av_R (some a1)), some (av_R (some a2)), some (av_I a3), some (av_I a4), some (av_I (i1 + 1)), none]) (And.intro rfl (And.intro rfl (And.intro rfl (And.intro rfl (And.intro rfl (And.intro rfl trivial)))))) ?_
            exact ih3 (i1 + 1) h2 (by omega) (by omega) k3 (by omega)
          · refine A_astore (L' := [some (av_R (some 143)), some (av_R (some a1)), some (av_R (some a2)), some (av_I a3), some (av_I a4), some (av_I i1), some (av_R (some x9))]) d_Judge_hearParallels_25 (Nat.le_of_ble_eq_true rfl) rfl ?_
            refine A_aload d_Judge_hearParallels_27 rfl ?_
            refine A_ifnull (tgt := 60) d_Judge_hearParallels_29 (by decide) (fun q => by cases q) (fun _ _ => ?_)
            refine A_aload d_Judge_hearParallels_32 rfl ?_
            refine A_aload_n 0 d_Judge_hearParallels_34 rfl rfl ?_
            refine A_getAv (z := some 145) T_ok d_Judge_hearParallels_35 f_Judge_15 (xi_s k3.1 sf_143) (xi_r k3.1 rff_143_2) ?_
            refine A_iload d_Judge_hearParallels_38 rfl ?_
            refine A_ialoadn (lo := 0) (hi := 300) d_Judge_hearParallels_40 (xi_s k3.1 sf_145) (by omega) (by omega) (xi_g k3.1 (by decide) (rgf_145 _)) (fun x11 ex11 _ _ => ?_)
            refine A_pc (pc' := 41) rfl ?_
            refine A_aload_n 2 d_Judge_hearParallels_41 rfl rfl ?_
            refine A_iload d_Judge_hearParallels_42 rfl ?_
            refine A_callS4 m_Judge_isParallel d_Judge_hearParallels_44 l_Judge_133 k_Judge_isParallel (by decide +kernel) (by decide) (Nat.le_of_ble_eq_true rfl) (s_Judge_isParallel k3.1 (tV_V ha1 tx9) (by omega) (by omega) ha2 (by omega) (by omega)) (fun r h12 hq => ?_)
            obtain ⟨x14, rfl, bx14, rfl⟩ := hq
            refine A_if_eq (tgt := 60) d_Judge_hearParallels_47 (by decide) (fun c15 => ?_) (fun c15 => ?_)
            · refine A_iincv (z := (i1 + 1)) (L' := [some (av_R (some 143)), some (av_R (some a1)), some (av_R (some a2)), some (av_I a3), some (av_I a4), some (av_I (i1 + 1)), some (av_R (some x9))]) d_Judge_hearParallels_60 rfl (w32_to (by omega) (by unfold i32; omega)) rfl ?_
              refine A_goto (tgt := 3) d_Judge_hearParallels_63 (by decide) ?_
              refine A_free (L' := [some (av_R (some 143)), some (av_R (some a1)), some (av_R (some a2)), some (av_I a3), some (av_I a4), some (av_I (i1 + 1)), none]) (And.intro rfl (And.intro rfl (And.intro rfl (And.intro rfl (And.intro rfl (And.intro rfl trivial)))))) ?_
              exact ih3 (i1 + 1) h2 (by omega) (by omega) k3 (by omega)
            · refine A_aload_n 0 d_Judge_hearParallels_50 rfl rfl ?_
              refine A_iconst d_Judge_hearParallels_51 rfl ?_
              refine A_iload_n 3 d_Judge_hearParallels_52 rfl rfl ?_
              refine A_iload d_Judge_hearParallels_53 rfl ?_
              refine A_iload d_Judge_hearParallels_55 rfl ?_
              refine A_pc (pc' := 57) rfl ?_
              refine A_callV4 m_Judge_add T_ok d_Judge_hearParallels_57 l_Judge_50 k_Judge_add (xi_s k3.1 sf_143) rfl (by decide +kernel) (by decide) (Nat.le_of_ble_eq_true rfl) (z_Judge_add k3.1 ) (fun r h16 hq => ?_)
              obtain ⟨rfl, k17⟩ := hq
              have k18 := kF_t k3 k17 (fun _ q => q)
              refine A_iincv (z := (i1 + 1)) (L' := [some (av_R (some 143)), some (av_R (some a1)), some (av_R (some a2)), some (av_I a3), some (av_I a4), some (av_I (i1 + 1)), some (av_R (some x9))]) d_Judge_hearParallels_60 rfl (w32_to (by omega) (by unfold i32; omega)) rfl ?_
              refine A_goto (tgt := 3) d_Judge_hearParallels_63 (by decide) ?_
              refine A_free (L' := [some (av_R (some 143)), some (av_R (some a1)), some (av_R (some a2)), some (av_I a3), some (av_I a4), some (av_I (i1 + 1)), none]) (And.intro rfl (And.intro rfl (And.intro rfl (And.intro rfl (And.intro rfl (And.intro rfl trivial)))))) ?_
              exact ih3 (i1 + 1) h16 (by omega) (by omega) k18 (by omega)
  exact lp3 _ 0 h (by omega) (by omega) k0 (Nat.lt_succ_self _)
theorem z_Judge_hearVoice {G : cx_T} {s : Nat} {h : ah_T} (hx : xi s h) {a1 : Nat} {a2 : Nat} {a3 : Int} (ha1 : isS a1) (ha2 : isV a2) : con G 4 0 0 m_Judge_hearVoice [av_R (some 143), av_R (some a1), av_R (some a2), av_I a3] h (fun r h' => r = none ∧ kF FCJ s h h') := by
  refine con_of (L := [some (av_R (some 143)), some (av_R (some a1)), some (av_R (some a2)), some (av_I a3), none, none]) (by decide +kernel) (Nat.le_of_ble_eq_true rfl) rfl ?_
  have hS : isS s := hx.2.1
  have hs0 : s = 17 ∨ s = 80 := hS
  have k0 : kF FCJ s h h := kF_0 hx
  have ga2 := lt_V ha2
  refine A_locI 3 rfl (fun ra => ?_)
  obtain ⟨_, _⟩ := ra
  refine A_iconst d_Judge_hearVoice_0 rfl ?_
  refine A_istore (L' := [some (av_R (some 143)), some (av_R (some a1)), some (av_R (some a2)), some (av_I a3), some (av_I 0), none]) d_Judge_hearVoice_1 (Nat.le_of_ble_eq_true rfl) rfl ?_
  have lp3 : ∀ (n : Nat) (i1 : Int) (h2 : ah_T) , 0 ≤ i1 → i1 ≤ 4 → kF FCJ s h h2 → (5 - i1).toNat < n → aw G (rm_R 4 0 0) m_Judge_hearVoice 0 0 3 [some (av_R (some 143)), some (av_R (some a1)), some (av_R (some a2)), some (av_I a3), some (av_I i1), none] [] h2 (fun r h' => r = none ∧ kF FCJ s h h') := by
    intro n
    induction n with
    | zero => intro i1 h2 _ _ _ hm; omega
    | succ n ih3 =>
      intro i1 h2 hl0 hl1 k3 hm
      refine A_iload d_Judge_hearVoice_3 rfl ?_
      refine A_aload_n 0 d_Judge_hearVoice_5 rfl rfl ?_
      refine A_getAv (z := some 145) T_ok d_Judge_hearVoice_6 f_Judge_15 (xi_s k3.1 sf_143) (xi_r k3.1 rff_143_2) ?_
      refine A_alenN d_Judge_hearVoice_9 (xi_s k3.1 sf_145) (by decide) (by decide) ?_
      refine A_icmp_ge (tgt := 27) d_Judge_hearVoice_10 (by decide) (fun c5 => ?_) (fun c5 => ?_)
      · refine A_iconst d_Judge_hearVoice_27 rfl ?_
        refine A_istore (L' := [some (av_R (some 143)), some (av_R (some a1)), some (av_R (some a2)), some (av_I a3), some (av_I 0), none]) d_Judge_hearVoice_28 (Nat.le_of_ble_eq_true rfl) rfl ?_
        refine A_iconst d_Judge_hearVoice_30 rfl ?_
        refine A_istore (L' := [some (av_R (some 143)), some (av_R (some a1)), some (av_R (some a2)), some (av_I a3), some (av_I 0), some (av_I 0)]) d_Judge_hearVoice_31 (Nat.le_of_ble_eq_true rfl) rfl ?_
        have lp33 : ∀ (n : Nat) (i6 i7 : Int) (h8 : ah_T) , 0 ≤ i6 → i6 ≤ 101 → 0 ≤ i7 → i7 ≤ 301 → kF FCJ s h h8 → (302 - i7).toNat < n → aw G (rm_R 4 0 0) m_Judge_hearVoice 0 0 33 [some (av_R (some 143)), some (av_R (some a1)), some (av_R (some a2)), some (av_I a3), some (av_I i6), some (av_I i7)] [] h8 (fun r h' => r = none ∧ kF FCJ s h h') := by
          intro n
          induction n with
          | zero => intro i6 i7 h8 _ _ _ _ _ hm; omega
          | succ n ih33 =>
            intro i6 i7 h8 hl0 hl1 hl2 hl3 k9 hm
            refine A_iload d_Judge_hearVoice_33 rfl ?_
            refine A_aload_n 2 d_Judge_hearVoice_35 rfl rfl ?_
            refine A_getIn (lo := 0) (hi := 300) T_ok d_Judge_hearVoice_36 f_Judge_35 (xs_V k9.1 ha2) (xi_g k9.1 (lt1_V ha2) (rg_V_14 ha2)) (fun x10 ex10 _ _ => ?_)
            refine A_icmp_gt (tgt := 130) d_Judge_hearVoice_39 (by decide) (fun c11 => ?_) (fun c11 => ?_)
            · exact A_vret d_Judge_hearVoice_130 (by decide) rfl ⟨rfl, k9⟩
            · have lp42 : ∀ (n : Nat) (i12 : Int) (h13 : ah_T) , 0 ≤ i12 → i12 ≤ 101 → kF FCJ s h h13 → (102 - i12).toNat < n → aw G (rm_R 4 0 0) m_Judge_hearVoice 0 0 42 [some (av_R (some 143)), some (av_R (some a1)), some (av_R (some a2)), some (av_I a3), some (av_I i12), some (av_I i7)] [] h13 (fun r h' => r = none ∧ kF FCJ s h h') := by
                intro n
                induction n with
                | zero => intro i12 h13 _ _ _ hm; omega
                | succ n ih42 =>
                  intro i12 h13 hl0 hl1 k14 hm
                  refine A_iload d_Judge_hearVoice_42 rfl ?_
                  refine A_aload_n 2 d_Judge_hearVoice_44 rfl rfl ?_
                  refine A_getIn (lo := 0) (hi := 101) T_ok d_Judge_hearVoice_45 f_Judge_40 (xs_V k14.1 ha2) (xi_g k14.1 (lt1_V ha2) (rg_V_16 ha2)) (fun x15 ex15 _ _ => ?_)
                  refine A_icmp_ge (tgt := 89) d_Judge_hearVoice_48 (by decide) (fun c16 => ?_) (fun c16 => ?_)
                  · refine A_iload d_Judge_hearVoice_89 rfl ?_
                    refine A_aload_n 2 d_Judge_hearVoice_91 rfl rfl ?_
                    refine A_getIn (lo := 0) (hi := 300) T_ok d_Judge_hearVoice_92 f_Judge_35 (xs_V k14.1 ha2) (xi_g k14.1 (lt1_V ha2) (rg_V_14 ha2)) (fun x17 ex17 _ _ => ?_)
                    refine A_icmp_ge (tgt := 124) d_Judge_hearVoice_95 (by decide) (fun c18 => ?_) (fun c18 => ?_)
                    · refine A_iincv (z := (i7 + 1)) (L' := [some (av_R (some 143)), some (av_R (some a1)), some (av_R (some a2)), some (av_I a3), some (av_I i12), some (av_I (i7 + 1))]) d_Judge_hearVoice_124 rfl (w32_to (by omega) (by unfold i32; omega)) rfl ?_
                      refine A_goto (tgt := 33) d_Judge_hearVoice_127 (by decide) ?_
                      exact ih33 i12 (i7 + 1) h13 (by omega) (by omega) (by omega) (by omega) k14 (by omega)
                    · refine A_aload_n 0 d_Judge_hearVoice_98 rfl rfl ?_
                      refine A_aload_n 2 d_Judge_hearVoice_99 rfl rfl ?_
                      refine A_iload_n 3 d_Judge_hearVoice_100 rfl rfl ?_
                      refine A_iload d_Judge_hearVoice_101 rfl ?_
                      refine A_callV3 m_Judge_hearAlone T_ok d_Judge_hearVoice_103 l_Judge_54 k_Judge_hearAlone (xi_s k14.1 sf_143) rfl (by decide +kernel) (by decide) (Nat.le_of_ble_eq_true rfl) (z_Judge_hearAlone k14.1 ha2 (by omega) (by omega)) (fun r h19 hq => ?_)
                      obtain ⟨rfl, k20⟩ := hq
                      have k21 := kF_t k14 k20 (fun _ q => q)
                      refine A_aload_n 0 d_Judge_hearVoice_106 rfl rfl ?_
                      refine A_aload_n 1 d_Judge_hearVoice_107 rfl rfl ?_
                      refine A_aload_n 2 d_Judge_hearVoice_108 rfl rfl ?_
                      refine A_iload_n 3 d_Judge_hearVoice_109 rfl rfl ?_
                      refine A_iload d_Judge_hearVoice_110 rfl ?_
                      refine A_pc (pc' := 112) rfl ?_
                      refine A_callV4 m_Judge_hearCrossings T_ok d_Judge_hearVoice_112 l_Judge_58 k_Judge_hearCrossings (xi_s k21.1 sf_143) rfl (by decide +kernel) (by decide) (Nat.le_of_ble_eq_true rfl) (z_Judge_hearCrossings k21.1 ha1 ha2 (by omega) (by omega)) (fun r h22 hq => ?_)
                      obtain ⟨rfl, k23⟩ := hq
                      have k24 := kF_t k21 k23 (fun _ q => q)
                      refine A_aload_n 0 d_Judge_hearVoice_115 rfl rfl ?_
                      refine A_aload_n 1 d_Judge_hearVoice_116 rfl rfl ?_
                      refine A_aload_n 2 d_Judge_hearVoice_117 rfl rfl ?_
                      refine A_iload_n 3 d_Judge_hearVoice_118 rfl rfl ?_
                      refine A_iload d_Judge_hearVoice_119 rfl ?_
                      refine A_pc (pc' := 121) rfl ?_
                      refine A_callV4 m_Judge_hearParallels T_ok d_Judge_hearVoice_121 l_Judge_62 k_Judge_hearParallels (xi_s k24.1 sf_143) rfl (by decide +kernel) (by decide) (Nat.le_of_ble_eq_true rfl) (z_Judge_hearParallels k24.1 ha1 ha2 (by omega) (by omega)) (fun r h25 hq => ?_)
                      obtain ⟨rfl, k26⟩ := hq
                      have k27 := kF_t k24 k26 (fun _ q => q)
                      refine A_iincv (z := (i7 + 1)) (L' := [some (av_R (some 143)), some (av_R (some a1)), some (av_R (some a2)), some (av_I a3), some (av_I i12), some (av_I (i7 + 1))]) d_Judge_hearVoice_124 rfl (w32_to (by omega) (by unfold i32; omega)) rfl ?_
                      refine A_goto (tgt := 33) d_Judge_hearVoice_127 (by decide) ?_
                      exact ih33 i12 (i7 + 1) h25 (by omega) (by omega) (by omega) (by omega) k27 (by omega)
                  · refine A_aload_n 2 d_Judge_hearVoice_51 rfl rfl ?_
                    refine A_getAv (z := some (a2 + 13)) T_ok d_Judge_hearVoice_52 f_Judge_43 (xs_V k14.1 ha2) (xr_V_15 k14.1 ha2) ?_
                    refine A_iload d_Judge_hearVoice_55 rfl ?_
                    refine A_ialoadn (lo := 0) (hi := 300) d_Judge_hearVoice_57 (xs_V_15 k14.1 ha2) (by omega) (by omega) (xi_g k14.1 (lt2_V ha2 (by decide)) (rg_V_15 ha2 _)) (fun x29 ex29 _ _ => ?_)
                    refine A_iload d_Judge_hearVoice_58 rfl ?_
                    refine A_pc (pc' := 60) rfl ?_
                    refine A_icmp_gt (tgt := 89) d_Judge_hearVoice_60 (by decide) (fun c30 => ?_) (fun c30 => ?_)
                    · refine A_iload d_Judge_hearVoice_89 rfl ?_
                      refine A_aload_n 2 d_Judge_hearVoice_91 rfl rfl ?_
                      refine A_getIn (lo := 0) (hi := 300) T_ok d_Judge_hearVoice_92 f_Judge_35 (xs_V k14.1 ha2) (xi_g k14.1 (lt1_V ha2) (rg_V_14 ha2)) (fun x31 ex31 _ _ => ?_)
                      refine A_icmp_ge (tgt := 124) d_Judge_hearVoice_95 (by decide) (fun c32 => ?_) (fun c32 => ?_)
                      · refine A_iincv (z := (i7 + 1)) (L' := [some (av_R (some 143)), some (av_R (some a1)), some (av_R (some a2)), some (av_I a3), some (av_I i12), some (av_I (i7 + 1))]) d_Judge_hearVoice_124 rfl (w32_to (by omega) (by unfold i32; omega)) rfl ?_
                        refine A_goto (tgt := 33) d_Judge_hearVoice_127 (by decide) ?_
                        exact ih33 i12 (i7 + 1) h13 (by omega) (by omega) (by omega) (by omega) k14 (by omega)
                      · refine A_aload_n 0 d_Judge_hearVoice_98 rfl rfl ?_
                        refine A_aload_n 2 d_Judge_hearVoice_99 rfl rfl ?_
                        refine A_iload_n 3 d_Judge_hearVoice_100 rfl rfl ?_
                        refine A_iload d_Judge_hearVoice_101 rfl ?_
                        refine A_callV3 m_Judge_hearAlone T_ok d_Judge_hearVoice_103 l_Judge_54 k_Judge_hearAlone (xi_s k14.1 sf_143) rfl (by decide +kernel) (by decide) (Nat.le_of_ble_eq_true rfl) (z_Judge_hearAlone k14.1 ha2 (by omega) (by omega)) (fun r h33 hq => ?_)
                        obtain ⟨rfl, k34⟩ := hq
                        have k35 := kF_t k14 k34 (fun _ q => q)
                        refine A_aload_n 0 d_Judge_hearVoice_106 rfl rfl ?_
                        refine A_aload_n 1 d_Judge_hearVoice_107 rfl rfl ?_
                        refine A_aload_n 2 d_Judge_hearVoice_108 rfl rfl ?_
                        refine A_iload_n 3 d_Judge_hearVoice_109 rfl rfl ?_
                        refine A_iload d_Judge_hearVoice_110 rfl ?_
                        refine A_pc (pc' := 112) rfl ?_
                        refine A_callV4 m_Judge_hearCrossings T_ok d_Judge_hearVoice_112 l_Judge_58 k_Judge_hearCrossings (xi_s k35.1 sf_143) rfl (by decide +kernel) (by decide) (Nat.le_of_ble_eq_true rfl) (z_Judge_hearCrossings k35.1 ha1 ha2 (by omega) (by omega)) (fun r h36 hq => ?_)
                        obtain ⟨rfl, k37⟩ := hq
                        have k38 := kF_t k35 k37 (fun _ q => q)
                        refine A_aload_n 0 d_Judge_hearVoice_115 rfl rfl ?_
                        refine A_aload_n 1 d_Judge_hearVoice_116 rfl rfl ?_
                        refine A_aload_n 2 d_Judge_hearVoice_117 rfl rfl ?_
                        refine A_iload_n 3 d_Judge_hearVoice_118 rfl rfl ?_
                        refine A_iload d_Judge_hearVoice_119 rfl ?_
                        refine A_pc (pc' := 121) rfl ?_
                        refine A_callV4 m_Judge_hearParallels T_ok d_Judge_hearVoice_121 l_Judge_62 k_Judge_hearParallels (xi_s k38.1 sf_143) rfl (by decide +kernel) (by decide) (Nat.le_of_ble_eq_true rfl) (z_Judge_hearParallels k38.1 ha1 ha2 (by omega) (by omega)) (fun r h39 hq => ?_)
                        obtain ⟨rfl, k40⟩ := hq
                        have k41 := kF_t k38 k40 (fun _ q => q)
                        refine A_iincv (z := (i7 + 1)) (L' := [some (av_R (some 143)), some (av_R (some a1)), some (av_R (some a2)), some (av_I a3), some (av_I i12), some (av_I (i7 + 1))]) d_Judge_hearVoice_124 rfl (w32_to (by omega) (by unfold i32; omega)) rfl ?_
                        refine A_goto (tgt := 33) d_Judge_hearVoice_127 (by decide) ?_
                        exact ih33 i12 (i7 + 1) h39 (by omega) (by omega) (by omega) (by omega) k41 (by omega)
                    · refine A_aload_n 1 d_Judge_hearVoice_63 rfl rfl ?_
                      refine A_aload_n 2 d_Judge_hearVoice_64 rfl rfl ?_
                      refine A_iload d_Judge_hearVoice_65 rfl ?_
                      refine A_callS3 m_Judge_isWhole d_Judge_hearVoice_67 l_Judge_46 k_Judge_isWhole (by decide +kernel) (by decide) (Nat.le_of_ble_eq_true rfl) (s_Judge_isWhole k14.1 ha1 ha2 (by omega) (by omega)) (fun r h42 hq => ?_)
                      obtain ⟨x44, rfl, bx44, rfl⟩ := hq
                      refine A_if_ne (tgt := 83) d_Judge_hearVoice_70 (by decide) (fun c45 => ?_) (fun c45 => ?_)
                      · refine A_iincv (z := (i12 + 1)) (L' := [some (av_R (some 143)), some (av_R (some a1)), some (av_R (some a2)), some (av_I a3), some (av_I (i12 + 1)), some (av_I i7)]) d_Judge_hearVoice_83 rfl (w32_to (by omega) (by unfold i32; omega)) rfl ?_
                        refine A_goto (tgt := 42) d_Judge_hearVoice_86 (by decide) ?_
                        exact ih42 (i12 + 1) h13 (by omega) (by omega) k14 (by omega)
                      · refine A_aload_n 0 d_Judge_hearVoice_73 rfl rfl ?_
                        refine A_iconst d_Judge_hearVoice_74 rfl ?_
                        refine A_iload_n 3 d_Judge_hearVoice_75 rfl rfl ?_
                        refine A_iload d_Judge_hearVoice_76 rfl ?_
                        refine A_iload d_Judge_hearVoice_78 rfl ?_
                        refine A_pc (pc' := 80) rfl ?_
                        refine A_callV4 m_Judge_add T_ok d_Judge_hearVoice_80 l_Judge_50 k_Judge_add (xi_s k14.1 sf_143) rfl (by decide +kernel) (by decide) (Nat.le_of_ble_eq_true rfl) (z_Judge_add k14.1 ) (fun r h46 hq => ?_)
                        obtain ⟨rfl, k47⟩ := hq
                        have k48 := kF_t k14 k47 (fun _ q => q)
                        refine A_iincv (z := (i12 + 1)) (L' := [some (av_R (some 143)), some (av_R (some a1)), some (av_R (some a2)), some (av_I a3), some (av_I (i12 + 1)), some (av_I i7)]) d_Judge_hearVoice_83 rfl (w32_to (by omega) (by unfold i32; omega)) rfl ?_
                        refine A_goto (tgt := 42) d_Judge_hearVoice_86 (by decide) ?_
                        exact ih42 (i12 + 1) h46 (by omega) (by omega) k48 (by omega)
              exact lp42 _ i6 h8 (by omega) (by omega) k9 (Nat.lt_succ_self _)
        exact lp33 _ 0 0 h2 (by omega) (by omega) (by omega) (by omega) k3 (Nat.lt_succ_self _)
      · refine A_aload_n 0 d_Judge_hearVoice_13 rfl rfl ?_
        refine A_getAv (z := some 145) T_ok d_Judge_hearVoice_14 f_Judge_15 (xi_s k3.1 sf_143) (xi_r k3.1 rff_143_2) ?_
        refine A_iload d_Judge_hearVoice_17 rfl ?_
        refine A_iconst d_Judge_hearVoice_19 rfl ?_
        refine A_iastorek (KR := kF FCJ s h) d_Judge_hearVoice_20 (xi_s k3.1 sf_145) (by omega) (by omega) (kF_j k3 (by decide) (ns_b rfl) (rgf_145 _) (by omega) (by omega)) (fun h50 k51 eh50 => ?_)
        refine A_pc (pc' := 21) rfl ?_
        refine A_iincv (z := (i1 + 1)) (L' := [some (av_R (some 143)), some (av_R (some a1)), some (av_R (some a2)), some (av_I a3), some (av_I (i1 + 1)), none]) d_Judge_hearVoice_21 rfl (w32_to (by omega) (by unfold i32; omega)) rfl ?_
        refine A_goto (tgt := 3) d_Judge_hearVoice_24 (by decide) ?_
        exact ih3 (i1 + 1) h50 (by omega) (by omega) k51 (by omega)
  exact lp3 _ 0 h (by omega) (by omega) k0 (Nat.lt_succ_self _)
theorem z_Judge_hear {G : cx_T} {s : Nat} {h : ah_T} (hx : xi s h) {a1 : Nat} (ha1 : isS a1) : con G 5 0 0 m_Judge_hear [av_R (some 143), av_R (some a1)] h (fun r h' => ∃ z, r = some (av_I z) ∧ (0 ≤ z ∧ z ≤ 6404) ∧ kF FCJ s h h') := by
  refine con_of (L := [some (av_R (some 143)), some (av_R (some a1)), none, none]) (by decide +kernel) (Nat.le_of_ble_eq_true rfl) rfl ?_
  have hS : isS s := hx.2.1
  have hs0 : s = 17 ∨ s = 80 := hS
  have k0 : kF FCJ s h h := kF_0 hx
  refine A_aload_n 0 d_Judge_hear_0 rfl rfl ?_
  refine A_iconst d_Judge_hear_1 rfl ?_
  refine A_putIk (KR := kF FCJ s h) T_ok d_Judge_hear_2 f_Judge_18 (xi_s k0.1 sf_143) fin_f (kF_j k0 (by decide) (ns_b rfl) rgf_143_1 (by omega) (by omega)) (fun h1 k2 eh1 => ?_)
  refine A_iconst d_Judge_hear_5 rfl ?_
  refine A_istore_n 2 (L' := [some (av_R (some 143)), some (av_R (some a1)), some (av_I 0), none]) d_Judge_hear_6 rfl (Nat.le_of_ble_eq_true rfl) rfl ?_
  have lp7 : ∀ (n : Nat) (i3 : Int) (h4 : ah_T) , 0 ≤ i3 → i3 ≤ 4 → kF FCJ s h h4 → (5 - i3).toNat < n → aw G (rm_R 5 0 0) m_Judge_hear 0 0 7 [some (av_R (some 143)), some (av_R (some a1)), some (av_I i3), none] [] h4 (fun r h' => ∃ z, r = some (av_I z) ∧ (0 ≤ z ∧ z ≤ 6404) ∧ kF FCJ s h h') := by
    intro n
    induction n with
    | zero => intro i3 h4 _ _ _ hm; omega
    | succ n ih7 =>
      intro i3 h4 hl0 hl1 k5 hm
      refine A_iload_n 2 d_Judge_hear_7 rfl rfl ?_
      refine A_aload_n 1 d_Judge_hear_8 rfl rfl ?_
      refine A_getIn (lo := 0) (hi := 4) T_ok d_Judge_hear_9 f_Judge_22 (xs_S k5.1 ha1) (xi_g k5.1 (lt1_S ha1) (rg_S_1 ha1)) (fun x6 ex6 _ _ => ?_)
      refine A_icmp_ge (tgt := 38) d_Judge_hear_12 (by decide) (fun c7 => ?_) (fun c7 => ?_)
      · refine A_aload_n 0 d_Judge_hear_38 rfl rfl ?_
        refine A_getIn (lo := 0) (hi := 6404) T_ok d_Judge_hear_39 f_Judge_18 (xi_s k5.1 sf_143) (xi_g k5.1 (by decide) rgf_143_1) (fun x8 ex8 _ _ => ?_)
        exact A_iret d_Judge_hear_42 (by decide) rfl ⟨_, rfl, ⟨by omega, by omega⟩, k5⟩
      · refine A_aload_n 1 d_Judge_hear_15 rfl rfl ?_
        refine A_iload_n 2 d_Judge_hear_16 rfl rfl ?_
        refine A_callV1 m_Score_voiceAt T_ok d_Judge_hear_17 l_Judge_27 k_Score_voiceAt (xs_S k5.1 ha1) rfl (by decide +kernel) (by decide) (Nat.le_of_ble_eq_true rfl) (s_Score_voiceAt k5.1 ha1) (fun r h9 hq => ?_)
        obtain ⟨ox11, rfl, qx11, rfl⟩ := hq
        rcases qx11 with rfl | ⟨x11, rfl, tx11⟩
        · refine A_astore_n 3 (L' := [some (av_R (some 143)), some (av_R (some a1)), some (av_I i3), some (av_R none)]) d_Judge_hear_20 rfl (Nat.le_of_ble_eq_true rfl) rfl ?_
          refine A_aload_n 3 d_Judge_hear_21 rfl rfl ?_
          refine A_ifnull (tgt := 32) d_Judge_hear_22 (by decide) (fun _ => ?_) (fun a q => by cases q)
          refine A_iincv (z := (i3 + 1)) (L' := [some (av_R (some 143)), some (av_R (some a1)), some (av_I (i3 + 1)), some (av_R none)]) d_Judge_hear_32 rfl (w32_to (by omega) (by unfold i32; omega)) rfl ?_
          refine A_goto (tgt := 7) d_Judge_hear_35 (by decide) ?_
          refine A_free (L' := [some (av_R (some 143)), some (av_R (some a1)), some (av_I (i3 + 1)), none]) (And.intro rfl (And.intro rfl (And.intro rfl trivial))) ?_
          exact ih7 (i3 + 1) h4 (by omega) (by omega) k5 (by omega)
        · refine A_astore_n 3 (L' := [some (av_R (some 143)), some (av_R (some a1)), some (av_I i3), some (av_R (some x11))]) d_Judge_hear_20 rfl (Nat.le_of_ble_eq_true rfl) rfl ?_
          refine A_aload_n 3 d_Judge_hear_21 rfl rfl ?_
          refine A_ifnull (tgt := 32) d_Judge_hear_22 (by decide) (fun q => by cases q) (fun _ _ => ?_)
          refine A_aload_n 0 d_Judge_hear_25 rfl rfl ?_
          refine A_aload_n 1 d_Judge_hear_26 rfl rfl ?_
          refine A_aload_n 3 d_Judge_hear_27 rfl rfl ?_
          refine A_iload_n 2 d_Judge_hear_28 rfl rfl ?_
          refine A_callV3 m_Judge_hearVoice T_ok d_Judge_hear_29 l_Judge_31 k_Judge_hearVoice (xi_s k5.1 sf_143) rfl (by decide +kernel) (by decide) (Nat.le_of_ble_eq_true rfl) (z_Judge_hearVoice k5.1 ha1 (tV_V ha1 tx11)) (fun r h12 hq => ?_)
          obtain ⟨rfl, k13⟩ := hq
          have k14 := kF_t k5 k13 (fun _ q => q)
          refine A_iincv (z := (i3 + 1)) (L' := [some (av_R (some 143)), some (av_R (some a1)), some (av_I (i3 + 1)), some (av_R (some x11))]) d_Judge_hear_32 rfl (w32_to (by omega) (by unfold i32; omega)) rfl ?_
          refine A_goto (tgt := 7) d_Judge_hear_35 (by decide) ?_
          refine A_free (L' := [some (av_R (some 143)), some (av_R (some a1)), some (av_I (i3 + 1)), none]) (And.intro rfl (And.intro rfl (And.intro rfl trivial))) ?_
          exact ih7 (i3 + 1) h12 (by omega) (by omega) k14 (by omega)
  exact lp7 _ 0 h1 (by omega) (by omega) k2 (Nat.lt_succ_self _)
theorem z_PM_judge {G : cx_T} {s : Nat} {h : ah_T} (hx : xi s h)   : con G 6 0 0 m_PM_judge [av_R (some 0)] h (fun r h' => ∃ z, r = some (av_I z) ∧ ((-2147483648) ≤ z ∧ z ≤ 2147483647) ∧ kF FCJ s h h') := by
  refine con_of (L := [some (av_R (some 0))]) (by decide +kernel) (Nat.le_of_ble_eq_true rfl) rfl ?_
  have hS : isS s := hx.2.1
  have hs0 : s = 17 ∨ s = 80 := hS
  have k0 : kF FCJ s h h := kF_0 hx
  refine A_aload_n 0 d_PM_judge_0 rfl rfl ?_
  refine A_getOv (z := some 143) T_ok d_PM_judge_1 f_PM_37 (xi_s k0.1 sf_0) (xi_r k0.1 rff_0_5) ?_
  refine A_aload_n 0 d_PM_judge_4 rfl rfl ?_
  refine A_getOv (z := some (97 - s)) T_ok d_PM_judge_5 f_PM_27 (xi_s k0.1 sf_0) k0.1.2.2.1 ?_
  refine A_callV1 m_Judge_hear T_ok d_PM_judge_8 l_PM_157 k_Judge_hear (xi_s k0.1 sf_143) rfl (by decide +kernel) (by decide) (Nat.le_of_ble_eq_true rfl) (z_Judge_hear k0.1 (isS_o hS)) (fun r h3 hq => ?_)
  obtain ⟨x5, rfl, ⟨_, _⟩, k4⟩ := hq
  have k6 := kF_t k0 k4 (fun _ q => q)
  exact A_iret d_PM_judge_11 (by decide) rfl ⟨_, rfl, ⟨by omega, by omega⟩, k6⟩

/-! ===== Beams: what its methods leave as it was ===== -/
abbrev FCB : Nat → Prop := fun a => a < 146 ∨ 150 ≤ a
theorem z_Beams_cutRun {G : cx_T} {s : Nat} {h : ah_T} (hx : xi s h) {a1 : Nat} {a2 : Int} {a3 : Int} {a4 : Int} {a5 : Int} (ha1 : isV a1) (la2 : 0 ≤ a2) (ua2 : a2 ≤ 100) (la3 : 0 ≤ a3) (ua3 : a3 ≤ 301) (la4 : 0 ≤ a4) (ua4 : a4 ≤ 300) : con G 2 0 0 m_Beams_cutRun [av_R (some 146), av_R (some a1), av_I a2, av_I a3, av_I a4, av_I a5] h (fun r h' => ∃ z, r = some (av_I z) ∧ ((-2147483648) ≤ z ∧ z ≤ 2147483647) ∧ kF FCB s h h') := by
  refine con_of (L := [some (av_R (some 146)), some (av_R (some a1)), some (av_I a2), some (av_I a3), some (av_I a4), some (av_I a5), none, none, none, none]) (by decide +kernel) (Nat.le_of_ble_eq_true rfl) rfl ?_
  have hS : isS s := hx.2.1
  have hs0 : s = 17 ∨ s = 80 := hS
  have k0 : kF FCB s h h := kF_0 hx
  have ga1 := lt_V ha1
  refine A_locI 5 rfl (fun ra => ?_)
  obtain ⟨_, _⟩ := ra
  refine A_iload d_Beams_cutRun_0 rfl ?_
  refine A_iload_n 3 d_Beams_cutRun_2 rfl rfl ?_
  refine A_isubv (z := (a4 - a3)) d_Beams_cutRun_3 (w32_to (by omega) (by unfold i32; omega)) ?_
  refine A_bipush d_Beams_cutRun_4 rfl ?_
  refine A_mmin d_Beams_cutRun_6 lm_Beams_42 ma_min (by decide) (by decide) (Nat.le_of_ble_eq_true rfl) rfl ?_
  refine A_nrI (fun x1 ex1 _ _ => ?_)
  have bx1 := mmin_r ex1
  refine A_pc (pc' := 9) rfl ?_
  refine A_istore (L' := [some (av_R (some 146)), some (av_R (some a1)), some (av_I a2), some (av_I a3), some (av_I a4), some (av_I a5), some (av_I x1), none, none, none]) d_Beams_cutRun_9 (Nat.le_of_ble_eq_true rfl) rfl ?_
  refine A_iload d_Beams_cutRun_11 rfl ?_
  refine A_if_gt (tgt := 18) d_Beams_cutRun_13 (by decide) (fun c2 => ?_) (fun c2 => ?_)
  · refine A_aload_n 0 d_Beams_cutRun_18 rfl rfl ?_
    refine A_getAv (z := some 148) T_ok d_Beams_cutRun_19 f_Beams_15 (xi_s k0.1 sf_146) (xi_r k0.1 rff_146_2) ?_
    refine A_iload d_Beams_cutRun_22 rfl ?_
    refine A_iconst d_Beams_cutRun_24 rfl ?_
    refine A_iastorek (KR := kF FCB s h) d_Beams_cutRun_25 (xi_s k0.1 sf_148) (by omega) (by omega) (kF_j k0 (by decide) (ns_b rfl) (rgf_148 _) (by omega) (by omega)) (fun h4 k5 eh4 => ?_)
    refine A_pc (pc' := 26) rfl ?_
    refine A_iload d_Beams_cutRun_26 rfl ?_
    refine A_iconst d_Beams_cutRun_28 rfl ?_
    refine A_isubv (z := (x1 - 1)) d_Beams_cutRun_29 (w32_to (by omega) (by unfold i32; omega)) ?_
    refine A_istore (L' := [some (av_R (some 146)), some (av_R (some a1)), some (av_I a2), some (av_I a3), some (av_I a4), some (av_I a5), some (av_I x1), some (av_I (x1 - 1)), none, none]) d_Beams_cutRun_30 (Nat.le_of_ble_eq_true rfl) rfl ?_
    have lp32 : ∀ (n : Nat) (i6 : Int) (h7 : ah_T) , (-1) ≤ i6 → i6 ≤ 13 → kF FCB s h h7 → (i6 + 2).toNat < n → aw G (rm_R 2 0 0) m_Beams_cutRun 0 0 32 [some (av_R (some 146)), some (av_R (some a1)), some (av_I a2), some (av_I a3), some (av_I a4), some (av_I a5), some (av_I x1), some (av_I i6), none, none] [] h7 (fun r h' => ∃ z, r = some (av_I z) ∧ ((-2147483648) ≤ z ∧ z ≤ 2147483647) ∧ kF FCB s h h') := by
      intro n
      induction n with
      | zero => intro i6 h7 _ _ _ hm; omega
      | succ n ih32 =>
        intro i6 h7 hl0 hl1 k8 hm
        refine A_iload d_Beams_cutRun_32 rfl ?_
        refine A_if_lt (tgt := 171) d_Beams_cutRun_34 (by decide) (fun c9 => ?_) (fun c9 => ?_)
        · refine A_iconst d_Beams_cutRun_171 rfl ?_
          refine A_istore (L' := [some (av_R (some 146)), some (av_R (some a1)), some (av_I a2), some (av_I a3), some (av_I a4), some (av_I a5), some (av_I x1), some (av_I 0), none, none]) d_Beams_cutRun_172 (Nat.le_of_ble_eq_true rfl) rfl ?_
          have lp174 : ∀ (n : Nat) (i10 : Int) (h11 : ah_T) , 0 ≤ i10 → i10 ≤ 19 → kF FCB s h h11 → (14 - h11.2.1 146 1).toNat < n → aw G (rm_R 2 0 0) m_Beams_cutRun 0 0 174 [some (av_R (some 146)), some (av_R (some a1)), some (av_I a2), some (av_I a3), some (av_I a4), some (av_I a5), some (av_I x1), some (av_I i10), none, none] [] h11 (fun r h' => ∃ z, r = some (av_I z) ∧ ((-2147483648) ≤ z ∧ z ≤ 2147483647) ∧ kF FCB s h h') := by
            intro n
            induction n with
            | zero => intro i10 h11 _ _ _ hm; omega
            | succ n ih174 =>
              intro i10 h11 hl0 hl1 k12 hm
              refine A_iload d_Beams_cutRun_174 rfl ?_
              refine A_iload d_Beams_cutRun_176 rfl ?_
              refine A_icmp_ge (tgt := 234) d_Beams_cutRun_178 (by decide) (fun c13 => ?_) (fun c13 => ?_)
              · refine A_aload_n 0 d_Beams_cutRun_234 rfl rfl ?_
                refine A_getAv (z := some 148) T_ok d_Beams_cutRun_235 f_Beams_15 (xi_s k12.1 sf_146) (xi_r k12.1 rff_146_2) ?_
                refine A_iconst d_Beams_cutRun_238 rfl ?_
                refine A_ialoadf d_Beams_cutRun_239 (xi_s k12.1 sf_148) (by decide) (by decide) (fun x15 ex15 _ _ => ?_)
                exact A_iret d_Beams_cutRun_240 (by decide) rfl ⟨_, rfl, ⟨by omega, by omega⟩, k12⟩
              · refine A_aload_n 0 d_Beams_cutRun_181 rfl rfl ?_
                refine A_getIn (lo := 0) (hi := 14) T_ok d_Beams_cutRun_182 f_Beams_21 (xi_s k12.1 sf_146) (xi_g k12.1 (by decide) rgf_146_1) (fun x16 ex16 _ _ => ?_)
                refine A_aload_n 0 d_Beams_cutRun_185 rfl rfl ?_
                refine A_getAv (z := some 147) T_ok d_Beams_cutRun_186 f_Beams_11 (xi_s k12.1 sf_146) (xi_r k12.1 rff_146_0) ?_
                refine A_alenN d_Beams_cutRun_189 (xi_s k12.1 sf_147) (by decide) (by decide) ?_
                refine A_pc (pc' := 190) rfl ?_
                refine A_icmp_ge (tgt := 234) d_Beams_cutRun_190 (by decide) (fun c18 => ?_) (fun c18 => ?_)
                · refine A_aload_n 0 d_Beams_cutRun_234 rfl rfl ?_
                  refine A_getAv (z := some 148) T_ok d_Beams_cutRun_235 f_Beams_15 (xi_s k12.1 sf_146) (xi_r k12.1 rff_146_2) ?_
                  refine A_iconst d_Beams_cutRun_238 rfl ?_
                  refine A_ialoadf d_Beams_cutRun_239 (xi_s k12.1 sf_148) (by decide) (by decide) (fun x20 ex20 _ _ => ?_)
                  exact A_iret d_Beams_cutRun_240 (by decide) rfl ⟨_, rfl, ⟨by omega, by omega⟩, k12⟩
                · refine A_aload_n 0 d_Beams_cutRun_193 rfl rfl ?_
                  refine A_getAv (z := some 147) T_ok d_Beams_cutRun_194 f_Beams_11 (xi_s k12.1 sf_146) (xi_r k12.1 rff_146_0) ?_
                  refine A_aload_n 0 d_Beams_cutRun_197 rfl rfl ?_
                  refine A_getIv (z := x16) T_ok d_Beams_cutRun_198 f_Beams_21 (xi_s k12.1 sf_146) ex16.symm ?_
                  refine A_aload_n 0 d_Beams_cutRun_201 rfl rfl ?_
                  refine A_pc (pc' := 202) rfl ?_
                  refine A_getAv (z := some 149) T_ok d_Beams_cutRun_202 f_Beams_18 (xi_s k12.1 sf_146) (xi_r k12.1 rff_146_3) ?_
                  refine A_iload d_Beams_cutRun_205 rfl ?_
                  refine A_ialoadn (lo := 0) (hi := 6) d_Beams_cutRun_207 (xi_s k12.1 sf_149) (by omega) (by omega) (xi_g k12.1 (by decide) (rgf_149 _)) (fun x24 ex24 _ _ => ?_)
                  refine A_iastorek (KR := kF FCB s h) d_Beams_cutRun_208 (xi_s k12.1 sf_147) (by omega) (by omega) (kF_j k12 (by decide) (ns_b rfl) (rgf_147 _) (by omega) (by omega)) (fun h25 k26 eh25 => ?_)
                  refine A_aload_n 0 d_Beams_cutRun_209 rfl rfl ?_
                  refine A_dupR d_Beams_cutRun_210 ?_
                  refine A_pc (pc' := 211) rfl ?_
                  refine A_getIv (z := x16) T_ok d_Beams_cutRun_211 f_Beams_21 (xi_s k26.1 sf_146) ((eh25.1 _ _ (fun q => absurd q (by decide))).trans ex16.symm) ?_
                  refine A_iconst d_Beams_cutRun_214 rfl ?_
                  refine A_iaddv (z := (x16 + 1)) d_Beams_cutRun_215 (w32_to (by omega) (by unfold i32; omega)) ?_
                  refine A_putIk (KR := kF FCB s h) T_ok d_Beams_cutRun_216 f_Beams_21 (xi_s k26.1 sf_146) fin_f (kF_j k26 (by decide) (ns_b rfl) rgf_146_1 (by omega) (by omega)) (fun h28 k29 eh28 => ?_)
                  refine A_iload d_Beams_cutRun_219 rfl ?_
                  refine A_aload_n 0 d_Beams_cutRun_221 rfl rfl ?_
                  refine A_pc (pc' := 222) rfl ?_
                  refine A_getAv (z := some 149) T_ok d_Beams_cutRun_222 f_Beams_18 (xi_s k29.1 sf_146) (xi_r k29.1 rff_146_3) ?_
                  refine A_iload d_Beams_cutRun_225 rfl ?_
                  refine A_ialoadv (z := x24) d_Beams_cutRun_227 (xi_s k29.1 sf_149) (by omega) (by omega) ((eh28.1 _ _ (fun q => absurd q (by decide))).trans ((eh25.1 _ _ (fun q => absurd q (by decide))).trans ex24.symm)) ?_
                  refine A_iaddv (z := (i10 + x24)) d_Beams_cutRun_228 (w32_to (by omega) (by unfold i32; omega)) ?_
                  refine A_istore (L' := [some (av_R (some 146)), some (av_R (some a1)), some (av_I a2), some (av_I a3), some (av_I a4), some (av_I a5), some (av_I x1), some (av_I (i10 + x24)), none, none]) d_Beams_cutRun_229 (Nat.le_of_ble_eq_true rfl) rfl ?_
                  refine A_goto (tgt := 174) d_Beams_cutRun_231 (by decide) ?_
                  exact ih174 (i10 + x24) h28 (by omega) (by omega) k29 (by have qq0 := eh28.2.1; omega)
          exact lp174 _ 0 h7 (by omega) (by omega) k8 (Nat.lt_succ_self _)
        · refine A_aload_n 0 d_Beams_cutRun_37 rfl rfl ?_
          refine A_getAv (z := some 149) T_ok d_Beams_cutRun_38 f_Beams_18 (xi_s k8.1 sf_146) (xi_r k8.1 rff_146_3) ?_
          refine A_iload d_Beams_cutRun_41 rfl ?_
          refine A_iconst d_Beams_cutRun_43 rfl ?_
          refine A_iastorek (KR := kF FCB s h) d_Beams_cutRun_44 (xi_s k8.1 sf_149) (by omega) (by omega) (kF_j k8 (by decide) (ns_b rfl) (rgf_149 _) (by omega) (by omega)) (fun h33 k34 eh33 => ?_)
          refine A_pc (pc' := 45) rfl ?_
          refine A_aload_n 0 d_Beams_cutRun_45 rfl rfl ?_
          refine A_getAv (z := some 148) T_ok d_Beams_cutRun_46 f_Beams_15 (xi_s k34.1 sf_146) (xi_r k34.1 rff_146_2) ?_
          refine A_iload d_Beams_cutRun_49 rfl ?_
          refine A_iconst d_Beams_cutRun_51 rfl ?_
          refine A_aload_n 0 d_Beams_cutRun_52 rfl rfl ?_
          refine A_getAv (z := some 148) T_ok d_Beams_cutRun_53 f_Beams_15 (xi_s k34.1 sf_146) (xi_r k34.1 rff_146_2) ?_
          refine A_pc (pc' := 56) rfl ?_
          refine A_iload d_Beams_cutRun_56 rfl ?_
          refine A_iconst d_Beams_cutRun_58 rfl ?_
          refine A_iaddv (z := (i6 + 1)) d_Beams_cutRun_59 (w32_to (by omega) (by unfold i32; omega)) ?_
          refine A_ialoadf d_Beams_cutRun_60 (xi_s k34.1 sf_148) (by omega) (by omega) (fun x37 ex37 _ _ => ?_)
          refine A_iaddw d_Beams_cutRun_61 (fun x38 _ _ _ => ?_)
          refine A_iastorek (KR := kF FCB s h) d_Beams_cutRun_62 (xi_s k34.1 sf_148) (by omega) (by omega) (kF_j k34 (by decide) (ns_b rfl) (rgf_148 _) (by omega) (by omega)) (fun h39 k40 eh39 => ?_)
          refine A_pc (pc' := 63) rfl ?_
          refine A_iconst d_Beams_cutRun_63 rfl ?_
          refine A_istore (L' := [some (av_R (some 146)), some (av_R (some a1)), some (av_I a2), some (av_I a3), some (av_I a4), some (av_I a5), some (av_I x1), some (av_I i6), some (av_I 1), none]) d_Beams_cutRun_64 (Nat.le_of_ble_eq_true rfl) rfl ?_
          refine A_iconst d_Beams_cutRun_66 rfl ?_
          refine A_istore (L' := [some (av_R (some 146)), some (av_R (some a1)), some (av_I a2), some (av_I a3), some (av_I a4), some (av_I a5), some (av_I x1), some (av_I i6), some (av_I 1), some (av_I 2)]) d_Beams_cutRun_67 (Nat.le_of_ble_eq_true rfl) rfl ?_
          have lp69 : ∀ (n : Nat) (i41 i42 : Int) (h43 : ah_T) , (-2147483648) ≤ i41 → i41 ≤ 2147483647 → 2 ≤ i42 → i42 ≤ 7 → kF FCB s h h43 → (8 - i42).toNat < n → aw G (rm_R 2 0 0) m_Beams_cutRun 0 0 69 [some (av_R (some 146)), some (av_R (some a1)), some (av_I a2), some (av_I a3), some (av_I a4), some (av_I a5), some (av_I x1), some (av_I i6), some (av_I i41), some (av_I i42)] [] h43 (fun r h' => ∃ z, r = some (av_I z) ∧ ((-2147483648) ≤ z ∧ z ≤ 2147483647) ∧ kF FCB s h h') := by
            intro n
            induction n with
            | zero => intro i41 i42 h43 _ _ _ _ _ hm; omega
            | succ n ih69 =>
              intro i41 i42 h43 hl0 hl1 hl2 hl3 k44 hm
              refine A_iload d_Beams_cutRun_69 rfl ?_
              refine A_bipush d_Beams_cutRun_71 rfl ?_
              refine A_icmp_gt (tgt := 165) d_Beams_cutRun_73 (by decide) (fun c45 => ?_) (fun c45 => ?_)
              · refine A_iincv (z := (i6 - 1)) (L' := [some (av_R (some 146)), some (av_R (some a1)), some (av_I a2), some (av_I a3), some (av_I a4), some (av_I a5), some (av_I x1), some (av_I (i6 - 1)), some (av_I i41), some (av_I i42)]) d_Beams_cutRun_165 rfl (w32_to (by omega) (by unfold i32; omega)) rfl ?_
                refine A_goto (tgt := 32) d_Beams_cutRun_168 (by decide) ?_
                refine A_free (L' := [some (av_R (some 146)), some (av_R (some a1)), some (av_I a2), some (av_I a3), some (av_I a4), some (av_I a5), some (av_I x1), some (av_I (i6 - 1)), none, none]) (And.intro rfl (And.intro rfl (And.intro rfl (And.intro rfl (And.intro rfl (And.intro rfl (And.intro rfl (And.intro rfl trivial)))))))) ?_
                exact ih32 (i6 - 1) h43 (by omega) (by omega) k44 (by omega)
              · refine A_iload d_Beams_cutRun_76 rfl ?_
                refine A_iload d_Beams_cutRun_78 rfl ?_
                refine A_iaddv (z := (i6 + i42)) d_Beams_cutRun_80 (w32_to (by omega) (by unfold i32; omega)) ?_
                refine A_iload d_Beams_cutRun_81 rfl ?_
                refine A_icmp_gt (tgt := 165) d_Beams_cutRun_83 (by decide) (fun c46 => ?_) (fun c46 => ?_)
                · refine A_iincv (z := (i6 - 1)) (L' := [some (av_R (some 146)), some (av_R (some a1)), some (av_I a2), some (av_I a3), some (av_I a4), some (av_I a5), some (av_I x1), some (av_I (i6 - 1)), some (av_I i41), some (av_I i42)]) d_Beams_cutRun_165 rfl (w32_to (by omega) (by unfold i32; omega)) rfl ?_
                  refine A_goto (tgt := 32) d_Beams_cutRun_168 (by decide) ?_
                  refine A_free (L' := [some (av_R (some 146)), some (av_R (some a1)), some (av_I a2), some (av_I a3), some (av_I a4), some (av_I a5), some (av_I x1), some (av_I (i6 - 1)), none, none]) (And.intro rfl (And.intro rfl (And.intro rfl (And.intro rfl (And.intro rfl (And.intro rfl (And.intro rfl (And.intro rfl trivial)))))))) ?_
                  exact ih32 (i6 - 1) h43 (by omega) (by omega) k44 (by omega)
                · refine A_iload d_Beams_cutRun_86 rfl ?_
                  refine A_aload_n 1 d_Beams_cutRun_88 rfl rfl ?_
                  refine A_iload_n 2 d_Beams_cutRun_89 rfl rfl ?_
                  refine A_iload_n 3 d_Beams_cutRun_90 rfl rfl ?_
                  refine A_iload d_Beams_cutRun_91 rfl ?_
                  refine A_pc (pc' := 93) rfl ?_
                  refine A_iaddv (z := (a3 + i6)) d_Beams_cutRun_93 (w32_to (by omega) (by unfold i32; omega)) ?_
                  refine A_iload d_Beams_cutRun_94 rfl ?_
                  refine A_iaddv (z := (a3 + i6 + i42)) d_Beams_cutRun_96 (w32_to (by omega) (by unfold i32; omega)) ?_
                  refine A_iconst d_Beams_cutRun_97 rfl ?_
                  refine A_isubv (z := (a3 + i6 + i42 - 1)) d_Beams_cutRun_98 (w32_to (by omega) (by unfold i32; omega)) ?_
                  refine A_iload d_Beams_cutRun_99 rfl ?_
                  refine A_pc (pc' := 101) rfl ?_
                  refine A_callS4 m_Beams_joinCost d_Beams_cutRun_101 l_Beams_48 k_Beams_joinCost (by decide +kernel) (by decide) (Nat.le_of_ble_eq_true rfl) (s_Beams_joinCost k44.1 ha1 (by omega) (by omega) (by omega) (by omega)) (fun r h47 hq => ?_)
                  obtain ⟨x49, rfl, ⟨_, _⟩, rfl⟩ := hq
                  refine A_iaddw d_Beams_cutRun_104 (fun x50 _ _ _ => ?_)
                  refine A_istore (L' := [some (av_R (some 146)), some (av_R (some a1)), some (av_I a2), some (av_I a3), some (av_I a4), some (av_I a5), some (av_I x1), some (av_I i6), some (av_I x50), some (av_I i42)]) d_Beams_cutRun_105 (Nat.le_of_ble_eq_true rfl) rfl ?_
                  refine A_iload d_Beams_cutRun_107 rfl ?_
                  refine A_aload_n 0 d_Beams_cutRun_109 rfl rfl ?_
                  refine A_getAv (z := some 148) T_ok d_Beams_cutRun_110 f_Beams_15 (xi_s k44.1 sf_146) (xi_r k44.1 rff_146_2) ?_
                  refine A_pc (pc' := 113) rfl ?_
                  refine A_iload d_Beams_cutRun_113 rfl ?_
                  refine A_iload d_Beams_cutRun_115 rfl ?_
                  refine A_iaddv (z := (i6 + i42)) d_Beams_cutRun_117 (w32_to (by omega) (by unfold i32; omega)) ?_
                  refine A_ialoadf d_Beams_cutRun_118 (xi_s k44.1 sf_148) (by omega) (by omega) (fun x52 ex52 _ _ => ?_)
                  refine A_iaddw d_Beams_cutRun_119 (fun x53 _ _ _ => ?_)
                  refine A_aload_n 0 d_Beams_cutRun_120 rfl rfl ?_
                  refine A_pc (pc' := 121) rfl ?_
                  refine A_getAv (z := some 148) T_ok d_Beams_cutRun_121 f_Beams_15 (xi_s k44.1 sf_146) (xi_r k44.1 rff_146_2) ?_
                  refine A_iload d_Beams_cutRun_124 rfl ?_
                  refine A_ialoadf d_Beams_cutRun_126 (xi_s k44.1 sf_148) (by omega) (by omega) (fun x55 ex55 _ _ => ?_)
                  refine A_icmp_gt (tgt := 159) d_Beams_cutRun_127 (by decide) (fun c56 => ?_) (fun c56 => ?_)
                  · refine A_iincv (z := (i42 + 1)) (L' := [some (av_R (some 146)), some (av_R (some a1)), some (av_I a2), some (av_I a3), some (av_I a4), some (av_I a5), some (av_I x1), some (av_I i6), some (av_I x50), some (av_I (i42 + 1))]) d_Beams_cutRun_159 rfl (w32_to (by omega) (by unfold i32; omega)) rfl ?_
                    refine A_goto (tgt := 69) d_Beams_cutRun_162 (by decide) ?_
                    exact ih69 x50 (i42 + 1) h43 (by omega) (by omega) (by omega) (by omega) k44 (by omega)
                  · refine A_aload_n 0 d_Beams_cutRun_130 rfl rfl ?_
                    refine A_getAv (z := some 149) T_ok d_Beams_cutRun_131 f_Beams_18 (xi_s k44.1 sf_146) (xi_r k44.1 rff_146_3) ?_
                    refine A_iload d_Beams_cutRun_134 rfl ?_
                    refine A_iload d_Beams_cutRun_136 rfl ?_
                    refine A_iastorek (KR := kF FCB s h) d_Beams_cutRun_138 (xi_s k44.1 sf_149) (by omega) (by omega) (kF_j k44 (by decide) (ns_b rfl) (rgf_149 _) (by omega) (by omega)) (fun h58 k59 eh58 => ?_)
                    refine A_pc (pc' := 139) rfl ?_
                    refine A_aload_n 0 d_Beams_cutRun_139 rfl rfl ?_
                    refine A_getAv (z := some 148) T_ok d_Beams_cutRun_140 f_Beams_15 (xi_s k59.1 sf_146) (xi_r k59.1 rff_146_2) ?_
                    refine A_iload d_Beams_cutRun_143 rfl ?_
                    refine A_iload d_Beams_cutRun_145 rfl ?_
                    refine A_aload_n 0 d_Beams_cutRun_147 rfl rfl ?_
                    refine A_getAv (z := some 148) T_ok d_Beams_cutRun_148 f_Beams_15 (xi_s k59.1 sf_146) (xi_r k59.1 rff_146_2) ?_
                    refine A_pc (pc' := 151) rfl ?_
                    refine A_iload d_Beams_cutRun_151 rfl ?_
                    refine A_iload d_Beams_cutRun_153 rfl ?_
                    refine A_iaddv (z := (i6 + i42)) d_Beams_cutRun_155 (w32_to (by omega) (by unfold i32; omega)) ?_
                    refine A_ialoadv (z := x52) d_Beams_cutRun_156 (xi_s k59.1 sf_148) (by omega) (by omega) ((eh58.1 _ _ (fun q => absurd q (by decide))).trans ex52.symm) ?_
                    refine A_iaddw d_Beams_cutRun_157 (fun x63 _ _ _ => ?_)
                    refine A_iastorek (KR := kF FCB s h) d_Beams_cutRun_158 (xi_s k59.1 sf_148) (by omega) (by omega) (kF_j k59 (by decide) (ns_b rfl) (rgf_148 _) (by omega) (by omega)) (fun h64 k65 eh64 => ?_)
                    refine A_pc (pc' := 159) rfl ?_
                    refine A_iincv (z := (i42 + 1)) (L' := [some (av_R (some 146)), some (av_R (some a1)), some (av_I a2), some (av_I a3), some (av_I a4), some (av_I a5), some (av_I x1), some (av_I i6), some (av_I x50), some (av_I (i42 + 1))]) d_Beams_cutRun_159 rfl (w32_to (by omega) (by unfold i32; omega)) rfl ?_
                    refine A_goto (tgt := 69) d_Beams_cutRun_162 (by decide) ?_
                    exact ih69 x50 (i42 + 1) h64 (by omega) (by omega) (by omega) (by omega) k65 (by omega)
          exact lp69 _ 1 2 h39 (by omega) (by omega) (by omega) (by omega) k40 (Nat.lt_succ_self _)
    exact lp32 _ (x1 - 1) h4 (by omega) (by omega) k5 (Nat.lt_succ_self _)
  · refine A_iconst d_Beams_cutRun_16 rfl ?_
    exact A_iret d_Beams_cutRun_17 (by decide) rfl ⟨_, rfl, ⟨by omega, by omega⟩, k0⟩
theorem z_Beams_find {G : cx_T} {s : Nat} {h : ah_T} (hx : xi s h) {a1 : Nat} {a2 : Int} {a3 : Int} (ha1 : isV a1) (la2 : 0 ≤ a2) (ua2 : a2 ≤ 100) : con G 4 0 0 m_Beams_find [av_R (some 146), av_R (some a1), av_I a2, av_I a3] h (fun r h' => ∃ z, r = some (av_I z) ∧ ((-2147483648) ≤ z ∧ z ≤ 2147483647) ∧ kF FCB s h h') := by
  refine con_of (L := [some (av_R (some 146)), some (av_R (some a1)), some (av_I a2), some (av_I a3), none, none, none, none, none]) (by decide +kernel) (Nat.le_of_ble_eq_true rfl) rfl ?_
  have hS : isS s := hx.2.1
  have hs0 : s = 17 ∨ s = 80 := hS
  have k0 : kF FCB s h h := kF_0 hx
  have ga1 := lt_V ha1
  refine A_locI 3 rfl (fun ra => ?_)
  obtain ⟨_, _⟩ := ra
  refine A_aload_n 1 d_Beams_find_0 rfl rfl ?_
  refine A_getAv (z := some (a1 + 13)) T_ok d_Beams_find_1 f_Beams_25 (xs_V k0.1 ha1) (xr_V_15 k0.1 ha1) ?_
  refine A_iload_n 2 d_Beams_find_4 rfl rfl ?_
  refine A_ialoadn (lo := 0) (hi := 300) d_Beams_find_5 (xs_V_15 k0.1 ha1) (by omega) (by omega) (xi_g k0.1 (lt2_V ha1 (by decide)) (rg_V_15 ha1 _)) (fun x2 ex2 _ _ => ?_)
  refine A_istore (L' := [some (av_R (some 146)), some (av_R (some a1)), some (av_I a2), some (av_I a3), some (av_I x2), none, none, none, none]) d_Beams_find_6 (Nat.le_of_ble_eq_true rfl) rfl ?_
  refine A_pc (pc' := 8) rfl ?_
  refine A_aload_n 1 d_Beams_find_8 rfl rfl ?_
  refine A_getAv (z := some (a1 + 13)) T_ok d_Beams_find_9 f_Beams_25 (xs_V k0.1 ha1) (xr_V_15 k0.1 ha1) ?_
  refine A_iload_n 2 d_Beams_find_12 rfl rfl ?_
  refine A_iconst d_Beams_find_13 rfl ?_
  refine A_iaddv (z := (a2 + 1)) d_Beams_find_14 (w32_to (by omega) (by unfold i32; omega)) ?_
  refine A_ialoadn (lo := 0) (hi := 300) d_Beams_find_15 (xs_V_15 k0.1 ha1) (by omega) (by omega) (xi_g k0.1 (lt2_V ha1 (by decide)) (rg_V_15 ha1 _)) (fun x4 ex4 _ _ => ?_)
  refine A_pc (pc' := 16) rfl ?_
  refine A_istore (L' := [some (av_R (some 146)), some (av_R (some a1)), some (av_I a2), some (av_I a3), some (av_I x2), some (av_I x4), none, none, none]) d_Beams_find_16 (Nat.le_of_ble_eq_true rfl) rfl ?_
  refine A_aload_n 1 d_Beams_find_18 rfl rfl ?_
  refine A_iload d_Beams_find_19 rfl ?_
  refine A_iload d_Beams_find_21 rfl ?_
  refine A_callS3 m_Beams_shortOnes d_Beams_find_23 l_Beams_30 k_Beams_shortOnes (by decide +kernel) (by decide) (Nat.le_of_ble_eq_true rfl) (s_Beams_shortOnes k0.1 ha1 (by omega) (by omega) (by omega) (by omega)) (fun r h5 hq => ?_)
  obtain ⟨x7, rfl, ⟨_, _⟩, rfl⟩ := hq
  refine A_bipush d_Beams_find_26 rfl ?_
  refine A_icmp_le (tgt := 34) d_Beams_find_28 (by decide) (fun c8 => ?_) (fun c8 => ?_)
  · refine A_aload_n 0 d_Beams_find_34 rfl rfl ?_
    refine A_iconst d_Beams_find_35 rfl ?_
    refine A_putIk (KR := kF FCB s h) T_ok d_Beams_find_36 f_Beams_21 (xi_s k0.1 sf_146) fin_f (kF_j k0 (by decide) (ns_b rfl) rgf_146_1 (by omega) (by omega)) (fun h9 k10 eh9 => ?_)
    refine A_iconst d_Beams_find_39 rfl ?_
    refine A_istore (L' := [some (av_R (some 146)), some (av_R (some a1)), some (av_I a2), some (av_I a3), some (av_I x2), some (av_I x4), some (av_I 0), none, none]) d_Beams_find_40 (Nat.le_of_ble_eq_true rfl) rfl ?_
    refine A_pc (pc' := 42) rfl ?_
    refine A_iload d_Beams_find_42 rfl ?_
    refine A_istore (L' := [some (av_R (some 146)), some (av_R (some a1)), some (av_I a2), some (av_I a3), some (av_I x2), some (av_I x4), some (av_I 0), some (av_I x2), none]) d_Beams_find_44 (Nat.le_of_ble_eq_true rfl) rfl ?_
    refine A_iload d_Beams_find_46 rfl ?_
    refine A_istore (L' := [some (av_R (some 146)), some (av_R (some a1)), some (av_I a2), some (av_I a3), some (av_I x2), some (av_I x4), some (av_I 0), some (av_I x2), some (av_I x2)]) d_Beams_find_48 (Nat.le_of_ble_eq_true rfl) rfl ?_
    have lp50 : ∀ (n : Nat) (i11 i12 i13 : Int) (h14 : ah_T) , (-2147483648) ≤ i11 → i11 ≤ 2147483647 → 0 ≤ i12 → i12 ≤ 301 → 0 ≤ i13 → i13 ≤ 301 → kF FCB s h h14 → (302 - i13).toNat < n → aw G (rm_R 4 0 0) m_Beams_find 0 0 50 [some (av_R (some 146)), some (av_R (some a1)), some (av_I a2), some (av_I a3), some (av_I x2), some (av_I x4), some (av_I i11), some (av_I i12), some (av_I i13)] [] h14 (fun r h' => ∃ z, r = some (av_I z) ∧ ((-2147483648) ≤ z ∧ z ≤ 2147483647) ∧ kF FCB s h h') := by
      intro n
      induction n with
      | zero => intro i11 i12 i13 h14 _ _ _ _ _ _ _ hm; omega
      | succ n ih50 =>
        intro i11 i12 i13 h14 hl0 hl1 hl2 hl3 hl4 hl5 k15 hm
        refine A_iload d_Beams_find_50 rfl ?_
        refine A_iload d_Beams_find_52 rfl ?_
        refine A_icmp_gt (tgt := 101) d_Beams_find_54 (by decide) (fun c16 => ?_) (fun c16 => ?_)
        · refine A_iload d_Beams_find_101 rfl ?_
          exact A_iret d_Beams_find_103 (by decide) rfl ⟨_, rfl, ⟨by omega, by omega⟩, k15⟩
        · refine A_iload d_Beams_find_57 rfl ?_
          refine A_iload d_Beams_find_59 rfl ?_
          refine A_icmp_eq (tgt := 73) d_Beams_find_61 (by decide) (fun c17 => ?_) (fun c17 => ?_)
          · refine A_iload d_Beams_find_73 rfl ?_
            refine A_aload_n 0 d_Beams_find_75 rfl rfl ?_
            refine A_aload_n 1 d_Beams_find_76 rfl rfl ?_
            refine A_iload_n 2 d_Beams_find_77 rfl rfl ?_
            refine A_iload d_Beams_find_78 rfl ?_
            refine A_pc (pc' := 80) rfl ?_
            refine A_iload d_Beams_find_80 rfl ?_
            refine A_iload_n 3 d_Beams_find_82 rfl rfl ?_
            refine A_callV5 m_Beams_cutRun T_ok d_Beams_find_83 l_Beams_38 k_Beams_cutRun (xi_s k15.1 sf_146) rfl (by decide +kernel) (by decide) (Nat.le_of_ble_eq_true rfl) (z_Beams_cutRun k15.1 ha1 (by omega) (by omega) (by omega) (by omega) (by omega) (by omega)) (fun r h18 hq => ?_)
            obtain ⟨x20, rfl, ⟨_, _⟩, k19⟩ := hq
            have k21 := kF_t k15 k19 (fun _ q => q)
            refine A_iaddw d_Beams_find_86 (fun x22 _ _ _ => ?_)
            refine A_istore (L' := [some (av_R (some 146)), some (av_R (some a1)), some (av_I a2), some (av_I a3), some (av_I x2), some (av_I x4), some (av_I x22), some (av_I i12), some (av_I i13)]) d_Beams_find_87 (Nat.le_of_ble_eq_true rfl) rfl ?_
            refine A_iload d_Beams_find_89 rfl ?_
            refine A_iconst d_Beams_find_91 rfl ?_
            refine A_iaddv (z := (i13 + 1)) d_Beams_find_92 (w32_to (by omega) (by unfold i32; omega)) ?_
            refine A_pc (pc' := 93) rfl ?_
            refine A_istore (L' := [some (av_R (some 146)), some (av_R (some a1)), some (av_I a2), some (av_I a3), some (av_I x2), some (av_I x4), some (av_I x22), some (av_I (i13 + 1)), some (av_I i13)]) d_Beams_find_93 (Nat.le_of_ble_eq_true rfl) rfl ?_
            refine A_iincv (z := (i13 + 1)) (L' := [some (av_R (some 146)), some (av_R (some a1)), some (av_I a2), some (av_I a3), some (av_I x2), some (av_I x4), some (av_I x22), some (av_I (i13 + 1)), some (av_I (i13 + 1))]) d_Beams_find_95 rfl (w32_to (by omega) (by unfold i32; omega)) rfl ?_
            refine A_goto (tgt := 50) d_Beams_find_98 (by decide) ?_
            exact ih50 x22 (i13 + 1) (i13 + 1) h18 (by omega) (by omega) (by omega) (by omega) (by omega) (by omega) k21 (by omega)
          · refine A_aload_n 1 d_Beams_find_64 rfl rfl ?_
            refine A_iload d_Beams_find_65 rfl ?_
            refine A_callV1 m_Voice_isShort T_ok d_Beams_find_67 l_Beams_34 k_Voice_isShort (xs_V k15.1 ha1) rfl (by decide +kernel) (by decide) (Nat.le_of_ble_eq_true rfl) (s_Voice_isShort k15.1 ha1 (by omega) (by omega)) (fun r h23 hq => ?_)
            obtain ⟨x25, rfl, bx25, rfl⟩ := hq
            refine A_if_ne (tgt := 95) d_Beams_find_70 (by decide) (fun c26 => ?_) (fun c26 => ?_)
            · refine A_iincv (z := (i13 + 1)) (L' := [some (av_R (some 146)), some (av_R (some a1)), some (av_I a2), some (av_I a3), some (av_I x2), some (av_I x4), some (av_I i11), some (av_I i12), some (av_I (i13 + 1))]) d_Beams_find_95 rfl (w32_to (by omega) (by unfold i32; omega)) rfl ?_
              refine A_goto (tgt := 50) d_Beams_find_98 (by decide) ?_
              exact ih50 i11 i12 (i13 + 1) h14 (by omega) (by omega) (by omega) (by omega) (by omega) (by omega) k15 (by omega)
            · refine A_iload d_Beams_find_73 rfl ?_
              refine A_aload_n 0 d_Beams_find_75 rfl rfl ?_
              refine A_aload_n 1 d_Beams_find_76 rfl rfl ?_
              refine A_iload_n 2 d_Beams_find_77 rfl rfl ?_
              refine A_iload d_Beams_find_78 rfl ?_
              refine A_pc (pc' := 80) rfl ?_
              refine A_iload d_Beams_find_80 rfl ?_
              refine A_iload_n 3 d_Beams_find_82 rfl rfl ?_
              refine A_callV5 m_Beams_cutRun T_ok d_Beams_find_83 l_Beams_38 k_Beams_cutRun (xi_s k15.1 sf_146) rfl (by decide +kernel) (by decide) (Nat.le_of_ble_eq_true rfl) (z_Beams_cutRun k15.1 ha1 (by omega) (by omega) (by omega) (by omega) (by omega) (by omega)) (fun r h27 hq => ?_)
              obtain ⟨x29, rfl, ⟨_, _⟩, k28⟩ := hq
              have k30 := kF_t k15 k28 (fun _ q => q)
              refine A_iaddw d_Beams_find_86 (fun x31 _ _ _ => ?_)
              refine A_istore (L' := [some (av_R (some 146)), some (av_R (some a1)), some (av_I a2), some (av_I a3), some (av_I x2), some (av_I x4), some (av_I x31), some (av_I i12), some (av_I i13)]) d_Beams_find_87 (Nat.le_of_ble_eq_true rfl) rfl ?_
              refine A_iload d_Beams_find_89 rfl ?_
              refine A_iconst d_Beams_find_91 rfl ?_
              refine A_iaddv (z := (i13 + 1)) d_Beams_find_92 (w32_to (by omega) (by unfold i32; omega)) ?_
              refine A_pc (pc' := 93) rfl ?_
              refine A_istore (L' := [some (av_R (some 146)), some (av_R (some a1)), some (av_I a2), some (av_I a3), some (av_I x2), some (av_I x4), some (av_I x31), some (av_I (i13 + 1)), some (av_I i13)]) d_Beams_find_93 (Nat.le_of_ble_eq_true rfl) rfl ?_
              refine A_iincv (z := (i13 + 1)) (L' := [some (av_R (some 146)), some (av_R (some a1)), some (av_I a2), some (av_I a3), some (av_I x2), some (av_I x4), some (av_I x31), some (av_I (i13 + 1)), some (av_I (i13 + 1))]) d_Beams_find_95 rfl (w32_to (by omega) (by unfold i32; omega)) rfl ?_
              refine A_goto (tgt := 50) d_Beams_find_98 (by decide) ?_
              exact ih50 x31 (i13 + 1) (i13 + 1) h27 (by omega) (by omega) (by omega) (by omega) (by omega) (by omega) k30 (by omega)
    exact lp50 _ 0 x2 x2 h9 (by omega) (by omega) (by omega) (by omega) (by omega) (by omega) k10 (Nat.lt_succ_self _)
  · refine A_bipush d_Beams_find_31 rfl ?_
    exact A_iret d_Beams_find_33 (by decide) rfl ⟨_, rfl, ⟨by omega, by omega⟩, k0⟩
theorem z_PM_beam {G : cx_T} {s : Nat} {h : ah_T} (hx : xi s h) {a1 : Int} {a2 : Int}  : con G 5 0 0 m_PM_beam [av_R (some 0), av_I a1, av_I a2] h (fun r h' => ∃ z, r = some (av_I z) ∧ ((-2147483648) ≤ z ∧ z ≤ 2147483647) ∧ kF FCB s h h') := by
  refine con_of (L := [some (av_R (some 0)), some (av_I a1), some (av_I a2), none]) (by decide +kernel) (Nat.le_of_ble_eq_true rfl) rfl ?_
  have hS : isS s := hx.2.1
  have hs0 : s = 17 ∨ s = 80 := hS
  have k0 : kF FCB s h h := kF_0 hx
  refine A_locI 1 rfl (fun ra => ?_)
  obtain ⟨_, _⟩ := ra
  refine A_locI 2 rfl (fun ra => ?_)
  obtain ⟨_, _⟩ := ra
  refine A_aload_n 0 d_PM_beam_0 rfl rfl ?_
  refine A_getOv (z := some (97 - s)) T_ok d_PM_beam_1 f_PM_27 (xi_s k0.1 sf_0) k0.1.2.2.1 ?_
  refine A_iload_n 1 d_PM_beam_4 rfl rfl ?_
  refine A_callV1 m_Score_voiceAt T_ok d_PM_beam_5 l_PM_125 k_Score_voiceAt (xs_S k0.1 (isS_o hS)) rfl (by decide +kernel) (by decide) (Nat.le_of_ble_eq_true rfl) (s_Score_voiceAt k0.1 (isS_o hS)) (fun r h2 hq => ?_)
  obtain ⟨ox4, rfl, qx4, rfl⟩ := hq
  rcases qx4 with rfl | ⟨x4, rfl, tx4⟩
  · refine A_astore_n 3 (L' := [some (av_R (some 0)), some (av_I a1), some (av_I a2), some (av_R none)]) d_PM_beam_8 rfl (Nat.le_of_ble_eq_true rfl) rfl ?_
    refine A_aload_n 3 d_PM_beam_9 rfl rfl ?_
    refine A_ifnull (tgt := 25) d_PM_beam_10 (by decide) (fun _ => ?_) (fun a q => by cases q)
    refine A_iconst d_PM_beam_25 rfl ?_
    exact A_iret d_PM_beam_26 (by decide) rfl ⟨_, rfl, ⟨by omega, by omega⟩, k0⟩
  · refine A_astore_n 3 (L' := [some (av_R (some 0)), some (av_I a1), some (av_I a2), some (av_R (some x4))]) d_PM_beam_8 rfl (Nat.le_of_ble_eq_true rfl) rfl ?_
    refine A_aload_n 3 d_PM_beam_9 rfl rfl ?_
    refine A_ifnull (tgt := 25) d_PM_beam_10 (by decide) (fun q => by cases q) (fun _ _ => ?_)
    refine A_iload_n 2 d_PM_beam_13 rfl rfl ?_
    refine A_if_lt (tgt := 25) d_PM_beam_14 (by decide) (fun c5 => ?_) (fun c5 => ?_)
    · refine A_iconst d_PM_beam_25 rfl ?_
      exact A_iret d_PM_beam_26 (by decide) rfl ⟨_, rfl, ⟨by omega, by omega⟩, k0⟩
    · refine A_iload_n 2 d_PM_beam_17 rfl rfl ?_
      refine A_aload_n 3 d_PM_beam_18 rfl rfl ?_
      refine A_getIn (lo := 0) (hi := 101) T_ok d_PM_beam_19 f_PM_134 (xs_V k0.1 (tV_V (isS_o hS) tx4)) (xi_g k0.1 (lt1_V (tV_V (isS_o hS) tx4)) (rg_V_16 (tV_V (isS_o hS) tx4))) (fun x6 ex6 _ _ => ?_)
      refine A_icmp_lt (tgt := 27) d_PM_beam_22 (by decide) (fun c7 => ?_) (fun c7 => ?_)
      · refine A_aload_n 0 d_PM_beam_27 rfl rfl ?_
        refine A_getOv (z := some 146) T_ok d_PM_beam_28 f_PM_44 (xi_s k0.1 sf_0) (xi_r k0.1 rff_0_6) ?_
        refine A_aload_n 3 d_PM_beam_31 rfl rfl ?_
        refine A_iload_n 2 d_PM_beam_32 rfl rfl ?_
        refine A_aload_n 0 d_PM_beam_33 rfl rfl ?_
        refine A_pc (pc' := 34) rfl ?_
        refine A_getOv (z := some (97 - s)) T_ok d_PM_beam_34 f_PM_27 (xi_s k0.1 sf_0) k0.1.2.2.1 ?_
        refine A_getIf T_ok d_PM_beam_37 f_PM_122 (xs_S k0.1 (isS_o hS)) (fun x10 ex10 _ _ => ?_)
        refine A_callV3 m_Beams_find T_ok d_PM_beam_40 l_PM_164 k_Beams_find (xi_s k0.1 sf_146) rfl (by decide +kernel) (by decide) (Nat.le_of_ble_eq_true rfl) (z_Beams_find k0.1 (tV_V (isS_o hS) tx4) (by omega) (by omega)) (fun r h11 hq => ?_)
        obtain ⟨x13, rfl, ⟨_, _⟩, k12⟩ := hq
        have k14 := kF_t k0 k12 (fun _ q => q)
        exact A_iret d_PM_beam_43 (by decide) rfl ⟨_, rfl, ⟨by omega, by omega⟩, k14⟩
      · refine A_iconst d_PM_beam_25 rfl ?_
        exact A_iret d_PM_beam_26 (by decide) rfl ⟨_, rfl, ⟨by omega, by omega⟩, k0⟩
