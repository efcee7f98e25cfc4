/-! ===== Seconds: what its methods leave as it was ===== -/
abbrev FCS : Nat → Prop := fun a => a < 158 ∨ 162 ≤ a
theorem z_Seconds_keep {G : cx_T} {s : Nat} {h : ah_T} (hx : xi s h) {a1 : Int}  : con G 0 0 0 m_Seconds_keep [av_R (some 158), av_I a1] h (fun r h' => r = none ∧ kF FCS s h h') := by
  refine con_of (L := [some (av_R (some 158)), some (av_I a1), none]) (by decide +kernel) (Nat.le_of_ble_eq_true rfl) rfl ?_
  have hS : isS s := hx.2.1
  have hs0 : s = 17 ∨ s = 80 := hS
  have k0 : kF FCS s h h := kF_0 hx
  refine A_locI 1 rfl (fun ra => ?_)
  obtain ⟨_, _⟩ := ra
  refine A_iload_n 1 d_Seconds_keep_0 rfl rfl ?_
  refine A_bipush d_Seconds_keep_1 rfl ?_
  refine A_ishr d_Seconds_keep_3 ?_
  refine A_nrI (fun x1 ex1 _ _ => ?_)
  refine A_istore_n 2 (L' := [some (av_R (some 158)), some (av_I a1), some (av_I x1)]) d_Seconds_keep_4 rfl (Nat.le_of_ble_eq_true rfl) rfl ?_
  refine A_iload_n 2 d_Seconds_keep_5 rfl rfl ?_
  refine A_pc (pc' := 6) rfl ?_
  refine A_if_lt (tgt := 43) d_Seconds_keep_6 (by decide) (fun c2 => ?_) (fun c2 => ?_)
  · exact A_vret d_Seconds_keep_43 (by decide) rfl ⟨rfl, k0⟩
  · refine A_iload_n 2 d_Seconds_keep_9 rfl rfl ?_
    refine A_aload_n 0 d_Seconds_keep_10 rfl rfl ?_
    refine A_getAv (z := some 159) T_ok d_Seconds_keep_11 f_Seconds_11 (xi_s k0.1 sf_158) (xi_r k0.1 rff_158_0) ?_
    refine A_alenN d_Seconds_keep_14 (xi_s k0.1 sf_159) (by decide) (by decide) ?_
    refine A_icmp_ge (tgt := 43) d_Seconds_keep_15 (by decide) (fun c4 => ?_) (fun c4 => ?_)
    · exact A_vret d_Seconds_keep_43 (by decide) rfl ⟨rfl, k0⟩
    · refine A_aload_n 0 d_Seconds_keep_18 rfl rfl ?_
      refine A_getAv (z := some 159) T_ok d_Seconds_keep_19 f_Seconds_11 (xi_s k0.1 sf_158) (xi_r k0.1 rff_158_0) ?_
      refine A_iload_n 2 d_Seconds_keep_22 rfl rfl ?_
      refine A_dup2RI d_Seconds_keep_23 ?_
      refine A_laloadf d_Seconds_keep_24 (xi_s k0.1 sf_159) (by omega) (by omega) (fun x6 ex6 _ _ => ?_)
      refine A_pc (pc' := 25) rfl ?_
      refine A_lconst_1 d_Seconds_keep_25 ?_
      refine A_iload_n 1 d_Seconds_keep_26 rfl rfl ?_
      refine A_bipush d_Seconds_keep_27 rfl ?_
      refine A_iand d_Seconds_keep_29 ?_
      refine A_nrI (fun x7 ex7 _ _ => ?_)
      have bx7 := and_r (m := 63) 6 ex7 (by decide) (by decide) (by decide)
      refine A_lshl d_Seconds_keep_30 ?_
      refine A_nrL (fun x8 ex8 _ _ => ?_)
      refine A_lor d_Seconds_keep_31 ?_
      refine A_nrL (fun x9 ex9 _ _ => ?_)
      refine A_pc (pc' := 32) rfl ?_
      refine A_lastorek (KR := kF FCS s h) d_Seconds_keep_32 (xi_s k0.1 sf_159) (by omega) (by omega) (kF_l k0 (by decide) (nl_b rfl)) (fun h10 k11 eh10 => ?_)
      refine A_aload_n 0 d_Seconds_keep_33 rfl rfl ?_
      refine A_dupR d_Seconds_keep_34 ?_
      refine A_getIf T_ok d_Seconds_keep_35 f_Seconds_22 (xi_s k11.1 sf_158) (fun x12 ex12 _ _ => ?_)
      refine A_iconst d_Seconds_keep_38 rfl ?_
      refine A_iaddw d_Seconds_keep_39 (fun x13 _ _ _ => ?_)
      refine A_pc (pc' := 40) rfl ?_
      refine A_putIk (KR := kF FCS s h) T_ok d_Seconds_keep_40 f_Seconds_22 (xi_s k11.1 sf_158) fin_f (kF_j k11 (by decide) (ns_b rfl) rgf_158_1 (by omega) (by omega)) (fun h14 k15 eh14 => ?_)
      exact A_vret d_Seconds_keep_43 (by decide) rfl ⟨rfl, k15⟩
theorem z_Seconds_extend_8 {G : cx_T} {s : Nat} {h : ah_T} (hx : xi s h) {a1 : Int} {a2 : Int} (la1 : 8 ≤ a1) (ua1 : a1 ≤ 8) : con G 4 0 0 m_Seconds_extend [av_R (some 158), av_I a1, av_I a2] h (fun r h' => r = none ∧ kF FCS s h h') := by
  refine con_of (L := [some (av_R (some 158)), some (av_I a1), some (av_I a2), none]) (by decide +kernel) (Nat.le_of_ble_eq_true rfl) rfl ?_
  have hS : isS s := hx.2.1
  have hs0 : s = 17 ∨ s = 80 := hS
  have k0 : kF FCS s h h := kF_0 hx
  refine A_locI 2 rfl (fun ra => ?_)
  obtain ⟨_, _⟩ := ra
  refine A_iload_n 1 d_Seconds_extend_0 rfl rfl ?_
  refine A_aload_n 0 d_Seconds_extend_1 rfl rfl ?_
  refine A_getIn (lo := 0) (hi := 8) T_ok d_Seconds_extend_2 f_Seconds_47 (xi_s k0.1 sf_158) (xi_g k0.1 (by decide) rgf_158_4) (fun x1 ex1 _ _ => ?_)
  refine A_icmp_ge (tgt := 17) d_Seconds_extend_5 (by decide) (fun c2 => ?_) (fun c => False.elim (by omega))
  refine A_aload_n 0 d_Seconds_extend_17 rfl rfl ?_
  refine A_iload_n 2 d_Seconds_extend_18 rfl rfl ?_
  refine A_callV1 m_Seconds_keep T_ok d_Seconds_extend_19 l_Seconds_57 k_Seconds_keep (xi_s k0.1 sf_158) rfl (by decide +kernel) (by decide) (Nat.le_of_ble_eq_true rfl) (z_Seconds_keep k0.1 ) (fun r h3 hq => ?_)
  obtain ⟨rfl, k4⟩ := hq
  have k5 := kF_t k0 k4 (fun _ q => q)
  exact A_vret d_Seconds_extend_22 (by decide) rfl ⟨rfl, k5⟩
theorem z_Seconds_extend_7 {G : cx_T} {s : Nat} {h : ah_T} (hx : xi s h) {a1 : Int} {a2 : Int} (la1 : 7 ≤ a1) (ua1 : a1 ≤ 7) : con G 5 0 0 m_Seconds_extend [av_R (some 158), av_I a1, av_I a2] h (fun r h' => r = none ∧ kF FCS s h h') := by
  refine con_of (L := [some (av_R (some 158)), some (av_I a1), some (av_I a2), none]) (by decide +kernel) (Nat.le_of_ble_eq_true rfl) rfl ?_
  have hS : isS s := hx.2.1
  have hs0 : s = 17 ∨ s = 80 := hS
  have k0 : kF FCS s h h := kF_0 hx
  refine A_locI 2 rfl (fun ra => ?_)
  obtain ⟨_, _⟩ := ra
  refine A_iload_n 1 d_Seconds_extend_0 rfl rfl ?_
  refine A_aload_n 0 d_Seconds_extend_1 rfl rfl ?_
  refine A_getIn (lo := 0) (hi := 8) T_ok d_Seconds_extend_2 f_Seconds_47 (xi_s k0.1 sf_158) (xi_g k0.1 (by decide) rgf_158_4) (fun x1 ex1 _ _ => ?_)
  refine A_icmp_ge (tgt := 17) d_Seconds_extend_5 (by decide) (fun c2 => ?_) (fun c2 => ?_)
  · refine A_aload_n 0 d_Seconds_extend_17 rfl rfl ?_
    refine A_iload_n 2 d_Seconds_extend_18 rfl rfl ?_
    refine A_callV1 m_Seconds_keep T_ok d_Seconds_extend_19 l_Seconds_57 k_Seconds_keep (xi_s k0.1 sf_158) rfl (by decide +kernel) (by decide) (Nat.le_of_ble_eq_true rfl) (z_Seconds_keep k0.1 ) (fun r h3 hq => ?_)
    obtain ⟨rfl, k4⟩ := hq
    have k5 := kF_t k0 k4 (fun _ q => q)
    exact A_vret d_Seconds_extend_22 (by decide) rfl ⟨rfl, k5⟩
  · refine A_iload_n 1 d_Seconds_extend_8 rfl rfl ?_
    refine A_aload_n 0 d_Seconds_extend_9 rfl rfl ?_
    refine A_getAv (z := some 161) T_ok d_Seconds_extend_10 f_Seconds_19 (xi_s k0.1 sf_158) (xi_r k0.1 rff_158_7) ?_
    refine A_alenN d_Seconds_extend_13 (xi_s k0.1 sf_161) (by decide) (by decide) ?_
    refine A_icmp_lt (tgt := 23) d_Seconds_extend_14 (by decide) (fun c7 => ?_) (fun c => False.elim (by omega))
    refine A_iconst d_Seconds_extend_23 rfl ?_
    refine A_istore_n 3 (L' := [some (av_R (some 158)), some (av_I a1), some (av_I a2), some (av_I 0)]) d_Seconds_extend_24 rfl (Nat.le_of_ble_eq_true rfl) rfl ?_
    have lp25 : ∀ (n : Nat) (i8 : Int) (h9 : ah_T) , 0 ≤ i8 → i8 ≤ 121 → kF FCS s h h9 → (122 - i8).toNat < n → aw G (rm_R 5 0 0) m_Seconds_extend 0 0 25 [some (av_R (some 158)), some (av_I a1), some (av_I a2), some (av_I i8)] [] h9 (fun r h' => r = none ∧ kF FCS s h h') := by
      intro n
      induction n with
      | zero => intro i8 h9 _ _ _ hm; omega
      | succ n ih25 =>
        intro i8 h9 hl0 hl1 k10 hm
        refine A_iload_n 3 d_Seconds_extend_25 rfl rfl ?_
        refine A_aload_n 0 d_Seconds_extend_26 rfl rfl ?_
        refine A_getIn (lo := 0) (hi := 121) T_ok d_Seconds_extend_27 f_Seconds_35 (xi_s k10.1 sf_158) (xi_g k10.1 (by decide) rgf_158_3) (fun x11 ex11 _ _ => ?_)
        refine A_icmp_ge (tgt := 99) d_Seconds_extend_30 (by decide) (fun c12 => ?_) (fun c12 => ?_)
        · exact A_vret d_Seconds_extend_99 (by decide) rfl ⟨rfl, k10⟩
        · refine A_aload_n 0 d_Seconds_extend_33 rfl rfl ?_
          refine A_getAv (z := some 161) T_ok d_Seconds_extend_34 f_Seconds_19 (xi_s k10.1 sf_158) (xi_r k10.1 rff_158_7) ?_
          refine A_iload_n 1 d_Seconds_extend_37 rfl rfl ?_
          refine A_aload_n 0 d_Seconds_extend_38 rfl rfl ?_
          refine A_getIf T_ok d_Seconds_extend_39 f_Seconds_32 (xi_s k10.1 sf_158) (fun x14 ex14 _ _ => ?_)
          refine A_pc (pc' := 42) rfl ?_
          refine A_iload_n 3 d_Seconds_extend_42 rfl rfl ?_
          refine A_iaddw d_Seconds_extend_43 (fun x15 _ _ _ => ?_)
          refine A_iastorek (KR := kF FCS s h) d_Seconds_extend_44 (xi_s k10.1 sf_161) (by omega) (by omega) (kF_j k10 (by decide) (ns_b rfl) (rgf_161 _) (by omega) (by omega)) (fun h16 k17 eh16 => ?_)
          refine A_aload_n 0 d_Seconds_extend_45 rfl rfl ?_
          refine A_iload_n 1 d_Seconds_extend_46 rfl rfl ?_
          refine A_callV1 m_Seconds_fitsAlone T_ok d_Seconds_extend_47 l_Seconds_61 k_Seconds_fitsAlone (xi_s k17.1 sf_158) rfl (by decide +kernel) (by decide) (Nat.le_of_ble_eq_true rfl) (s_Seconds_fitsAlone k17.1 (by omega) (by omega)) (fun r h18 hq => ?_)
          obtain ⟨x20, rfl, bx20, rfl⟩ := hq
          refine A_if_eq (tgt := 93) d_Seconds_extend_50 (by decide) (fun c21 => ?_) (fun c21 => ?_)
          · refine A_iincv (z := (i8 + 1)) (L' := [some (av_R (some 158)), some (av_I a1), some (av_I a2), some (av_I (i8 + 1))]) d_Seconds_extend_93 rfl (w32_to (by omega) (by unfold i32; omega)) rfl ?_
            refine A_goto (tgt := 25) d_Seconds_extend_96 (by decide) ?_
            exact ih25 (i8 + 1) h16 (by omega) (by omega) k17 (by omega)
          · refine A_iload_n 1 d_Seconds_extend_53 rfl rfl ?_
            refine A_if_eq (tgt := 65) d_Seconds_extend_54 (by decide) (fun c => False.elim (by omega)) (fun c22 => ?_)
            refine A_aload_n 0 d_Seconds_extend_57 rfl rfl ?_
            refine A_iload_n 1 d_Seconds_extend_58 rfl rfl ?_
            refine A_callV1 m_Seconds_fitsBehind T_ok d_Seconds_extend_59 l_Seconds_65 k_Seconds_fitsBehind (xi_s k17.1 sf_158) rfl (by decide +kernel) (by decide) (Nat.le_of_ble_eq_true rfl) (s_Seconds_fitsBehind k17.1 (by omega) (by omega)) (fun r h23 hq => ?_)
            obtain ⟨x25, rfl, bx25, rfl⟩ := hq
            refine A_if_eq (tgt := 93) d_Seconds_extend_62 (by decide) (fun c26 => ?_) (fun c26 => ?_)
            · refine A_iincv (z := (i8 + 1)) (L' := [some (av_R (some 158)), some (av_I a1), some (av_I a2), some (av_I (i8 + 1))]) d_Seconds_extend_93 rfl (w32_to (by omega) (by unfold i32; omega)) rfl ?_
              refine A_goto (tgt := 25) d_Seconds_extend_96 (by decide) ?_
              exact ih25 (i8 + 1) h16 (by omega) (by omega) k17 (by omega)
            · refine A_iload_n 1 d_Seconds_extend_65 rfl rfl ?_
              refine A_iconst d_Seconds_extend_66 rfl ?_
              refine A_icmp_lt (tgt := 78) d_Seconds_extend_67 (by decide) (fun c => False.elim (by omega)) (fun c27 => ?_)
              refine A_aload_n 0 d_Seconds_extend_70 rfl rfl ?_
              refine A_iload_n 1 d_Seconds_extend_71 rfl rfl ?_
              refine A_callV1 m_Seconds_fitsLeap T_ok d_Seconds_extend_72 l_Seconds_68 k_Seconds_fitsLeap (xi_s k17.1 sf_158) rfl (by decide +kernel) (by decide) (Nat.le_of_ble_eq_true rfl) (s_Seconds_fitsLeap k17.1 (by omega) (by omega)) (fun r h28 hq => ?_)
              obtain ⟨x30, rfl, bx30, rfl⟩ := hq
              refine A_if_eq (tgt := 93) d_Seconds_extend_75 (by decide) (fun c31 => ?_) (fun c31 => ?_)
              · refine A_iincv (z := (i8 + 1)) (L' := [some (av_R (some 158)), some (av_I a1), some (av_I a2), some (av_I (i8 + 1))]) d_Seconds_extend_93 rfl (w32_to (by omega) (by unfold i32; omega)) rfl ?_
                refine A_goto (tgt := 25) d_Seconds_extend_96 (by decide) ?_
                exact ih25 (i8 + 1) h16 (by omega) (by omega) k17 (by omega)
              · refine A_aload_n 0 d_Seconds_extend_78 rfl rfl ?_
                refine A_iload_n 1 d_Seconds_extend_79 rfl rfl ?_
                refine A_iconst d_Seconds_extend_80 rfl ?_
                refine A_iaddv (z := (a1 + 1)) d_Seconds_extend_81 (w32_to (by omega) (by unfold i32; omega)) ?_
                refine A_iload_n 2 d_Seconds_extend_82 rfl rfl ?_
                refine A_pc (pc' := 83) rfl ?_
                refine A_aload_n 0 d_Seconds_extend_83 rfl rfl ?_
                refine A_getIv (z := x11) T_ok d_Seconds_extend_84 f_Seconds_35 (xi_s k17.1 sf_158) ((eh16.1 _ _ (fun q => absurd q (by decide))).trans ex11.symm) ?_
                refine A_imulw d_Seconds_extend_87 (fun x33 _ _ _ => ?_)
                refine A_iload_n 3 d_Seconds_extend_88 rfl rfl ?_
                refine A_iaddw d_Seconds_extend_89 (fun x34 _ _ _ => ?_)
                refine A_callV2 m_Seconds_extend T_ok d_Seconds_extend_90 l_Seconds_53 k_Seconds_extend (xi_s k17.1 sf_158) rfl (by decide +kernel) (by decide) (Nat.le_of_ble_eq_true rfl) (z_Seconds_extend_8 k17.1 (by omega) (by omega)) (fun r h35 hq => ?_)
                obtain ⟨rfl, k36⟩ := hq
                have k37 := kF_t k17 k36 (fun _ q => q)
                refine A_iincv (z := (i8 + 1)) (L' := [some (av_R (some 158)), some (av_I a1), some (av_I a2), some (av_I (i8 + 1))]) d_Seconds_extend_93 rfl (w32_to (by omega) (by unfold i32; omega)) rfl ?_
                refine A_goto (tgt := 25) d_Seconds_extend_96 (by decide) ?_
                exact ih25 (i8 + 1) h35 (by omega) (by omega) k37 (by omega)
    exact lp25 _ 0 h (by omega) (by omega) k0 (Nat.lt_succ_self _)
theorem z_Seconds_extend_6 {G : cx_T} {s : Nat} {h : ah_T} (hx : xi s h) {a1 : Int} {a2 : Int} (la1 : 6 ≤ a1) (ua1 : a1 ≤ 6) : con G 6 0 0 m_Seconds_extend [av_R (some 158), av_I a1, av_I a2] h (fun r h' => r = none ∧ kF FCS s h h') := by
  refine con_of (L := [some (av_R (some 158)), some (av_I a1), some (av_I a2), none]) (by decide +kernel) (Nat.le_of_ble_eq_true rfl) rfl ?_
  have hS : isS s := hx.2.1
  have hs0 : s = 17 ∨ s = 80 := hS
  have k0 : kF FCS s h h := kF_0 hx
  refine A_locI 2 rfl (fun ra => ?_)
  obtain ⟨_, _⟩ := ra
  refine A_iload_n 1 d_Seconds_extend_0 rfl rfl ?_
  refine A_aload_n 0 d_Seconds_extend_1 rfl rfl ?_
  refine A_getIn (lo := 0) (hi := 8) T_ok d_Seconds_extend_2 f_Seconds_47 (xi_s k0.1 sf_158) (xi_g k0.1 (by decide) rgf_158_4) (fun x1 ex1 _ _ => ?_)
  refine A_icmp_ge (tgt := 17) d_Seconds_extend_5 (by decide) (fun c2 => ?_) (fun c2 => ?_)
  · refine A_aload_n 0 d_Seconds_extend_17 rfl rfl ?_
    refine A_iload_n 2 d_Seconds_extend_18 rfl rfl ?_
    refine A_callV1 m_Seconds_keep T_ok d_Seconds_extend_19 l_Seconds_57 k_Seconds_keep (xi_s k0.1 sf_158) rfl (by decide +kernel) (by decide) (Nat.le_of_ble_eq_true rfl) (z_Seconds_keep k0.1 ) (fun r h3 hq => ?_)
    obtain ⟨rfl, k4⟩ := hq
    have k5 := kF_t k0 k4 (fun _ q => q)
    exact A_vret d_Seconds_extend_22 (by decide) rfl ⟨rfl, k5⟩
  · refine A_iload_n 1 d_Seconds_extend_8 rfl rfl ?_
    refine A_aload_n 0 d_Seconds_extend_9 rfl rfl ?_
    refine A_getAv (z := some 161) T_ok d_Seconds_extend_10 f_Seconds_19 (xi_s k0.1 sf_158) (xi_r k0.1 rff_158_7) ?_
    refine A_alenN d_Seconds_extend_13 (xi_s k0.1 sf_161) (by decide) (by decide) ?_
    refine A_icmp_lt (tgt := 23) d_Seconds_extend_14 (by decide) (fun c7 => ?_) (fun c => False.elim (by omega))
    refine A_iconst d_Seconds_extend_23 rfl ?_
    refine A_istore_n 3 (L' := [some (av_R (some 158)), some (av_I a1), some (av_I a2), some (av_I 0)]) d_Seconds_extend_24 rfl (Nat.le_of_ble_eq_true rfl) rfl ?_
    have lp25 : ∀ (n : Nat) (i8 : Int) (h9 : ah_T) , 0 ≤ i8 → i8 ≤ 121 → kF FCS s h h9 → (122 - i8).toNat < n → aw G (rm_R 6 0 0) m_Seconds_extend 0 0 25 [some (av_R (some 158)), some (av_I a1), some (av_I a2), some (av_I i8)] [] h9 (fun r h' => r = none ∧ kF FCS s h h') := by
      intro n
      induction n with
      | zero => intro i8 h9 _ _ _ hm; omega
      | succ n ih25 =>
        intro i8 h9 hl0 hl1 k10 hm
        refine A_iload_n 3 d_Seconds_extend_25 rfl rfl ?_
        refine A_aload_n 0 d_Seconds_extend_26 rfl rfl ?_
        refine A_getIn (lo := 0) (hi := 121) T_ok d_Seconds_extend_27 f_Seconds_35 (xi_s k10.1 sf_158) (xi_g k10.1 (by decide) rgf_158_3) (fun x11 ex11 _ _ => ?_)
        refine A_icmp_ge (tgt := 99) d_Seconds_extend_30 (by decide) (fun c12 => ?_) (fun c12 => ?_)
        · exact A_vret d_Seconds_extend_99 (by decide) rfl ⟨rfl, k10⟩
        · refine A_aload_n 0 d_Seconds_extend_33 rfl rfl ?_
          refine A_getAv (z := some 161) T_ok d_Seconds_extend_34 f_Seconds_19 (xi_s k10.1 sf_158) (xi_r k10.1 rff_158_7) ?_
          refine A_iload_n 1 d_Seconds_extend_37 rfl rfl ?_
          refine A_aload_n 0 d_Seconds_extend_38 rfl rfl ?_
          refine A_getIf T_ok d_Seconds_extend_39 f_Seconds_32 (xi_s k10.1 sf_158) (fun x14 ex14 _ _ => ?_)
          refine A_pc (pc' := 42) rfl ?_
          refine A_iload_n 3 d_Seconds_extend_42 rfl rfl ?_
          refine A_iaddw d_Seconds_extend_43 (fun x15 _ _ _ => ?_)
          refine A_iastorek (KR := kF FCS s h) d_Seconds_extend_44 (xi_s k10.1 sf_161) (by omega) (by omega) (kF_j k10 (by decide) (ns_b rfl) (rgf_161 _) (by omega) (by omega)) (fun h16 k17 eh16 => ?_)
          refine A_aload_n 0 d_Seconds_extend_45 rfl rfl ?_
          refine A_iload_n 1 d_Seconds_extend_46 rfl rfl ?_
          refine A_callV1 m_Seconds_fitsAlone T_ok d_Seconds_extend_47 l_Seconds_61 k_Seconds_fitsAlone (xi_s k17.1 sf_158) rfl (by decide +kernel) (by decide) (Nat.le_of_ble_eq_true rfl) (s_Seconds_fitsAlone k17.1 (by omega) (by omega)) (fun r h18 hq => ?_)
          obtain ⟨x20, rfl, bx20, rfl⟩ := hq
          refine A_if_eq (tgt := 93) d_Seconds_extend_50 (by decide) (fun c21 => ?_) (fun c21 => ?_)
          · refine A_iincv (z := (i8 + 1)) (L' := [some (av_R (some 158)), some (av_I a1), some (av_I a2), some (av_I (i8 + 1))]) d_Seconds_extend_93 rfl (w32_to (by omega) (by unfold i32; omega)) rfl ?_
            refine A_goto (tgt := 25) d_Seconds_extend_96 (by decide) ?_
            exact ih25 (i8 + 1) h16 (by omega) (by omega) k17 (by omega)
          · refine A_iload_n 1 d_Seconds_extend_53 rfl rfl ?_
            refine A_if_eq (tgt := 65) d_Seconds_extend_54 (by decide) (fun c => False.elim (by omega)) (fun c22 => ?_)
            refine A_aload_n 0 d_Seconds_extend_57 rfl rfl ?_
            refine A_iload_n 1 d_Seconds_extend_58 rfl rfl ?_
            refine A_callV1 m_Seconds_fitsBehind T_ok d_Seconds_extend_59 l_Seconds_65 k_Seconds_fitsBehind (xi_s k17.1 sf_158) rfl (by decide +kernel) (by decide) (Nat.le_of_ble_eq_true rfl) (s_Seconds_fitsBehind k17.1 (by omega) (by omega)) (fun r h23 hq => ?_)
            obtain ⟨x25, rfl, bx25, rfl⟩ := hq
            refine A_if_eq (tgt := 93) d_Seconds_extend_62 (by decide) (fun c26 => ?_) (fun c26 => ?_)
            · refine A_iincv (z := (i8 + 1)) (L' := [some (av_R (some 158)), some (av_I a1), some (av_I a2), some (av_I (i8 + 1))]) d_Seconds_extend_93 rfl (w32_to (by omega) (by unfold i32; omega)) rfl ?_
              refine A_goto (tgt := 25) d_Seconds_extend_96 (by decide) ?_
              exact ih25 (i8 + 1) h16 (by omega) (by omega) k17 (by omega)
            · refine A_iload_n 1 d_Seconds_extend_65 rfl rfl ?_
              refine A_iconst d_Seconds_extend_66 rfl ?_
              refine A_icmp_lt (tgt := 78) d_Seconds_extend_67 (by decide) (fun c => False.elim (by omega)) (fun c27 => ?_)
              refine A_aload_n 0 d_Seconds_extend_70 rfl rfl ?_
              refine A_iload_n 1 d_Seconds_extend_71 rfl rfl ?_
              refine A_callV1 m_Seconds_fitsLeap T_ok d_Seconds_extend_72 l_Seconds_68 k_Seconds_fitsLeap (xi_s k17.1 sf_158) rfl (by decide +kernel) (by decide) (Nat.le_of_ble_eq_true rfl) (s_Seconds_fitsLeap k17.1 (by omega) (by omega)) (fun r h28 hq => ?_)
              obtain ⟨x30, rfl, bx30, rfl⟩ := hq
              refine A_if_eq (tgt := 93) d_Seconds_extend_75 (by decide) (fun c31 => ?_) (fun c31 => ?_)
              · refine A_iincv (z := (i8 + 1)) (L' := [some (av_R (some 158)), some (av_I a1), some (av_I a2), some (av_I (i8 + 1))]) d_Seconds_extend_93 rfl (w32_to (by omega) (by unfold i32; omega)) rfl ?_
                refine A_goto (tgt := 25) d_Seconds_extend_96 (by decide) ?_
                exact ih25 (i8 + 1) h16 (by omega) (by omega) k17 (by omega)
              · refine A_aload_n 0 d_Seconds_extend_78 rfl rfl ?_
                refine A_iload_n 1 d_Seconds_extend_79 rfl rfl ?_
                refine A_iconst d_Seconds_extend_80 rfl ?_
                refine A_iaddv (z := (a1 + 1)) d_Seconds_extend_81 (w32_to (by omega) (by unfold i32; omega)) ?_
                refine A_iload_n 2 d_Seconds_extend_82 rfl rfl ?_
                refine A_pc (pc' := 83) rfl ?_
                refine A_aload_n 0 d_Seconds_extend_83 rfl rfl ?_
                refine A_getIv (z := x11) T_ok d_Seconds_extend_84 f_Seconds_35 (xi_s k17.1 sf_158) ((eh16.1 _ _ (fun q => absurd q (by decide))).trans ex11.symm) ?_
                refine A_imulw d_Seconds_extend_87 (fun x33 _ _ _ => ?_)
                refine A_iload_n 3 d_Seconds_extend_88 rfl rfl ?_
                refine A_iaddw d_Seconds_extend_89 (fun x34 _ _ _ => ?_)
                refine A_callV2 m_Seconds_extend T_ok d_Seconds_extend_90 l_Seconds_53 k_Seconds_extend (xi_s k17.1 sf_158) rfl (by decide +kernel) (by decide) (Nat.le_of_ble_eq_true rfl) (z_Seconds_extend_7 k17.1 (by omega) (by omega)) (fun r h35 hq => ?_)
                obtain ⟨rfl, k36⟩ := hq
                have k37 := kF_t k17 k36 (fun _ q => q)
                refine A_iincv (z := (i8 + 1)) (L' := [some (av_R (some 158)), some (av_I a1), some (av_I a2), some (av_I (i8 + 1))]) d_Seconds_extend_93 rfl (w32_to (by omega) (by unfold i32; omega)) rfl ?_
                refine A_goto (tgt := 25) d_Seconds_extend_96 (by decide) ?_
                exact ih25 (i8 + 1) h35 (by omega) (by omega) k37 (by omega)
    exact lp25 _ 0 h (by omega) (by omega) k0 (Nat.lt_succ_self _)
theorem z_Seconds_extend_5 {G : cx_T} {s : Nat} {h : ah_T} (hx : xi s h) {a1 : Int} {a2 : Int} (la1 : 5 ≤ a1) (ua1 : a1 ≤ 5) : con G 7 0 0 m_Seconds_extend [av_R (some 158), av_I a1, av_I a2] h (fun r h' => r = none ∧ kF FCS s h h') := by
  refine con_of (L := [some (av_R (some 158)), some (av_I a1), some (av_I a2), none]) (by decide +kernel) (Nat.le_of_ble_eq_true rfl) rfl ?_
  have hS : isS s := hx.2.1
  have hs0 : s = 17 ∨ s = 80 := hS
  have k0 : kF FCS s h h := kF_0 hx
  refine A_locI 2 rfl (fun ra => ?_)
  obtain ⟨_, _⟩ := ra
  refine A_iload_n 1 d_Seconds_extend_0 rfl rfl ?_
  refine A_aload_n 0 d_Seconds_extend_1 rfl rfl ?_
  refine A_getIn (lo := 0) (hi := 8) T_ok d_Seconds_extend_2 f_Seconds_47 (xi_s k0.1 sf_158) (xi_g k0.1 (by decide) rgf_158_4) (fun x1 ex1 _ _ => ?_)
  refine A_icmp_ge (tgt := 17) d_Seconds_extend_5 (by decide) (fun c2 => ?_) (fun c2 => ?_)
  · refine A_aload_n 0 d_Seconds_extend_17 rfl rfl ?_
    refine A_iload_n 2 d_Seconds_extend_18 rfl rfl ?_
    refine A_callV1 m_Seconds_keep T_ok d_Seconds_extend_19 l_Seconds_57 k_Seconds_keep (xi_s k0.1 sf_158) rfl (by decide +kernel) (by decide) (Nat.le_of_ble_eq_true rfl) (z_Seconds_keep k0.1 ) (fun r h3 hq => ?_)
    obtain ⟨rfl, k4⟩ := hq
    have k5 := kF_t k0 k4 (fun _ q => q)
    exact A_vret d_Seconds_extend_22 (by decide) rfl ⟨rfl, k5⟩
  · refine A_iload_n 1 d_Seconds_extend_8 rfl rfl ?_
    refine A_aload_n 0 d_Seconds_extend_9 rfl rfl ?_
    refine A_getAv (z := some 161) T_ok d_Seconds_extend_10 f_Seconds_19 (xi_s k0.1 sf_158) (xi_r k0.1 rff_158_7) ?_
    refine A_alenN d_Seconds_extend_13 (xi_s k0.1 sf_161) (by decide) (by decide) ?_
    refine A_icmp_lt (tgt := 23) d_Seconds_extend_14 (by decide) (fun c7 => ?_) (fun c => False.elim (by omega))
    refine A_iconst d_Seconds_extend_23 rfl ?_
    refine A_istore_n 3 (L' := [some (av_R (some 158)), some (av_I a1), some (av_I a2), some (av_I 0)]) d_Seconds_extend_24 rfl (Nat.le_of_ble_eq_true rfl) rfl ?_
    have lp25 : ∀ (n : Nat) (i8 : Int) (h9 : ah_T) , 0 ≤ i8 → i8 ≤ 121 → kF FCS s h h9 → (122 - i8).toNat < n → aw G (rm_R 7 0 0) m_Seconds_extend 0 0 25 [some (av_R (some 158)), some (av_I a1), some (av_I a2), some (av_I i8)] [] h9 (fun r h' => r = none ∧ kF FCS s h h') := by
      intro n
      induction n with
      | zero => intro i8 h9 _ _ _ hm; omega
      | succ n ih25 =>
        intro i8 h9 hl0 hl1 k10 hm
        refine A_iload_n 3 d_Seconds_extend_25 rfl rfl ?_
        refine A_aload_n 0 d_Seconds_extend_26 rfl rfl ?_
        refine A_getIn (lo := 0) (hi := 121) T_ok d_Seconds_extend_27 f_Seconds_35 (xi_s k10.1 sf_158) (xi_g k10.1 (by decide) rgf_158_3) (fun x11 ex11 _ _ => ?_)
        refine A_icmp_ge (tgt := 99) d_Seconds_extend_30 (by decide) (fun c12 => ?_) (fun c12 => ?_)
        · exact A_vret d_Seconds_extend_99 (by decide) rfl ⟨rfl, k10⟩
        · refine A_aload_n 0 d_Seconds_extend_33 rfl rfl ?_
          refine A_getAv (z := some 161) T_ok d_Seconds_extend_34 f_Seconds_19 (xi_s k10.1 sf_158) (xi_r k10.1 rff_158_7) ?_
          refine A_iload_n 1 d_Seconds_extend_37 rfl rfl ?_
          refine A_aload_n 0 d_Seconds_extend_38 rfl rfl ?_
          refine A_getIf T_ok d_Seconds_extend_39 f_Seconds_32 (xi_s k10.1 sf_158) (fun x14 ex14 _ _ => ?_)
          refine A_pc (pc' := 42) rfl ?_
          refine A_iload_n 3 d_Seconds_extend_42 rfl rfl ?_
          refine A_iaddw d_Seconds_extend_43 (fun x15 _ _ _ => ?_)
          refine A_iastorek (KR := kF FCS s h) d_Seconds_extend_44 (xi_s k10.1 sf_161) (by omega) (by omega) (kF_j k10 (by decide) (ns_b rfl) (rgf_161 _) (by omega) (by omega)) (fun h16 k17 eh16 => ?_)
          refine A_aload_n 0 d_Seconds_extend_45 rfl rfl ?_
          refine A_iload_n 1 d_Seconds_extend_46 rfl rfl ?_
          refine A_callV1 m_Seconds_fitsAlone T_ok d_Seconds_extend_47 l_Seconds_61 k_Seconds_fitsAlone (xi_s k17.1 sf_158) rfl (by decide +kernel) (by decide) (Nat.le_of_ble_eq_true rfl) (s_Seconds_fitsAlone k17.1 (by omega) (by omega)) (fun r h18 hq => ?_)
          obtain ⟨x20, rfl, bx20, rfl⟩ := hq
          refine A_if_eq (tgt := 93) d_Seconds_extend_50 (by decide) (fun c21 => ?_) (fun c21 => ?_)
          · refine A_iincv (z := (i8 + 1)) (L' := [some (av_R (some 158)), some (av_I a1), some (av_I a2), some (av_I (i8 + 1))]) d_Seconds_extend_93 rfl (w32_to (by omega) (by unfold i32; omega)) rfl ?_
            refine A_goto (tgt := 25) d_Seconds_extend_96 (by decide) ?_
            exact ih25 (i8 + 1) h16 (by omega) (by omega) k17 (by omega)
          · refine A_iload_n 1 d_Seconds_extend_53 rfl rfl ?_
            refine A_if_eq (tgt := 65) d_Seconds_extend_54 (by decide) (fun c => False.elim (by omega)) (fun c22 => ?_)
            refine A_aload_n 0 d_Seconds_extend_57 rfl rfl ?_
            refine A_iload_n 1 d_Seconds_extend_58 rfl rfl ?_
            refine A_callV1 m_Seconds_fitsBehind T_ok d_Seconds_extend_59 l_Seconds_65 k_Seconds_fitsBehind (xi_s k17.1 sf_158) rfl (by decide +kernel) (by decide) (Nat.le_of_ble_eq_true rfl) (s_Seconds_fitsBehind k17.1 (by omega) (by omega)) (fun r h23 hq => ?_)
            obtain ⟨x25, rfl, bx25, rfl⟩ := hq
            refine A_if_eq (tgt := 93) d_Seconds_extend_62 (by decide) (fun c26 => ?_) (fun c26 => ?_)
            · refine A_iincv (z := (i8 + 1)) (L' := [some (av_R (some 158)), some (av_I a1), some (av_I a2), some (av_I (i8 + 1))]) d_Seconds_extend_93 rfl (w32_to (by omega) (by unfold i32; omega)) rfl ?_
              refine A_goto (tgt := 25) d_Seconds_extend_96 (by decide) ?_
              exact ih25 (i8 + 1) h16 (by omega) (by omega) k17 (by omega)
            · refine A_iload_n 1 d_Seconds_extend_65 rfl rfl ?_
              refine A_iconst d_Seconds_extend_66 rfl ?_
              refine A_icmp_lt (tgt := 78) d_Seconds_extend_67 (by decide) (fun c => False.elim (by omega)) (fun c27 => ?_)
              refine A_aload_n 0 d_Seconds_extend_70 rfl rfl ?_
              refine A_iload_n 1 d_Seconds_extend_71 rfl rfl ?_
              refine A_callV1 m_Seconds_fitsLeap T_ok d_Seconds_extend_72 l_Seconds_68 k_Seconds_fitsLeap (xi_s k17.1 sf_158) rfl (by decide +kernel) (by decide) (Nat.le_of_ble_eq_true rfl) (s_Seconds_fitsLeap k17.1 (by omega) (by omega)) (fun r h28 hq => ?_)
              obtain ⟨x30, rfl, bx30, rfl⟩ := hq
              refine A_if_eq (tgt := 93) d_Seconds_extend_75 (by decide) (fun c31 => ?_) (fun c31 => ?_)
              · refine A_iincv (z := (i8 + 1)) (L' := [some (av_R (some 158)), some (av_I a1), some (av_I a2), some (av_I (i8 + 1))]) d_Seconds_extend_93 rfl (w32_to (by omega) (by unfold i32; omega)) rfl ?_
                refine A_goto (tgt := 25) d_Seconds_extend_96 (by decide) ?_
                exact ih25 (i8 + 1) h16 (by omega) (by omega) k17 (by omega)
              · refine A_aload_n 0 d_Seconds_extend_78 rfl rfl ?_
                refine A_iload_n 1 d_Seconds_extend_79 rfl rfl ?_
                refine A_iconst d_Seconds_extend_80 rfl ?_
                refine A_iaddv (z := (a1 + 1)) d_Seconds_extend_81 (w32_to (by omega) (by unfold i32; omega)) ?_
                refine A_iload_n 2 d_Seconds_extend_82 rfl rfl ?_
                refine A_pc (pc' := 83) rfl ?_
                refine A_aload_n 0 d_Seconds_extend_83 rfl rfl ?_
                refine A_getIv (z := x11) T_ok d_Seconds_extend_84 f_Seconds_35 (xi_s k17.1 sf_158) ((eh16.1 _ _ (fun q => absurd q (by decide))).trans ex11.symm) ?_
                refine A_imulw d_Seconds_extend_87 (fun x33 _ _ _ => ?_)
                refine A_iload_n 3 d_Seconds_extend_88 rfl rfl ?_
                refine A_iaddw d_Seconds_extend_89 (fun x34 _ _ _ => ?_)
                refine A_callV2 m_Seconds_extend T_ok d_Seconds_extend_90 l_Seconds_53 k_Seconds_extend (xi_s k17.1 sf_158) rfl (by decide +kernel) (by decide) (Nat.le_of_ble_eq_true rfl) (z_Seconds_extend_6 k17.1 (by omega) (by omega)) (fun r h35 hq => ?_)
                obtain ⟨rfl, k36⟩ := hq
                have k37 := kF_t k17 k36 (fun _ q => q)
                refine A_iincv (z := (i8 + 1)) (L' := [some (av_R (some 158)), some (av_I a1), some (av_I a2), some (av_I (i8 + 1))]) d_Seconds_extend_93 rfl (w32_to (by omega) (by unfold i32; omega)) rfl ?_
                refine A_goto (tgt := 25) d_Seconds_extend_96 (by decide) ?_
                exact ih25 (i8 + 1) h35 (by omega) (by omega) k37 (by omega)
    exact lp25 _ 0 h (by omega) (by omega) k0 (Nat.lt_succ_self _)
theorem z_Seconds_extend_4 {G : cx_T} {s : Nat} {h : ah_T} (hx : xi s h) {a1 : Int} {a2 : Int} (la1 : 4 ≤ a1) (ua1 : a1 ≤ 4) : con G 8 0 0 m_Seconds_extend [av_R (some 158), av_I a1, av_I a2] h (fun r h' => r = none ∧ kF FCS s h h') := by
  refine con_of (L := [some (av_R (some 158)), some (av_I a1), some (av_I a2), none]) (by decide +kernel) (Nat.le_of_ble_eq_true rfl) rfl ?_
  have hS : isS s := hx.2.1
  have hs0 : s = 17 ∨ s = 80 := hS
  have k0 : kF FCS s h h := kF_0 hx
  refine A_locI 2 rfl (fun ra => ?_)
  obtain ⟨_, _⟩ := ra
  refine A_iload_n 1 d_Seconds_extend_0 rfl rfl ?_
  refine A_aload_n 0 d_Seconds_extend_1 rfl rfl ?_
  refine A_getIn (lo := 0) (hi := 8) T_ok d_Seconds_extend_2 f_Seconds_47 (xi_s k0.1 sf_158) (xi_g k0.1 (by decide) rgf_158_4) (fun x1 ex1 _ _ => ?_)
  refine A_icmp_ge (tgt := 17) d_Seconds_extend_5 (by decide) (fun c2 => ?_) (fun c2 => ?_)
  · refine A_aload_n 0 d_Seconds_extend_17 rfl rfl ?_
    refine A_iload_n 2 d_Seconds_extend_18 rfl rfl ?_
    refine A_callV1 m_Seconds_keep T_ok d_Seconds_extend_19 l_Seconds_57 k_Seconds_keep (xi_s k0.1 sf_158) rfl (by decide +kernel) (by decide) (Nat.le_of_ble_eq_true rfl) (z_Seconds_keep k0.1 ) (fun r h3 hq => ?_)
    obtain ⟨rfl, k4⟩ := hq
    have k5 := kF_t k0 k4 (fun _ q => q)
    exact A_vret d_Seconds_extend_22 (by decide) rfl ⟨rfl, k5⟩
  · refine A_iload_n 1 d_Seconds_extend_8 rfl rfl ?_
    refine A_aload_n 0 d_Seconds_extend_9 rfl rfl ?_
    refine A_getAv (z := some 161) T_ok d_Seconds_extend_10 f_Seconds_19 (xi_s k0.1 sf_158) (xi_r k0.1 rff_158_7) ?_
    refine A_alenN d_Seconds_extend_13 (xi_s k0.1 sf_161) (by decide) (by decide) ?_
    refine A_icmp_lt (tgt := 23) d_Seconds_extend_14 (by decide) (fun c7 => ?_) (fun c => False.elim (by omega))
    refine A_iconst d_Seconds_extend_23 rfl ?_
    refine A_istore_n 3 (L' := [some (av_R (some 158)), some (av_I a1), some (av_I a2), some (av_I 0)]) d_Seconds_extend_24 rfl (Nat.le_of_ble_eq_true rfl) rfl ?_
    have lp25 : ∀ (n : Nat) (i8 : Int) (h9 : ah_T) , 0 ≤ i8 → i8 ≤ 121 → kF FCS s h h9 → (122 - i8).toNat < n → aw G (rm_R 8 0 0) m_Seconds_extend 0 0 25 [some (av_R (some 158)), some (av_I a1), some (av_I a2), some (av_I i8)] [] h9 (fun r h' => r = none ∧ kF FCS s h h') := by
      intro n
      induction n with
      | zero => intro i8 h9 _ _ _ hm; omega
      | succ n ih25 =>
        intro i8 h9 hl0 hl1 k10 hm
        refine A_iload_n 3 d_Seconds_extend_25 rfl rfl ?_
        refine A_aload_n 0 d_Seconds_extend_26 rfl rfl ?_
        refine A_getIn (lo := 0) (hi := 121) T_ok d_Seconds_extend_27 f_Seconds_35 (xi_s k10.1 sf_158) (xi_g k10.1 (by decide) rgf_158_3) (fun x11 ex11 _ _ => ?_)
        refine A_icmp_ge (tgt := 99) d_Seconds_extend_30 (by decide) (fun c12 => ?_) (fun c12 => ?_)
        · exact A_vret d_Seconds_extend_99 (by decide) rfl ⟨rfl, k10⟩
        · refine A_aload_n 0 d_Seconds_extend_33 rfl rfl ?_
          refine A_getAv (z := some 161) T_ok d_Seconds_extend_34 f_Seconds_19 (xi_s k10.1 sf_158) (xi_r k10.1 rff_158_7) ?_
          refine A_iload_n 1 d_Seconds_extend_37 rfl rfl ?_
          refine A_aload_n 0 d_Seconds_extend_38 rfl rfl ?_
          refine A_getIf T_ok d_Seconds_extend_39 f_Seconds_32 (xi_s k10.1 sf_158) (fun x14 ex14 _ _ => ?_)
          refine A_pc (pc' := 42) rfl ?_
          refine A_iload_n 3 d_Seconds_extend_42 rfl rfl ?_
          refine A_iaddw d_Seconds_extend_43 (fun x15 _ _ _ => ?_)
          refine A_iastorek (KR := kF FCS s h) d_Seconds_extend_44 (xi_s k10.1 sf_161) (by omega) (by omega) (kF_j k10 (by decide) (ns_b rfl) (rgf_161 _) (by omega) (by omega)) (fun h16 k17 eh16 => ?_)
          refine A_aload_n 0 d_Seconds_extend_45 rfl rfl ?_
          refine A_iload_n 1 d_Seconds_extend_46 rfl rfl ?_
          refine A_callV1 m_Seconds_fitsAlone T_ok d_Seconds_extend_47 l_Seconds_61 k_Seconds_fitsAlone (xi_s k17.1 sf_158) rfl (by decide +kernel) (by decide) (Nat.le_of_ble_eq_true rfl) (s_Seconds_fitsAlone k17.1 (by omega) (by omega)) (fun r h18 hq => ?_)
          obtain ⟨x20, rfl, bx20, rfl⟩ := hq
          refine A_if_eq (tgt := 93) d_Seconds_extend_50 (by decide) (fun c21 => ?_) (fun c21 => ?_)
          · refine A_iincv (z := (i8 + 1)) (L' := [some (av_R (some 158)), some (av_I a1), some (av_I a2), some (av_I (i8 + 1))]) d_Seconds_extend_93 rfl (w32_to (by omega) (by unfold i32; omega)) rfl ?_
            refine A_goto (tgt := 25) d_Seconds_extend_96 (by decide) ?_
            exact ih25 (i8 + 1) h16 (by omega) (by omega) k17 (by omega)
          · refine A_iload_n 1 d_Seconds_extend_53 rfl rfl ?_
            refine A_if_eq (tgt := 65) d_Seconds_extend_54 (by decide) (fun c => False.elim (by omega)) (fun c22 => ?_)
            refine A_aload_n 0 d_Seconds_extend_57 rfl rfl ?_
            refine A_iload_n 1 d_Seconds_extend_58 rfl rfl ?_
            refine A_callV1 m_Seconds_fitsBehind T_ok d_Seconds_extend_59 l_Seconds_65 k_Seconds_fitsBehind (xi_s k17.1 sf_158) rfl (by decide +kernel) (by decide) (Nat.le_of_ble_eq_true rfl) (s_Seconds_fitsBehind k17.1 (by omega) (by omega)) (fun r h23 hq => ?_)
            obtain ⟨x25, rfl, bx25, rfl⟩ := hq
            refine A_if_eq (tgt := 93) d_Seconds_extend_62 (by decide) (fun c26 => ?_) (fun c26 => ?_)
            · refine A_iincv (z := (i8 + 1)) (L' := [some (av_R (some 158)), some (av_I a1), some (av_I a2), some (av_I (i8 + 1))]) d_Seconds_extend_93 rfl (w32_to (by omega) (by unfold i32; omega)) rfl ?_
              refine A_goto (tgt := 25) d_Seconds_extend_96 (by decide) ?_
              exact ih25 (i8 + 1) h16 (by omega) (by omega) k17 (by omega)
            · refine A_iload_n 1 d_Seconds_extend_65 rfl rfl ?_
              refine A_iconst d_Seconds_extend_66 rfl ?_
              refine A_icmp_lt (tgt := 78) d_Seconds_extend_67 (by decide) (fun c => False.elim (by omega)) (fun c27 => ?_)
              refine A_aload_n 0 d_Seconds_extend_70 rfl rfl ?_
              refine A_iload_n 1 d_Seconds_extend_71 rfl rfl ?_
              refine A_callV1 m_Seconds_fitsLeap T_ok d_Seconds_extend_72 l_Seconds_68 k_Seconds_fitsLeap (xi_s k17.1 sf_158) rfl (by decide +kernel) (by decide) (Nat.le_of_ble_eq_true rfl) (s_Seconds_fitsLeap k17.1 (by omega) (by omega)) (fun r h28 hq => ?_)
              obtain ⟨x30, rfl, bx30, rfl⟩ := hq
              refine A_if_eq (tgt := 93) d_Seconds_extend_75 (by decide) (fun c31 => ?_) (fun c31 => ?_)
              · refine A_iincv (z := (i8 + 1)) (L' := [some (av_R (some 158)), some (av_I a1), some (av_I a2), some (av_I (i8 + 1))]) d_Seconds_extend_93 rfl (w32_to (by omega) (by unfold i32; omega)) rfl ?_
                refine A_goto (tgt := 25) d_Seconds_extend_96 (by decide) ?_
                exact ih25 (i8 + 1) h16 (by omega) (by omega) k17 (by omega)
              · refine A_aload_n 0 d_Seconds_extend_78 rfl rfl ?_
                refine A_iload_n 1 d_Seconds_extend_79 rfl rfl ?_
                refine A_iconst d_Seconds_extend_80 rfl ?_
                refine A_iaddv (z := (a1 + 1)) d_Seconds_extend_81 (w32_to (by omega) (by unfold i32; omega)) ?_
                refine A_iload_n 2 d_Seconds_extend_82 rfl rfl ?_
                refine A_pc (pc' := 83) rfl ?_
                refine A_aload_n 0 d_Seconds_extend_83 rfl rfl ?_
                refine A_getIv (z := x11) T_ok d_Seconds_extend_84 f_Seconds_35 (xi_s k17.1 sf_158) ((eh16.1 _ _ (fun q => absurd q (by decide))).trans ex11.symm) ?_
                refine A_imulw d_Seconds_extend_87 (fun x33 _ _ _ => ?_)
                refine A_iload_n 3 d_Seconds_extend_88 rfl rfl ?_
                refine A_iaddw d_Seconds_extend_89 (fun x34 _ _ _ => ?_)
                refine A_callV2 m_Seconds_extend T_ok d_Seconds_extend_90 l_Seconds_53 k_Seconds_extend (xi_s k17.1 sf_158) rfl (by decide +kernel) (by decide) (Nat.le_of_ble_eq_true rfl) (z_Seconds_extend_5 k17.1 (by omega) (by omega)) (fun r h35 hq => ?_)
                obtain ⟨rfl, k36⟩ := hq
                have k37 := kF_t k17 k36 (fun _ q => q)
                refine A_iincv (z := (i8 + 1)) (L' := [some (av_R (some 158)), some (av_I a1), some (av_I a2), some (av_I (i8 + 1))]) d_Seconds_extend_93 rfl (w32_to (by omega) (by unfold i32; omega)) rfl ?_
                refine A_goto (tgt := 25) d_Seconds_extend_96 (by decide) ?_
                exact ih25 (i8 + 1) h35 (by omega) (by omega) k37 (by omega)
    exact lp25 _ 0 h (by omega) (by omega) k0 (Nat.lt_succ_self _)
theorem z_Seconds_extend_3 {G : cx_T} {s : Nat} {h : ah_T} (hx : xi s h) {a1 : Int} {a2 : Int} (la1 : 3 ≤ a1) (ua1 : a1 ≤ 3) : con G 9 0 0 m_Seconds_extend [av_R (some 158), av_I a1, av_I a2] h (fun r h' => r = none ∧ kF FCS s h h') := by
  refine con_of (L := [some (av_R (some 158)), some (av_I a1), some (av_I a2), none]) (by decide +kernel) (Nat.le_of_ble_eq_true rfl) rfl ?_
  have hS : isS s := hx.2.1
  have hs0 : s = 17 ∨ s = 80 := hS
  have k0 : kF FCS s h h := kF_0 hx
  refine A_locI 2 rfl (fun ra => ?_)
  obtain ⟨_, _⟩ := ra
  refine A_iload_n 1 d_Seconds_extend_0 rfl rfl ?_
  refine A_aload_n 0 d_Seconds_extend_1 rfl rfl ?_
  refine A_getIn (lo := 0) (hi := 8) T_ok d_Seconds_extend_2 f_Seconds_47 (xi_s k0.1 sf_158) (xi_g k0.1 (by decide) rgf_158_4) (fun x1 ex1 _ _ => ?_)
  refine A_icmp_ge (tgt := 17) d_Seconds_extend_5 (by decide) (fun c2 => ?_) (fun c2 => ?_)
  · refine A_aload_n 0 d_Seconds_extend_17 rfl rfl ?_
    refine A_iload_n 2 d_Seconds_extend_18 rfl rfl ?_
    refine A_callV1 m_Seconds_keep T_ok d_Seconds_extend_19 l_Seconds_57 k_Seconds_keep (xi_s k0.1 sf_158) rfl (by decide +kernel) (by decide) (Nat.le_of_ble_eq_true rfl) (z_Seconds_keep k0.1 ) (fun r h3 hq => ?_)
    obtain ⟨rfl, k4⟩ := hq
    have k5 := kF_t k0 k4 (fun _ q => q)
    exact A_vret d_Seconds_extend_22 (by decide) rfl ⟨rfl, k5⟩
  · refine A_iload_n 1 d_Seconds_extend_8 rfl rfl ?_
    refine A_aload_n 0 d_Seconds_extend_9 rfl rfl ?_
    refine A_getAv (z := some 161) T_ok d_Seconds_extend_10 f_Seconds_19 (xi_s k0.1 sf_158) (xi_r k0.1 rff_158_7) ?_
    refine A_alenN d_Seconds_extend_13 (xi_s k0.1 sf_161) (by decide) (by decide) ?_
    refine A_icmp_lt (tgt := 23) d_Seconds_extend_14 (by decide) (fun c7 => ?_) (fun c => False.elim (by omega))
    refine A_iconst d_Seconds_extend_23 rfl ?_
    refine A_istore_n 3 (L' := [some (av_R (some 158)), some (av_I a1), some (av_I a2), some (av_I 0)]) d_Seconds_extend_24 rfl (Nat.le_of_ble_eq_true rfl) rfl ?_
    have lp25 : ∀ (n : Nat) (i8 : Int) (h9 : ah_T) , 0 ≤ i8 → i8 ≤ 121 → kF FCS s h h9 → (122 - i8).toNat < n → aw G (rm_R 9 0 0) m_Seconds_extend 0 0 25 [some (av_R (some 158)), some (av_I a1), some (av_I a2), some (av_I i8)] [] h9 (fun r h' => r = none ∧ kF FCS s h h') := by
      intro n
      induction n with
      | zero => intro i8 h9 _ _ _ hm; omega
      | succ n ih25 =>
        intro i8 h9 hl0 hl1 k10 hm
        refine A_iload_n 3 d_Seconds_extend_25 rfl rfl ?_
        refine A_aload_n 0 d_Seconds_extend_26 rfl rfl ?_
        refine A_getIn (lo := 0) (hi := 121) T_ok d_Seconds_extend_27 f_Seconds_35 (xi_s k10.1 sf_158) (xi_g k10.1 (by decide) rgf_158_3) (fun x11 ex11 _ _ => ?_)
        refine A_icmp_ge (tgt := 99) d_Seconds_extend_30 (by decide) (fun c12 => ?_) (fun c12 => ?_)
        · exact A_vret d_Seconds_extend_99 (by decide) rfl ⟨rfl, k10⟩
        · refine A_aload_n 0 d_Seconds_extend_33 rfl rfl ?_
          refine A_getAv (z := some 161) T_ok d_Seconds_extend_34 f_Seconds_19 (xi_s k10.1 sf_158) (xi_r k10.1 rff_158_7) ?_
          refine A_iload_n 1 d_Seconds_extend_37 rfl rfl ?_
          refine A_aload_n 0 d_Seconds_extend_38 rfl rfl ?_
          refine A_getIf T_ok d_Seconds_extend_39 f_Seconds_32 (xi_s k10.1 sf_158) (fun x14 ex14 _ _ => ?_)
          refine A_pc (pc' := 42) rfl ?_
          refine A_iload_n 3 d_Seconds_extend_42 rfl rfl ?_
          refine A_iaddw d_Seconds_extend_43 (fun x15 _ _ _ => ?_)
          refine A_iastorek (KR := kF FCS s h) d_Seconds_extend_44 (xi_s k10.1 sf_161) (by omega) (by omega) (kF_j k10 (by decide) (ns_b rfl) (rgf_161 _) (by omega) (by omega)) (fun h16 k17 eh16 => ?_)
          refine A_aload_n 0 d_Seconds_extend_45 rfl rfl ?_
          refine A_iload_n 1 d_Seconds_extend_46 rfl rfl ?_
          refine A_callV1 m_Seconds_fitsAlone T_ok d_Seconds_extend_47 l_Seconds_61 k_Seconds_fitsAlone (xi_s k17.1 sf_158) rfl (by decide +kernel) (by decide) (Nat.le_of_ble_eq_true rfl) (s_Seconds_fitsAlone k17.1 (by omega) (by omega)) (fun r h18 hq => ?_)
          obtain ⟨x20, rfl, bx20, rfl⟩ := hq
          refine A_if_eq (tgt := 93) d_Seconds_extend_50 (by decide) (fun c21 => ?_) (fun c21 => ?_)
          · refine A_iincv (z := (i8 + 1)) (L' := [some (av_R (some 158)), some (av_I a1), some (av_I a2), some (av_I (i8 + 1))]) d_Seconds_extend_93 rfl (w32_to (by omega) (by unfold i32; omega)) rfl ?_
            refine A_goto (tgt := 25) d_Seconds_extend_96 (by decide) ?_
            exact ih25 (i8 + 1) h16 (by omega) (by omega) k17 (by omega)
          · refine A_iload_n 1 d_Seconds_extend_53 rfl rfl ?_
            refine A_if_eq (tgt := 65) d_Seconds_extend_54 (by decide) (fun c => False.elim (by omega)) (fun c22 => ?_)
            refine A_aload_n 0 d_Seconds_extend_57 rfl rfl ?_
            refine A_iload_n 1 d_Seconds_extend_58 rfl rfl ?_
            refine A_callV1 m_Seconds_fitsBehind T_ok d_Seconds_extend_59 l_Seconds_65 k_Seconds_fitsBehind (xi_s k17.1 sf_158) rfl (by decide +kernel) (by decide) (Nat.le_of_ble_eq_true rfl) (s_Seconds_fitsBehind k17.1 (by omega) (by omega)) (fun r h23 hq => ?_)
            obtain ⟨x25, rfl, bx25, rfl⟩ := hq
            refine A_if_eq (tgt := 93) d_Seconds_extend_62 (by decide) (fun c26 => ?_) (fun c26 => ?_)
            · refine A_iincv (z := (i8 + 1)) (L' := [some (av_R (some 158)), some (av_I a1), some (av_I a2), some (av_I (i8 + 1))]) d_Seconds_extend_93 rfl (w32_to (by omega) (by unfold i32; omega)) rfl ?_
              refine A_goto (tgt := 25) d_Seconds_extend_96 (by decide) ?_
              exact ih25 (i8 + 1) h16 (by omega) (by omega) k17 (by omega)
            · refine A_iload_n 1 d_Seconds_extend_65 rfl rfl ?_
              refine A_iconst d_Seconds_extend_66 rfl ?_
              refine A_icmp_lt (tgt := 78) d_Seconds_extend_67 (by decide) (fun c => False.elim (by omega)) (fun c27 => ?_)
              refine A_aload_n 0 d_Seconds_extend_70 rfl rfl ?_
              refine A_iload_n 1 d_Seconds_extend_71 rfl rfl ?_
              refine A_callV1 m_Seconds_fitsLeap T_ok d_Seconds_extend_72 l_Seconds_68 k_Seconds_fitsLeap (xi_s k17.1 sf_158) rfl (by decide +kernel) (by decide) (Nat.le_of_ble_eq_true rfl) (s_Seconds_fitsLeap k17.1 (by omega) (by omega)) (fun r h28 hq => ?_)
              obtain ⟨x30, rfl, bx30, rfl⟩ := hq
              refine A_if_eq (tgt := 93) d_Seconds_extend_75 (by decide) (fun c31 => ?_) (fun c31 => ?_)
              · refine A_iincv (z := (i8 + 1)) (L' := [some (av_R (some 158)), some (av_I a1), some (av_I a2), some (av_I (i8 + 1))]) d_Seconds_extend_93 rfl (w32_to (by omega) (by unfold i32; omega)) rfl ?_
                refine A_goto (tgt := 25) d_Seconds_extend_96 (by decide) ?_
                exact ih25 (i8 + 1) h16 (by omega) (by omega) k17 (by omega)
              · refine A_aload_n 0 d_Seconds_extend_78 rfl rfl ?_
                refine A_iload_n 1 d_Seconds_extend_79 rfl rfl ?_
                refine A_iconst d_Seconds_extend_80 rfl ?_
                refine A_iaddv (z := (a1 + 1)) d_Seconds_extend_81 (w32_to (by omega) (by unfold i32; omega)) ?_
                refine A_iload_n 2 d_Seconds_extend_82 rfl rfl ?_
                refine A_pc (pc' := 83) rfl ?_
                refine A_aload_n 0 d_Seconds_extend_83 rfl rfl ?_
                refine A_getIv (z := x11) T_ok d_Seconds_extend_84 f_Seconds_35 (xi_s k17.1 sf_158) ((eh16.1 _ _ (fun q => absurd q (by decide))).trans ex11.symm) ?_
                refine A_imulw d_Seconds_extend_87 (fun x33 _ _ _ => ?_)
                refine A_iload_n 3 d_Seconds_extend_88 rfl rfl ?_
                refine A_iaddw d_Seconds_extend_89 (fun x34 _ _ _ => ?_)
                refine A_callV2 m_Seconds_extend T_ok d_Seconds_extend_90 l_Seconds_53 k_Seconds_extend (xi_s k17.1 sf_158) rfl (by decide +kernel) (by decide) (Nat.le_of_ble_eq_true rfl) (z_Seconds_extend_4 k17.1 (by omega) (by omega)) (fun r h35 hq => ?_)
                obtain ⟨rfl, k36⟩ := hq
                have k37 := kF_t k17 k36 (fun _ q => q)
                refine A_iincv (z := (i8 + 1)) (L' := [some (av_R (some 158)), some (av_I a1), some (av_I a2), some (av_I (i8 + 1))]) d_Seconds_extend_93 rfl (w32_to (by omega) (by unfold i32; omega)) rfl ?_
                refine A_goto (tgt := 25) d_Seconds_extend_96 (by decide) ?_
                exact ih25 (i8 + 1) h35 (by omega) (by omega) k37 (by omega)
    exact lp25 _ 0 h (by omega) (by omega) k0 (Nat.lt_succ_self _)
theorem z_Seconds_extend_2 {G : cx_T} {s : Nat} {h : ah_T} (hx : xi s h) {a1 : Int} {a2 : Int} (la1 : 2 ≤ a1) (ua1 : a1 ≤ 2) : con G 10 0 0 m_Seconds_extend [av_R (some 158), av_I a1, av_I a2] h (fun r h' => r = none ∧ kF FCS s h h') := by
  refine con_of (L := [some (av_R (some 158)), some (av_I a1), some (av_I a2), none]) (by decide +kernel) (Nat.le_of_ble_eq_true rfl) rfl ?_
  have hS : isS s := hx.2.1
  have hs0 : s = 17 ∨ s = 80 := hS
  have k0 : kF FCS s h h := kF_0 hx
  refine A_locI 2 rfl (fun ra => ?_)
  obtain ⟨_, _⟩ := ra
  refine A_iload_n 1 d_Seconds_extend_0 rfl rfl ?_
  refine A_aload_n 0 d_Seconds_extend_1 rfl rfl ?_
  refine A_getIn (lo := 0) (hi := 8) T_ok d_Seconds_extend_2 f_Seconds_47 (xi_s k0.1 sf_158) (xi_g k0.1 (by decide) rgf_158_4) (fun x1 ex1 _ _ => ?_)
  refine A_icmp_ge (tgt := 17) d_Seconds_extend_5 (by decide) (fun c2 => ?_) (fun c2 => ?_)
  · refine A_aload_n 0 d_Seconds_extend_17 rfl rfl ?_
    refine A_iload_n 2 d_Seconds_extend_18 rfl rfl ?_
    refine A_callV1 m_Seconds_keep T_ok d_Seconds_extend_19 l_Seconds_57 k_Seconds_keep (xi_s k0.1 sf_158) rfl (by decide +kernel) (by decide) (Nat.le_of_ble_eq_true rfl) (z_Seconds_keep k0.1 ) (fun r h3 hq => ?_)
    obtain ⟨rfl, k4⟩ := hq
    have k5 := kF_t k0 k4 (fun _ q => q)
    exact A_vret d_Seconds_extend_22 (by decide) rfl ⟨rfl, k5⟩
  · refine A_iload_n 1 d_Seconds_extend_8 rfl rfl ?_
    refine A_aload_n 0 d_Seconds_extend_9 rfl rfl ?_
    refine A_getAv (z := some 161) T_ok d_Seconds_extend_10 f_Seconds_19 (xi_s k0.1 sf_158) (xi_r k0.1 rff_158_7) ?_
    refine A_alenN d_Seconds_extend_13 (xi_s k0.1 sf_161) (by decide) (by decide) ?_
    refine A_icmp_lt (tgt := 23) d_Seconds_extend_14 (by decide) (fun c7 => ?_) (fun c => False.elim (by omega))
    refine A_iconst d_Seconds_extend_23 rfl ?_
    refine A_istore_n 3 (L' := [some (av_R (some 158)), some (av_I a1), some (av_I a2), some (av_I 0)]) d_Seconds_extend_24 rfl (Nat.le_of_ble_eq_true rfl) rfl ?_
    have lp25 : ∀ (n : Nat) (i8 : Int) (h9 : ah_T) , 0 ≤ i8 → i8 ≤ 121 → kF FCS s h h9 → (122 - i8).toNat < n → aw G (rm_R 10 0 0) m_Seconds_extend 0 0 25 [some (av_R (some 158)), some (av_I a1), some (av_I a2), some (av_I i8)] [] h9 (fun r h' => r = none ∧ kF FCS s h h') := by
      intro n
      induction n with
      | zero => intro i8 h9 _ _ _ hm; omega
      | succ n ih25 =>
        intro i8 h9 hl0 hl1 k10 hm
        refine A_iload_n 3 d_Seconds_extend_25 rfl rfl ?_
        refine A_aload_n 0 d_Seconds_extend_26 rfl rfl ?_
        refine A_getIn (lo := 0) (hi := 121) T_ok d_Seconds_extend_27 f_Seconds_35 (xi_s k10.1 sf_158) (xi_g k10.1 (by decide) rgf_158_3) (fun x11 ex11 _ _ => ?_)
        refine A_icmp_ge (tgt := 99) d_Seconds_extend_30 (by decide) (fun c12 => ?_) (fun c12 => ?_)
        · exact A_vret d_Seconds_extend_99 (by decide) rfl ⟨rfl, k10⟩
        · refine A_aload_n 0 d_Seconds_extend_33 rfl rfl ?_
          refine A_getAv (z := some 161) T_ok d_Seconds_extend_34 f_Seconds_19 (xi_s k10.1 sf_158) (xi_r k10.1 rff_158_7) ?_
          refine A_iload_n 1 d_Seconds_extend_37 rfl rfl ?_
          refine A_aload_n 0 d_Seconds_extend_38 rfl rfl ?_
          refine A_getIf T_ok d_Seconds_extend_39 f_Seconds_32 (xi_s k10.1 sf_158) (fun x14 ex14 _ _ => ?_)
          refine A_pc (pc' := 42) rfl ?_
          refine A_iload_n 3 d_Seconds_extend_42 rfl rfl ?_
          refine A_iaddw d_Seconds_extend_43 (fun x15 _ _ _ => ?_)
          refine A_iastorek (KR := kF FCS s h) d_Seconds_extend_44 (xi_s k10.1 sf_161) (by omega) (by omega) (kF_j k10 (by decide) (ns_b rfl) (rgf_161 _) (by omega) (by omega)) (fun h16 k17 eh16 => ?_)
          refine A_aload_n 0 d_Seconds_extend_45 rfl rfl ?_
          refine A_iload_n 1 d_Seconds_extend_46 rfl rfl ?_
          refine A_callV1 m_Seconds_fitsAlone T_ok d_Seconds_extend_47 l_Seconds_61 k_Seconds_fitsAlone (xi_s k17.1 sf_158) rfl (by decide +kernel) (by decide) (Nat.le_of_ble_eq_true rfl) (s_Seconds_fitsAlone k17.1 (by omega) (by omega)) (fun r h18 hq => ?_)
          obtain ⟨x20, rfl, bx20, rfl⟩ := hq
          refine A_if_eq (tgt := 93) d_Seconds_extend_50 (by decide) (fun c21 => ?_) (fun c21 => ?_)
          · refine A_iincv (z := (i8 + 1)) (L' := [some (av_R (some 158)), some (av_I a1), some (av_I a2), some (av_I (i8 + 1))]) d_Seconds_extend_93 rfl (w32_to (by omega) (by unfold i32; omega)) rfl ?_
            refine A_goto (tgt := 25) d_Seconds_extend_96 (by decide) ?_
            exact ih25 (i8 + 1) h16 (by omega) (by omega) k17 (by omega)
          · refine A_iload_n 1 d_Seconds_extend_53 rfl rfl ?_
            refine A_if_eq (tgt := 65) d_Seconds_extend_54 (by decide) (fun c => False.elim (by omega)) (fun c22 => ?_)
            refine A_aload_n 0 d_Seconds_extend_57 rfl rfl ?_
            refine A_iload_n 1 d_Seconds_extend_58 rfl rfl ?_
            refine A_callV1 m_Seconds_fitsBehind T_ok d_Seconds_extend_59 l_Seconds_65 k_Seconds_fitsBehind (xi_s k17.1 sf_158) rfl (by decide +kernel) (by decide) (Nat.le_of_ble_eq_true rfl) (s_Seconds_fitsBehind k17.1 (by omega) (by omega)) (fun r h23 hq => ?_)
            obtain ⟨x25, rfl, bx25, rfl⟩ := hq
            refine A_if_eq (tgt := 93) d_Seconds_extend_62 (by decide) (fun c26 => ?_) (fun c26 => ?_)
            · refine A_iincv (z := (i8 + 1)) (L' := [some (av_R (some 158)), some (av_I a1), some (av_I a2), some (av_I (i8 + 1))]) d_Seconds_extend_93 rfl (w32_to (by omega) (by unfold i32; omega)) rfl ?_
              refine A_goto (tgt := 25) d_Seconds_extend_96 (by decide) ?_
              exact ih25 (i8 + 1) h16 (by omega) (by omega) k17 (by omega)
            · refine A_iload_n 1 d_Seconds_extend_65 rfl rfl ?_
              refine A_iconst d_Seconds_extend_66 rfl ?_
              refine A_icmp_lt (tgt := 78) d_Seconds_extend_67 (by decide) (fun c => False.elim (by omega)) (fun c27 => ?_)
              refine A_aload_n 0 d_Seconds_extend_70 rfl rfl ?_
              refine A_iload_n 1 d_Seconds_extend_71 rfl rfl ?_
              refine A_callV1 m_Seconds_fitsLeap T_ok d_Seconds_extend_72 l_Seconds_68 k_Seconds_fitsLeap (xi_s k17.1 sf_158) rfl (by decide +kernel) (by decide) (Nat.le_of_ble_eq_true rfl) (s_Seconds_fitsLeap k17.1 (by omega) (by omega)) (fun r h28 hq => ?_)
              obtain ⟨x30, rfl, bx30, rfl⟩ := hq
              refine A_if_eq (tgt := 93) d_Seconds_extend_75 (by decide) (fun c31 => ?_) (fun c31 => ?_)
              · refine A_iincv (z := (i8 + 1)) (L' := [some (av_R (some 158)), some (av_I a1), some (av_I a2), some (av_I (i8 + 1))]) d_Seconds_extend_93 rfl (w32_to (by omega) (by unfold i32; omega)) rfl ?_
                refine A_goto (tgt := 25) d_Seconds_extend_96 (by decide) ?_
                exact ih25 (i8 + 1) h16 (by omega) (by omega) k17 (by omega)
              · refine A_aload_n 0 d_Seconds_extend_78 rfl rfl ?_
                refine A_iload_n 1 d_Seconds_extend_79 rfl rfl ?_
                refine A_iconst d_Seconds_extend_80 rfl ?_
                refine A_iaddv (z := (a1 + 1)) d_Seconds_extend_81 (w32_to (by omega) (by unfold i32; omega)) ?_
                refine A_iload_n 2 d_Seconds_extend_82 rfl rfl ?_
                refine A_pc (pc' := 83) rfl ?_
                refine A_aload_n 0 d_Seconds_extend_83 rfl rfl ?_
                refine A_getIv (z := x11) T_ok d_Seconds_extend_84 f_Seconds_35 (xi_s k17.1 sf_158) ((eh16.1 _ _ (fun q => absurd q (by decide))).trans ex11.symm) ?_
                refine A_imulw d_Seconds_extend_87 (fun x33 _ _ _ => ?_)
                refine A_iload_n 3 d_Seconds_extend_88 rfl rfl ?_
                refine A_iaddw d_Seconds_extend_89 (fun x34 _ _ _ => ?_)
                refine A_callV2 m_Seconds_extend T_ok d_Seconds_extend_90 l_Seconds_53 k_Seconds_extend (xi_s k17.1 sf_158) rfl (by decide +kernel) (by decide) (Nat.le_of_ble_eq_true rfl) (z_Seconds_extend_3 k17.1 (by omega) (by omega)) (fun r h35 hq => ?_)
                obtain ⟨rfl, k36⟩ := hq
                have k37 := kF_t k17 k36 (fun _ q => q)
                refine A_iincv (z := (i8 + 1)) (L' := [some (av_R (some 158)), some (av_I a1), some (av_I a2), some (av_I (i8 + 1))]) d_Seconds_extend_93 rfl (w32_to (by omega) (by unfold i32; omega)) rfl ?_
                refine A_goto (tgt := 25) d_Seconds_extend_96 (by decide) ?_
                exact ih25 (i8 + 1) h35 (by omega) (by omega) k37 (by omega)
    exact lp25 _ 0 h (by omega) (by omega) k0 (Nat.lt_succ_self _)
theorem z_Seconds_extend_1 {G : cx_T} {s : Nat} {h : ah_T} (hx : xi s h) {a1 : Int} {a2 : Int} (la1 : 1 ≤ a1) (ua1 : a1 ≤ 1) : con G 11 0 0 m_Seconds_extend [av_R (some 158), av_I a1, av_I a2] h (fun r h' => r = none ∧ kF FCS s h h') := by
  refine con_of (L := [some (av_R (some 158)), some (av_I a1), some (av_I a2), none]) (by decide +kernel) (Nat.le_of_ble_eq_true rfl) rfl ?_
  have hS : isS s := hx.2.1
  have hs0 : s = 17 ∨ s = 80 := hS
  have k0 : kF FCS s h h := kF_0 hx
  refine A_locI 2 rfl (fun ra => ?_)
  obtain ⟨_, _⟩ := ra
  refine A_iload_n 1 d_Seconds_extend_0 rfl rfl ?_
  refine A_aload_n 0 d_Seconds_extend_1 rfl rfl ?_
  refine A_getIn (lo := 0) (hi := 8) T_ok d_Seconds_extend_2 f_Seconds_47 (xi_s k0.1 sf_158) (xi_g k0.1 (by decide) rgf_158_4) (fun x1 ex1 _ _ => ?_)
  refine A_icmp_ge (tgt := 17) d_Seconds_extend_5 (by decide) (fun c2 => ?_) (fun c2 => ?_)
  · refine A_aload_n 0 d_Seconds_extend_17 rfl rfl ?_
    refine A_iload_n 2 d_Seconds_extend_18 rfl rfl ?_
    refine A_callV1 m_Seconds_keep T_ok d_Seconds_extend_19 l_Seconds_57 k_Seconds_keep (xi_s k0.1 sf_158) rfl (by decide +kernel) (by decide) (Nat.le_of_ble_eq_true rfl) (z_Seconds_keep k0.1 ) (fun r h3 hq => ?_)
    obtain ⟨rfl, k4⟩ := hq
    have k5 := kF_t k0 k4 (fun _ q => q)
    exact A_vret d_Seconds_extend_22 (by decide) rfl ⟨rfl, k5⟩
  · refine A_iload_n 1 d_Seconds_extend_8 rfl rfl ?_
    refine A_aload_n 0 d_Seconds_extend_9 rfl rfl ?_
    refine A_getAv (z := some 161) T_ok d_Seconds_extend_10 f_Seconds_19 (xi_s k0.1 sf_158) (xi_r k0.1 rff_158_7) ?_
    refine A_alenN d_Seconds_extend_13 (xi_s k0.1 sf_161) (by decide) (by decide) ?_
    refine A_icmp_lt (tgt := 23) d_Seconds_extend_14 (by decide) (fun c7 => ?_) (fun c => False.elim (by omega))
    refine A_iconst d_Seconds_extend_23 rfl ?_
    refine A_istore_n 3 (L' := [some (av_R (some 158)), some (av_I a1), some (av_I a2), some (av_I 0)]) d_Seconds_extend_24 rfl (Nat.le_of_ble_eq_true rfl) rfl ?_
    have lp25 : ∀ (n : Nat) (i8 : Int) (h9 : ah_T) , 0 ≤ i8 → i8 ≤ 121 → kF FCS s h h9 → (122 - i8).toNat < n → aw G (rm_R 11 0 0) m_Seconds_extend 0 0 25 [some (av_R (some 158)), some (av_I a1), some (av_I a2), some (av_I i8)] [] h9 (fun r h' => r = none ∧ kF FCS s h h') := by
      intro n
      induction n with
      | zero => intro i8 h9 _ _ _ hm; omega
      | succ n ih25 =>
        intro i8 h9 hl0 hl1 k10 hm
        refine A_iload_n 3 d_Seconds_extend_25 rfl rfl ?_
        refine A_aload_n 0 d_Seconds_extend_26 rfl rfl ?_
        refine A_getIn (lo := 0) (hi := 121) T_ok d_Seconds_extend_27 f_Seconds_35 (xi_s k10.1 sf_158) (xi_g k10.1 (by decide) rgf_158_3) (fun x11 ex11 _ _ => ?_)
        refine A_icmp_ge (tgt := 99) d_Seconds_extend_30 (by decide) (fun c12 => ?_) (fun c12 => ?_)
        · exact A_vret d_Seconds_extend_99 (by decide) rfl ⟨rfl, k10⟩
        · refine A_aload_n 0 d_Seconds_extend_33 rfl rfl ?_
          refine A_getAv (z := some 161) T_ok d_Seconds_extend_34 f_Seconds_19 (xi_s k10.1 sf_158) (xi_r k10.1 rff_158_7) ?_
          refine A_iload_n 1 d_Seconds_extend_37 rfl rfl ?_
          refine A_aload_n 0 d_Seconds_extend_38 rfl rfl ?_
          refine A_getIf T_ok d_Seconds_extend_39 f_Seconds_32 (xi_s k10.1 sf_158) (fun x14 ex14 _ _ => ?_)
          refine A_pc (pc' := 42) rfl ?_
          refine A_iload_n 3 d_Seconds_extend_42 rfl rfl ?_
          refine A_iaddw d_Seconds_extend_43 (fun x15 _ _ _ => ?_)
          refine A_iastorek (KR := kF FCS s h) d_Seconds_extend_44 (xi_s k10.1 sf_161) (by omega) (by omega) (kF_j k10 (by decide) (ns_b rfl) (rgf_161 _) (by omega) (by omega)) (fun h16 k17 eh16 => ?_)
          refine A_aload_n 0 d_Seconds_extend_45 rfl rfl ?_
          refine A_iload_n 1 d_Seconds_extend_46 rfl rfl ?_
          refine A_callV1 m_Seconds_fitsAlone T_ok d_Seconds_extend_47 l_Seconds_61 k_Seconds_fitsAlone (xi_s k17.1 sf_158) rfl (by decide +kernel) (by decide) (Nat.le_of_ble_eq_true rfl) (s_Seconds_fitsAlone k17.1 (by omega) (by omega)) (fun r h18 hq => ?_)
          obtain ⟨x20, rfl, bx20, rfl⟩ := hq
          refine A_if_eq (tgt := 93) d_Seconds_extend_50 (by decide) (fun c21 => ?_) (fun c21 => ?_)
          · refine A_iincv (z := (i8 + 1)) (L' := [some (av_R (some 158)), some (av_I a1), some (av_I a2), some (av_I (i8 + 1))]) d_Seconds_extend_93 rfl (w32_to (by omega) (by unfold i32; omega)) rfl ?_
            refine A_goto (tgt := 25) d_Seconds_extend_96 (by decide) ?_
            exact ih25 (i8 + 1) h16 (by omega) (by omega) k17 (by omega)
          · refine A_iload_n 1 d_Seconds_extend_53 rfl rfl ?_
            refine A_if_eq (tgt := 65) d_Seconds_extend_54 (by decide) (fun c => False.elim (by omega)) (fun c22 => ?_)
            refine A_aload_n 0 d_Seconds_extend_57 rfl rfl ?_
            refine A_iload_n 1 d_Seconds_extend_58 rfl rfl ?_
            refine A_callV1 m_Seconds_fitsBehind T_ok d_Seconds_extend_59 l_Seconds_65 k_Seconds_fitsBehind (xi_s k17.1 sf_158) rfl (by decide +kernel) (by decide) (Nat.le_of_ble_eq_true rfl) (s_Seconds_fitsBehind k17.1 (by omega) (by omega)) (fun r h23 hq => ?_)
            obtain ⟨x25, rfl, bx25, rfl⟩ := hq
            refine A_if_eq (tgt := 93) d_Seconds_extend_62 (by decide) (fun c26 => ?_) (fun c26 => ?_)
            · refine A_iincv (z := (i8 + 1)) (L' := [some (av_R (some 158)), some (av_I a1), some (av_I a2), some (av_I (i8 + 1))]) d_Seconds_extend_93 rfl (w32_to (by omega) (by unfold i32; omega)) rfl ?_
              refine A_goto (tgt := 25) d_Seconds_extend_96 (by decide) ?_
              exact ih25 (i8 + 1) h16 (by omega) (by omega) k17 (by omega)
            · refine A_iload_n 1 d_Seconds_extend_65 rfl rfl ?_
              refine A_iconst d_Seconds_extend_66 rfl ?_
              refine A_icmp_lt (tgt := 78) d_Seconds_extend_67 (by decide) (fun c27 => ?_) (fun c => False.elim (by omega))
              refine A_aload_n 0 d_Seconds_extend_78 rfl rfl ?_
              refine A_iload_n 1 d_Seconds_extend_79 rfl rfl ?_
              refine A_iconst d_Seconds_extend_80 rfl ?_
              refine A_iaddv (z := (a1 + 1)) d_Seconds_extend_81 (w32_to (by omega) (by unfold i32; omega)) ?_
              refine A_iload_n 2 d_Seconds_extend_82 rfl rfl ?_
              refine A_pc (pc' := 83) rfl ?_
              refine A_aload_n 0 d_Seconds_extend_83 rfl rfl ?_
              refine A_getIv (z := x11) T_ok d_Seconds_extend_84 f_Seconds_35 (xi_s k17.1 sf_158) ((eh16.1 _ _ (fun q => absurd q (by decide))).trans ex11.symm) ?_
              refine A_imulw d_Seconds_extend_87 (fun x29 _ _ _ => ?_)
              refine A_iload_n 3 d_Seconds_extend_88 rfl rfl ?_
              refine A_iaddw d_Seconds_extend_89 (fun x30 _ _ _ => ?_)
              refine A_callV2 m_Seconds_extend T_ok d_Seconds_extend_90 l_Seconds_53 k_Seconds_extend (xi_s k17.1 sf_158) rfl (by decide +kernel) (by decide) (Nat.le_of_ble_eq_true rfl) (z_Seconds_extend_2 k17.1 (by omega) (by omega)) (fun r h31 hq => ?_)
              obtain ⟨rfl, k32⟩ := hq
              have k33 := kF_t k17 k32 (fun _ q => q)
              refine A_iincv (z := (i8 + 1)) (L' := [some (av_R (some 158)), some (av_I a1), some (av_I a2), some (av_I (i8 + 1))]) d_Seconds_extend_93 rfl (w32_to (by omega) (by unfold i32; omega)) rfl ?_
              refine A_goto (tgt := 25) d_Seconds_extend_96 (by decide) ?_
              exact ih25 (i8 + 1) h31 (by omega) (by omega) k33 (by omega)
    exact lp25 _ 0 h (by omega) (by omega) k0 (Nat.lt_succ_self _)
theorem z_Seconds_extend_0 {G : cx_T} {s : Nat} {h : ah_T} (hx : xi s h) {a1 : Int} {a2 : Int} (la1 : 0 ≤ a1) (ua1 : a1 ≤ 0) : con G 12 0 0 m_Seconds_extend [av_R (some 158), av_I a1, av_I a2] h (fun r h' => r = none ∧ kF FCS s h h') := by
  refine con_of (L := [some (av_R (some 158)), some (av_I a1), some (av_I a2), none]) (by decide +kernel) (Nat.le_of_ble_eq_true rfl) rfl ?_
  have hS : isS s := hx.2.1
  have hs0 : s = 17 ∨ s = 80 := hS
  have k0 : kF FCS s h h := kF_0 hx
  refine A_locI 2 rfl (fun ra => ?_)
  obtain ⟨_, _⟩ := ra
  refine A_iload_n 1 d_Seconds_extend_0 rfl rfl ?_
  refine A_aload_n 0 d_Seconds_extend_1 rfl rfl ?_
  refine A_getIn (lo := 0) (hi := 8) T_ok d_Seconds_extend_2 f_Seconds_47 (xi_s k0.1 sf_158) (xi_g k0.1 (by decide) rgf_158_4) (fun x1 ex1 _ _ => ?_)
  refine A_icmp_ge (tgt := 17) d_Seconds_extend_5 (by decide) (fun c2 => ?_) (fun c2 => ?_)
  · refine A_aload_n 0 d_Seconds_extend_17 rfl rfl ?_
    refine A_iload_n 2 d_Seconds_extend_18 rfl rfl ?_
    refine A_callV1 m_Seconds_keep T_ok d_Seconds_extend_19 l_Seconds_57 k_Seconds_keep (xi_s k0.1 sf_158) rfl (by decide +kernel) (by decide) (Nat.le_of_ble_eq_true rfl) (z_Seconds_keep k0.1 ) (fun r h3 hq => ?_)
    obtain ⟨rfl, k4⟩ := hq
    have k5 := kF_t k0 k4 (fun _ q => q)
    exact A_vret d_Seconds_extend_22 (by decide) rfl ⟨rfl, k5⟩
  · refine A_iload_n 1 d_Seconds_extend_8 rfl rfl ?_
    refine A_aload_n 0 d_Seconds_extend_9 rfl rfl ?_
    refine A_getAv (z := some 161) T_ok d_Seconds_extend_10 f_Seconds_19 (xi_s k0.1 sf_158) (xi_r k0.1 rff_158_7) ?_
    refine A_alenN d_Seconds_extend_13 (xi_s k0.1 sf_161) (by decide) (by decide) ?_
    refine A_icmp_lt (tgt := 23) d_Seconds_extend_14 (by decide) (fun c7 => ?_) (fun c => False.elim (by omega))
    refine A_iconst d_Seconds_extend_23 rfl ?_
    refine A_istore_n 3 (L' := [some (av_R (some 158)), some (av_I a1), some (av_I a2), some (av_I 0)]) d_Seconds_extend_24 rfl (Nat.le_of_ble_eq_true rfl) rfl ?_
    have lp25 : ∀ (n : Nat) (i8 : Int) (h9 : ah_T) , 0 ≤ i8 → i8 ≤ 121 → kF FCS s h h9 → (122 - i8).toNat < n → aw G (rm_R 12 0 0) m_Seconds_extend 0 0 25 [some (av_R (some 158)), some (av_I a1), some (av_I a2), some (av_I i8)] [] h9 (fun r h' => r = none ∧ kF FCS s h h') := by
      intro n
      induction n with
      | zero => intro i8 h9 _ _ _ hm; omega
      | succ n ih25 =>
        intro i8 h9 hl0 hl1 k10 hm
        refine A_iload_n 3 d_Seconds_extend_25 rfl rfl ?_
        refine A_aload_n 0 d_Seconds_extend_26 rfl rfl ?_
        refine A_getIn (lo := 0) (hi := 121) T_ok d_Seconds_extend_27 f_Seconds_35 (xi_s k10.1 sf_158) (xi_g k10.1 (by decide) rgf_158_3) (fun x11 ex11 _ _ => ?_)
        refine A_icmp_ge (tgt := 99) d_Seconds_extend_30 (by decide) (fun c12 => ?_) (fun c12 => ?_)
        · exact A_vret d_Seconds_extend_99 (by decide) rfl ⟨rfl, k10⟩
        · refine A_aload_n 0 d_Seconds_extend_33 rfl rfl ?_
          refine A_getAv (z := some 161) T_ok d_Seconds_extend_34 f_Seconds_19 (xi_s k10.1 sf_158) (xi_r k10.1 rff_158_7) ?_
          refine A_iload_n 1 d_Seconds_extend_37 rfl rfl ?_
          refine A_aload_n 0 d_Seconds_extend_38 rfl rfl ?_
          refine A_getIf T_ok d_Seconds_extend_39 f_Seconds_32 (xi_s k10.1 sf_158) (fun x14 ex14 _ _ => ?_)
          refine A_pc (pc' := 42) rfl ?_
          refine A_iload_n 3 d_Seconds_extend_42 rfl rfl ?_
          refine A_iaddw d_Seconds_extend_43 (fun x15 _ _ _ => ?_)
          refine A_iastorek (KR := kF FCS s h) d_Seconds_extend_44 (xi_s k10.1 sf_161) (by omega) (by omega) (kF_j k10 (by decide) (ns_b rfl) (rgf_161 _) (by omega) (by omega)) (fun h16 k17 eh16 => ?_)
          refine A_aload_n 0 d_Seconds_extend_45 rfl rfl ?_
          refine A_iload_n 1 d_Seconds_extend_46 rfl rfl ?_
          refine A_callV1 m_Seconds_fitsAlone T_ok d_Seconds_extend_47 l_Seconds_61 k_Seconds_fitsAlone (xi_s k17.1 sf_158) rfl (by decide +kernel) (by decide) (Nat.le_of_ble_eq_true rfl) (s_Seconds_fitsAlone k17.1 (by omega) (by omega)) (fun r h18 hq => ?_)
          obtain ⟨x20, rfl, bx20, rfl⟩ := hq
          refine A_if_eq (tgt := 93) d_Seconds_extend_50 (by decide) (fun c21 => ?_) (fun c21 => ?_)
          · refine A_iincv (z := (i8 + 1)) (L' := [some (av_R (some 158)), some (av_I a1), some (av_I a2), some (av_I (i8 + 1))]) d_Seconds_extend_93 rfl (w32_to (by omega) (by unfold i32; omega)) rfl ?_
            refine A_goto (tgt := 25) d_Seconds_extend_96 (by decide) ?_
            exact ih25 (i8 + 1) h16 (by omega) (by omega) k17 (by omega)
          · refine A_iload_n 1 d_Seconds_extend_53 rfl rfl ?_
            refine A_if_eq (tgt := 65) d_Seconds_extend_54 (by decide) (fun c22 => ?_) (fun c => False.elim (by omega))
            refine A_iload_n 1 d_Seconds_extend_65 rfl rfl ?_
            refine A_iconst d_Seconds_extend_66 rfl ?_
            refine A_icmp_lt (tgt := 78) d_Seconds_extend_67 (by decide) (fun c23 => ?_) (fun c => False.elim (by omega))
            refine A_aload_n 0 d_Seconds_extend_78 rfl rfl ?_
            refine A_iload_n 1 d_Seconds_extend_79 rfl rfl ?_
            refine A_iconst d_Seconds_extend_80 rfl ?_
            refine A_iaddv (z := (a1 + 1)) d_Seconds_extend_81 (w32_to (by omega) (by unfold i32; omega)) ?_
            refine A_iload_n 2 d_Seconds_extend_82 rfl rfl ?_
            refine A_pc (pc' := 83) rfl ?_
            refine A_aload_n 0 d_Seconds_extend_83 rfl rfl ?_
            refine A_getIv (z := x11) T_ok d_Seconds_extend_84 f_Seconds_35 (xi_s k17.1 sf_158) ((eh16.1 _ _ (fun q => absurd q (by decide))).trans ex11.symm) ?_
            refine A_imulw d_Seconds_extend_87 (fun x25 _ _ _ => ?_)
            refine A_iload_n 3 d_Seconds_extend_88 rfl rfl ?_
            refine A_iaddw d_Seconds_extend_89 (fun x26 _ _ _ => ?_)
            refine A_callV2 m_Seconds_extend T_ok d_Seconds_extend_90 l_Seconds_53 k_Seconds_extend (xi_s k17.1 sf_158) rfl (by decide +kernel) (by decide) (Nat.le_of_ble_eq_true rfl) (z_Seconds_extend_1 k17.1 (by omega) (by omega)) (fun r h27 hq => ?_)
            obtain ⟨rfl, k28⟩ := hq
            have k29 := kF_t k17 k28 (fun _ q => q)
            refine A_iincv (z := (i8 + 1)) (L' := [some (av_R (some 158)), some (av_I a1), some (av_I a2), some (av_I (i8 + 1))]) d_Seconds_extend_93 rfl (w32_to (by omega) (by unfold i32; omega)) rfl ?_
            refine A_goto (tgt := 25) d_Seconds_extend_96 (by decide) ?_
            exact ih25 (i8 + 1) h27 (by omega) (by omega) k29 (by omega)
    exact lp25 _ 0 h (by omega) (by omega) k0 (Nat.lt_succ_self _)
theorem z_Seconds_find {G : cx_T} {s : Nat} {h : ah_T} (hx : xi s h) {a1 : Nat} {a2 : Int} {a3 : Int} {a4 : Int} (ha1 : isS a1) (la2 : 0 ≤ a2) (ua2 : a2 ≤ 120) (la3 : 0 ≤ a3) (ua3 : a3 ≤ 120) (hlt : a2 ≤ a3) : con G 13 0 0 m_Seconds_find [av_R (some 158), av_R (some a1), av_I a2, av_I a3, av_I a4] h (fun r h' => ∃ z, r = some (av_I z) ∧ ((-2147483648) ≤ z ∧ z ≤ 2147483647) ∧ kF FCS s h h') := by
  refine con_of (L := [some (av_R (some 158)), some (av_R (some a1)), some (av_I a2), some (av_I a3), some (av_I a4), none, none, none]) (by decide +kernel) (Nat.le_of_ble_eq_true rfl) rfl ?_
  have hS : isS s := hx.2.1
  have hs0 : s = 17 ∨ s = 80 := hS
  have k0 : kF FCS s h h := kF_0 hx
  refine A_locI 4 rfl (fun ra => ?_)
  obtain ⟨_, _⟩ := ra
  refine A_iload_n 3 d_Seconds_find_0 rfl rfl ?_
  refine A_iload_n 2 d_Seconds_find_1 rfl rfl ?_
  refine A_isubv (z := (a3 - a2)) d_Seconds_find_2 (w32_to (by omega) (by unfold i32; omega)) ?_
  refine A_iconst d_Seconds_find_3 rfl ?_
  refine A_iaddv (z := (a3 - a2 + 1)) d_Seconds_find_4 (w32_to (by omega) (by unfold i32; omega)) ?_
  refine A_pc (pc' := 5) rfl ?_
  refine A_istore (L' := [some (av_R (some 158)), some (av_R (some a1)), some (av_I a2), some (av_I a3), some (av_I a4), some (av_I (a3 - a2 + 1)), none, none]) d_Seconds_find_5 (Nat.le_of_ble_eq_true rfl) rfl ?_
  refine A_iconst d_Seconds_find_7 rfl ?_
  refine A_istore (L' := [some (av_R (some 158)), some (av_R (some a1)), some (av_I a2), some (av_I a3), some (av_I a4), some (av_I (a3 - a2 + 1)), some (av_I 1), none]) d_Seconds_find_8 (Nat.le_of_ble_eq_true rfl) rfl ?_
  refine A_iconst d_Seconds_find_10 rfl ?_
  refine A_istore (L' := [some (av_R (some 158)), some (av_R (some a1)), some (av_I a2), some (av_I a3), some (av_I a4), some (av_I (a3 - a2 + 1)), some (av_I 1), some (av_I 0)]) d_Seconds_find_11 (Nat.le_of_ble_eq_true rfl) rfl ?_
  have lp13 : ∀ (n : Nat) (i1 i2 : Int) , (-2147483648) ≤ i1 → i1 ≤ 100000 → 0 ≤ i2 → i2 ≤ 8 → (9 - i2).toNat < n → aw G (rm_R 13 0 0) m_Seconds_find 0 0 13 [some (av_R (some 158)), some (av_R (some a1)), some (av_I a2), some (av_I a3), some (av_I a4), some (av_I (a3 - a2 + 1)), some (av_I i1), some (av_I i2)] [] h (fun r h' => ∃ z, r = some (av_I z) ∧ ((-2147483648) ≤ z ∧ z ≤ 2147483647) ∧ kF FCS s h h') := by
    intro n
    induction n with
    | zero => intro i1 i2 _ _ _ _ hm; omega
    | succ n ih13 =>
      intro i1 i2 hl0 hl1 hl2 hl3 hm
      refine A_iload d_Seconds_find_13 rfl ?_
      refine A_aload_n 1 d_Seconds_find_15 rfl rfl ?_
      refine A_getIn (lo := 0) (hi := 8) T_ok d_Seconds_find_16 f_Seconds_26 (xs_S k0.1 ha1) (xi_g k0.1 (lt1_S ha1) (rg_S_6 ha1)) (fun x3 ex3 _ _ => ?_)
      refine A_icmp_ge (tgt := 45) d_Seconds_find_19 (by decide) (fun c4 => ?_) (fun c4 => ?_)
      · refine A_aload_n 0 d_Seconds_find_45 rfl rfl ?_
        refine A_iload_n 2 d_Seconds_find_46 rfl rfl ?_
        refine A_putIk (KR := kF FCS s h) T_ok d_Seconds_find_47 f_Seconds_32 (xi_s k0.1 sf_158) fin_f (kF_j k0 (by decide) (ns_b rfl) rgf_158_2 (by omega) (by omega)) (fun h5 k6 eh5 => ?_)
        refine A_aload_n 0 d_Seconds_find_50 rfl rfl ?_
        refine A_iload d_Seconds_find_51 rfl ?_
        refine A_pc (pc' := 53) rfl ?_
        refine A_putIk (KR := kF FCS s h) T_ok d_Seconds_find_53 f_Seconds_35 (xi_s k6.1 sf_158) fin_f (kF_j k6 (by decide) (ns_b rfl) rgf_158_3 (by omega) (by omega)) (fun h7 k8 eh7 => ?_)
        refine A_aload_n 0 d_Seconds_find_56 rfl rfl ?_
        refine A_iload d_Seconds_find_57 rfl ?_
        refine A_putIk (KR := kF FCS s h) T_ok d_Seconds_find_59 f_Seconds_38 (xi_s k8.1 sf_158) fin_f (kF_j k8 (by decide) (ns_b rfl) rgf_158_5 (by omega) (by omega)) (fun h9 k10 eh9 => ?_)
        refine A_aload_n 0 d_Seconds_find_62 rfl rfl ?_
        refine A_aload_n 1 d_Seconds_find_63 rfl rfl ?_
        refine A_pc (pc' := 64) rfl ?_
        refine A_getIv (z := x3) T_ok d_Seconds_find_64 f_Seconds_26 (xs_S k10.1 ha1) ((eh9.1 _ _ (fun q => by omega)).trans ((eh7.1 _ _ (fun q => by omega)).trans ((eh5.1 _ _ (fun q => by omega)).trans ex3.symm))) ?_
        refine A_bipush d_Seconds_find_67 rfl ?_
        refine A_mmin d_Seconds_find_69 lm_Seconds_41 ma_min (by decide) (by decide) (Nat.le_of_ble_eq_true rfl) rfl ?_
        refine A_nrI (fun x12 ex12 _ _ => ?_)
        have bx12 := mmin_r ex12
        refine A_putIk (KR := kF FCS s h) T_ok d_Seconds_find_72 f_Seconds_47 (xi_s k10.1 sf_158) fin_f (kF_j k10 (by decide) (ns_b rfl) rgf_158_4 (by omega) (by omega)) (fun h13 k14 eh13 => ?_)
        refine A_iconst d_Seconds_find_75 rfl ?_
        refine A_istore (L' := [some (av_R (some 158)), some (av_R (some a1)), some (av_I a2), some (av_I a3), some (av_I a4), some (av_I (a3 - a2 + 1)), some (av_I i1), some (av_I 0)]) d_Seconds_find_76 (Nat.le_of_ble_eq_true rfl) rfl ?_
        have lp78 : ∀ (n : Nat) (i15 : Int) (h16 : ah_T) , 0 ≤ i15 → i15 ≤ 8 → kF FCS s h h16 → (9 - i15).toNat < n → aw G (rm_R 13 0 0) m_Seconds_find 0 0 78 [some (av_R (some 158)), some (av_R (some a1)), some (av_I a2), some (av_I a3), some (av_I a4), some (av_I (a3 - a2 + 1)), some (av_I i1), some (av_I i15)] [] h16 (fun r h' => ∃ z, r = some (av_I z) ∧ ((-2147483648) ≤ z ∧ z ≤ 2147483647) ∧ kF FCS s h h') := by
          intro n
          induction n with
          | zero => intro i15 h16 _ _ _ hm; omega
          | succ n ih78 =>
            intro i15 h16 hl0 hl1 k17 hm
            refine A_iload d_Seconds_find_78 rfl ?_
            refine A_aload_n 0 d_Seconds_find_80 rfl rfl ?_
            refine A_getIn (lo := 0) (hi := 8) T_ok d_Seconds_find_81 f_Seconds_47 (xi_s k17.1 sf_158) (xi_g k17.1 (by decide) rgf_158_4) (fun x18 ex18 _ _ => ?_)
            refine A_icmp_ge (tgt := 107) d_Seconds_find_84 (by decide) (fun c19 => ?_) (fun c19 => ?_)
            · refine A_iconst d_Seconds_find_107 rfl ?_
              refine A_istore (L' := [some (av_R (some 158)), some (av_R (some a1)), some (av_I a2), some (av_I a3), some (av_I a4), some (av_I (a3 - a2 + 1)), some (av_I i1), some (av_I 0)]) d_Seconds_find_108 (Nat.le_of_ble_eq_true rfl) rfl ?_
              have lp110 : ∀ (n : Nat) (i20 : Int) (h21 : ah_T) , 0 ≤ i20 → i20 ≤ 1563 → kF FCS s h h21 → (1564 - i20).toNat < n → aw G (rm_R 13 0 0) m_Seconds_find 0 0 110 [some (av_R (some 158)), some (av_R (some a1)), some (av_I a2), some (av_I a3), some (av_I a4), some (av_I (a3 - a2 + 1)), some (av_I i1), some (av_I i20)] [] h21 (fun r h' => ∃ z, r = some (av_I z) ∧ ((-2147483648) ≤ z ∧ z ≤ 2147483647) ∧ kF FCS s h h') := by
                intro n
                induction n with
                | zero => intro i20 h21 _ _ _ hm; omega
                | succ n ih110 =>
                  intro i20 h21 hl0 hl1 k22 hm
                  refine A_iload d_Seconds_find_110 rfl ?_
                  refine A_aload_n 0 d_Seconds_find_112 rfl rfl ?_
                  refine A_getAv (z := some 159) T_ok d_Seconds_find_113 f_Seconds_11 (xi_s k22.1 sf_158) (xi_r k22.1 rff_158_0) ?_
                  refine A_alenN d_Seconds_find_116 (xi_s k22.1 sf_159) (by decide) (by decide) ?_
                  refine A_icmp_ge (tgt := 134) d_Seconds_find_117 (by decide) (fun c24 => ?_) (fun c24 => ?_)
                  · refine A_aload_n 0 d_Seconds_find_134 rfl rfl ?_
                    refine A_iconst d_Seconds_find_135 rfl ?_
                    refine A_putIk (KR := kF FCS s h) T_ok d_Seconds_find_136 f_Seconds_22 (xi_s k22.1 sf_158) fin_f (kF_j k22 (by decide) (ns_b rfl) rgf_158_1 (by omega) (by omega)) (fun h25 k26 eh25 => ?_)
                    refine A_aload_n 0 d_Seconds_find_139 rfl rfl ?_
                    refine A_iconst d_Seconds_find_140 rfl ?_
                    refine A_pc (pc' := 141) rfl ?_
                    refine A_iconst d_Seconds_find_141 rfl ?_
                    refine A_callV2 m_Seconds_extend T_ok d_Seconds_find_142 l_Seconds_53 k_Seconds_extend (xi_s k26.1 sf_158) rfl (by decide +kernel) (by decide) (Nat.le_of_ble_eq_true rfl) (z_Seconds_extend_0 k26.1 (by omega) (by omega)) (fun r h27 hq => ?_)
                    obtain ⟨rfl, k28⟩ := hq
                    have k29 := kF_t k26 k28 (fun _ q => q)
                    refine A_aload_n 0 d_Seconds_find_145 rfl rfl ?_
                    refine A_getIf T_ok d_Seconds_find_146 f_Seconds_22 (xi_s k29.1 sf_158) (fun x30 ex30 _ _ => ?_)
                    exact A_iret d_Seconds_find_149 (by decide) rfl ⟨_, rfl, ⟨by omega, by omega⟩, k29⟩
                  · refine A_aload_n 0 d_Seconds_find_120 rfl rfl ?_
                    refine A_getAv (z := some 159) T_ok d_Seconds_find_121 f_Seconds_11 (xi_s k22.1 sf_158) (xi_r k22.1 rff_158_0) ?_
                    refine A_iload d_Seconds_find_124 rfl ?_
                    refine A_lconst_0 d_Seconds_find_126 ?_
                    refine A_lastorek (KR := kF FCS s h) d_Seconds_find_127 (xi_s k22.1 sf_159) (by omega) (by omega) (kF_l k22 (by decide) (nl_b rfl)) (fun h32 k33 eh32 => ?_)
                    refine A_pc (pc' := 128) rfl ?_
                    refine A_iincv (z := (i20 + 1)) (L' := [some (av_R (some 158)), some (av_R (some a1)), some (av_I a2), some (av_I a3), some (av_I a4), some (av_I (a3 - a2 + 1)), some (av_I i1), some (av_I (i20 + 1))]) d_Seconds_find_128 rfl (w32_to (by omega) (by unfold i32; omega)) rfl ?_
                    refine A_goto (tgt := 110) d_Seconds_find_131 (by decide) ?_
                    exact ih110 (i20 + 1) h32 (by omega) (by omega) k33 (by omega)
              exact lp110 _ 0 h16 (by omega) (by omega) k17 (Nat.lt_succ_self _)
            · refine A_aload_n 0 d_Seconds_find_87 rfl rfl ?_
              refine A_getAv (z := some 160) T_ok d_Seconds_find_88 f_Seconds_15 (xi_s k17.1 sf_158) (xi_r k17.1 rff_158_6) ?_
              refine A_iload d_Seconds_find_91 rfl ?_
              refine A_aload_n 1 d_Seconds_find_93 rfl rfl ?_
              refine A_getAv (z := some (a1 + 2)) T_ok d_Seconds_find_94 f_Seconds_50 (xs_S k17.1 ha1) (xr_S_5 k17.1 ha1) ?_
              refine A_pc (pc' := 97) rfl ?_
              refine A_iload d_Seconds_find_97 rfl ?_
              refine A_ialoadf d_Seconds_find_99 (xs_S_5 k17.1 ha1) (by omega) (by omega) (fun x36 ex36 _ _ => ?_)
              refine A_iastorek (KR := kF FCS s h) d_Seconds_find_100 (xi_s k17.1 sf_160) (by omega) (by omega) (kF_j k17 (by decide) (ns_b rfl) (rgf_160 _) (by omega) (by omega)) (fun h37 k38 eh37 => ?_)
              refine A_iincv (z := (i15 + 1)) (L' := [some (av_R (some 158)), some (av_R (some a1)), some (av_I a2), some (av_I a3), some (av_I a4), some (av_I (a3 - a2 + 1)), some (av_I i1), some (av_I (i15 + 1))]) d_Seconds_find_101 rfl (w32_to (by omega) (by unfold i32; omega)) rfl ?_
              refine A_goto (tgt := 78) d_Seconds_find_104 (by decide) ?_
              exact ih78 (i15 + 1) h37 (by omega) (by omega) k38 (by omega)
        exact lp78 _ 0 h13 (by omega) (by omega) k14 (Nat.lt_succ_self _)
      · refine A_iload d_Seconds_find_22 rfl ?_
        refine A_iload d_Seconds_find_24 rfl ?_
        refine A_imulw d_Seconds_find_26 (fun x39 _ _ _ => ?_)
        refine A_istore (L' := [some (av_R (some 158)), some (av_R (some a1)), some (av_I a2), some (av_I a3), some (av_I a4), some (av_I (a3 - a2 + 1)), some (av_I x39), some (av_I i2)]) d_Seconds_find_27 (Nat.le_of_ble_eq_true rfl) rfl ?_
        refine A_iload d_Seconds_find_29 rfl ?_
        refine A_pc (pc' := 31) rfl ?_
        refine A_ldc (z := 100000) d_Seconds_find_31 cst_Seconds_31 rfl ?_
        refine A_icmp_le (tgt := 39) d_Seconds_find_33 (by decide) (fun c40 => ?_) (fun c40 => ?_)
        · refine A_iincv (z := (i2 + 1)) (L' := [some (av_R (some 158)), some (av_R (some a1)), some (av_I a2), some (av_I a3), some (av_I a4), some (av_I (a3 - a2 + 1)), some (av_I x39), some (av_I (i2 + 1))]) d_Seconds_find_39 rfl (w32_to (by omega) (by unfold i32; omega)) rfl ?_
          refine A_goto (tgt := 13) d_Seconds_find_42 (by decide) ?_
          exact ih13 x39 (i2 + 1) (by omega) (by omega) (by omega) (by omega) (by omega)
        · refine A_bipush d_Seconds_find_36 rfl ?_
          exact A_iret d_Seconds_find_38 (by decide) rfl ⟨_, rfl, ⟨by omega, by omega⟩, k0⟩
  exact lp13 _ 1 0 (by omega) (by omega) (by omega) (by omega) (Nat.lt_succ_self _)
theorem z_PM_lines {G : cx_T} {s : Nat} {h : ah_T} (hx : xi s h) {a1 : Int} {a2 : Int} {a3 : Int}  : con G 14 0 0 m_PM_lines [av_R (some 0), av_I a1, av_I a2, av_I a3] h (fun r h' => ∃ z, r = some (av_I z) ∧ ((-2147483648) ≤ z ∧ z ≤ 2147483647) ∧ kF FCS s h h') := by
  refine con_of (L := [some (av_R (some 0)), some (av_I a1), some (av_I a2), some (av_I a3)]) (by decide +kernel) (Nat.le_of_ble_eq_true rfl) rfl ?_
  have hS : isS s := hx.2.1
  have hs0 : s = 17 ∨ s = 80 := hS
  have k0 : kF FCS s h h := kF_0 hx
  refine A_locI 1 rfl (fun ra => ?_)
  obtain ⟨_, _⟩ := ra
  refine A_locI 2 rfl (fun ra => ?_)
  obtain ⟨_, _⟩ := ra
  refine A_locI 3 rfl (fun ra => ?_)
  obtain ⟨_, _⟩ := ra
  refine A_iload_n 1 d_PM_lines_0 rfl rfl ?_
  refine A_if_lt (tgt := 26) d_PM_lines_1 (by decide) (fun c1 => ?_) (fun c1 => ?_)
  · refine A_iconst d_PM_lines_26 rfl ?_
    exact A_iret d_PM_lines_27 (by decide) rfl ⟨_, rfl, ⟨by omega, by omega⟩, k0⟩
  · refine A_iload_n 2 d_PM_lines_4 rfl rfl ?_
    refine A_bipush d_PM_lines_5 rfl ?_
    refine A_icmp_gt (tgt := 26) d_PM_lines_7 (by decide) (fun c2 => ?_) (fun c2 => ?_)
    · refine A_iconst d_PM_lines_26 rfl ?_
      exact A_iret d_PM_lines_27 (by decide) rfl ⟨_, rfl, ⟨by omega, by omega⟩, k0⟩
    · refine A_iload_n 1 d_PM_lines_10 rfl rfl ?_
      refine A_iload_n 2 d_PM_lines_11 rfl rfl ?_
      refine A_icmp_gt (tgt := 26) d_PM_lines_12 (by decide) (fun c3 => ?_) (fun c3 => ?_)
      · refine A_iconst d_PM_lines_26 rfl ?_
        exact A_iret d_PM_lines_27 (by decide) rfl ⟨_, rfl, ⟨by omega, by omega⟩, k0⟩
      · refine A_iload_n 3 d_PM_lines_15 rfl rfl ?_
        refine A_if_lt (tgt := 26) d_PM_lines_16 (by decide) (fun c4 => ?_) (fun c4 => ?_)
        · refine A_iconst d_PM_lines_26 rfl ?_
          exact A_iret d_PM_lines_27 (by decide) rfl ⟨_, rfl, ⟨by omega, by omega⟩, k0⟩
        · refine A_iload_n 3 d_PM_lines_19 rfl rfl ?_
          refine A_sipush d_PM_lines_20 rfl ?_
          refine A_icmp_le (tgt := 28) d_PM_lines_23 (by decide) (fun c5 => ?_) (fun c5 => ?_)
          · refine A_aload_n 0 d_PM_lines_28 rfl rfl ?_
            refine A_getOv (z := some (97 - s)) T_ok d_PM_lines_29 f_PM_27 (xi_s k0.1 sf_0) k0.1.2.2.1 ?_
            refine A_getIn (lo := 0) (hi := 8) T_ok d_PM_lines_32 f_PM_107 (xs_S k0.1 (isS_o hS)) (xi_g k0.1 (lt1_S (isS_o hS)) (rg_S_6 (isS_o hS))) (fun x7 ex7 _ _ => ?_)
            refine A_if_ne (tgt := 41) d_PM_lines_35 (by decide) (fun c8 => ?_) (fun c8 => ?_)
            · refine A_aload_n 0 d_PM_lines_41 rfl rfl ?_
              refine A_getOv (z := some 158) T_ok d_PM_lines_42 f_PM_58 (xi_s k0.1 sf_0) (xi_r k0.1 rff_0_8) ?_
              refine A_aload_n 0 d_PM_lines_45 rfl rfl ?_
              refine A_getOv (z := some (97 - s)) T_ok d_PM_lines_46 f_PM_27 (xi_s k0.1 sf_0) k0.1.2.2.1 ?_
              refine A_iload_n 1 d_PM_lines_49 rfl rfl ?_
              refine A_pc (pc' := 50) rfl ?_
              refine A_iload_n 2 d_PM_lines_50 rfl rfl ?_
              refine A_iload_n 3 d_PM_lines_51 rfl rfl ?_
              refine A_callV4 m_Seconds_find T_ok d_PM_lines_52 l_PM_180 k_Seconds_find (xi_s k0.1 sf_158) rfl (by decide +kernel) (by decide) (Nat.le_of_ble_eq_true rfl) (z_Seconds_find k0.1 (isS_o hS) (by omega) (by omega) (by omega) (by omega) (by omega)) (fun r h11 hq => ?_)
              obtain ⟨x13, rfl, ⟨_, _⟩, k12⟩ := hq
              have k14 := kF_t k0 k12 (fun _ q => q)
              exact A_iret d_PM_lines_55 (by decide) rfl ⟨_, rfl, ⟨by omega, by omega⟩, k14⟩
            · refine A_bipush d_PM_lines_38 rfl ?_
              exact A_iret d_PM_lines_40 (by decide) rfl ⟨_, rfl, ⟨by omega, by omega⟩, k0⟩
          · refine A_iconst d_PM_lines_26 rfl ?_
            exact A_iret d_PM_lines_27 (by decide) rfl ⟨_, rfl, ⟨by omega, by omega⟩, k0⟩
