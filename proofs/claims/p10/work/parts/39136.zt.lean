/-! ===== Trees: what its methods leave as it was ===== -/
abbrev FCT : Nat → Prop := fun a => a < 162 ∨ 164 ≤ a
theorem z_Trees_fill {G : cx_T} {s : Nat} {h : ah_T} (hx : xi s h) {a1 : Nat} {a2 : Int} {a3 : Int} (ha1 : isS a1) (la2 : 0 ≤ a2) (ua2 : a2 ≤ 12) (la3 : 0 ≤ a3) (ua3 : a3 ≤ 12) : con G 4 0 0 m_Trees_fill [av_R (some 162), av_R (some a1), av_I a2, av_I a3] h (fun r h' => r = none ∧ kF FCT s h h') := by
  refine con_of (L := [some (av_R (some 162)), some (av_R (some a1)), some (av_I a2), some (av_I a3), none, none]) (by decide +kernel) (Nat.le_of_ble_eq_true rfl) rfl ?_
  have hS : isS s := hx.2.1
  have hs0 : s = 17 ∨ s = 80 := hS
  have k0 : kF FCT s h h := kF_0 hx
  refine A_iconst d_Trees_fill_0 rfl ?_
  refine A_istore (L' := [some (av_R (some 162)), some (av_R (some a1)), some (av_I a2), some (av_I a3), some (av_I 0), none]) d_Trees_fill_1 (Nat.le_of_ble_eq_true rfl) rfl ?_
  have lp3 : ∀ (n : Nat) (i1 : Int) (h2 : ah_T) , 0 ≤ i1 → i1 ≤ 24 → kF FCT s h h2 → (25 - i1).toNat < n → aw G (rm_R 4 0 0) m_Trees_fill 0 0 3 [some (av_R (some 162)), some (av_R (some a1)), some (av_I a2), some (av_I a3), some (av_I i1), none] [] h2 (fun r h' => r = none ∧ kF FCT s h h') := by
    intro n
    induction n with
    | zero => intro i1 h2 _ _ _ hm; omega
    | succ n ih3 =>
      intro i1 h2 hl0 hl1 k3 hm
      refine A_iload d_Trees_fill_3 rfl ?_
      refine A_aload_n 1 d_Trees_fill_5 rfl rfl ?_
      refine A_getIn (lo := 0) (hi := 24) T_ok d_Trees_fill_6 f_Trees_39 (xs_S k3.1 ha1) (xi_g k3.1 (lt1_S ha1) (rg_S_10 ha1)) (fun x4 ex4 _ _ => ?_)
      refine A_icmp_ge (tgt := 79) d_Trees_fill_9 (by decide) (fun c5 => ?_) (fun c5 => ?_)
      · exact A_vret d_Trees_fill_79 (by decide) rfl ⟨rfl, k3⟩
      · refine A_aload_n 1 d_Trees_fill_12 rfl rfl ?_
        refine A_getAv (z := some (a1 + 3)) T_ok d_Trees_fill_13 f_Trees_32 (xs_S k3.1 ha1) (xr_S_7 k3.1 ha1) ?_
        refine A_iload d_Trees_fill_16 rfl ?_
        refine A_ialoadf d_Trees_fill_18 (xs_S_7 k3.1 ha1) (by omega) (by omega) (fun x7 ex7 _ _ => ?_)
        refine A_iload_n 2 d_Trees_fill_19 rfl rfl ?_
        refine A_pc (pc' := 20) rfl ?_
        refine A_iload_n 3 d_Trees_fill_20 rfl rfl ?_
        refine A_callS3 m_Trees_slot d_Trees_fill_21 l_Trees_19 k_Trees_slot (by decide +kernel) (by decide) (Nat.le_of_ble_eq_true rfl) (s_Trees_slot  ) (fun r h8 hq => ?_)
        obtain ⟨x10, rfl, ⟨_, _⟩, rfl⟩ := hq
        refine A_istore (L' := [some (av_R (some 162)), some (av_R (some a1)), some (av_I a2), some (av_I a3), some (av_I i1), some (av_I x10)]) d_Trees_fill_24 (Nat.le_of_ble_eq_true rfl) rfl ?_
        refine A_iload d_Trees_fill_26 rfl ?_
        refine A_if_lt (tgt := 73) d_Trees_fill_28 (by decide) (fun c11 => ?_) (fun c11 => ?_)
        · refine A_iincv (z := (i1 + 1)) (L' := [some (av_R (some 162)), some (av_R (some a1)), some (av_I a2), some (av_I a3), some (av_I (i1 + 1)), some (av_I x10)]) d_Trees_fill_73 rfl (w32_to (by omega) (by unfold i32; omega)) rfl ?_
          refine A_goto (tgt := 3) d_Trees_fill_76 (by decide) ?_
          refine A_free (L' := [some (av_R (some 162)), some (av_R (some a1)), some (av_I a2), some (av_I a3), some (av_I (i1 + 1)), none]) (And.intro rfl (And.intro rfl (And.intro rfl (And.intro rfl (And.intro rfl trivial))))) ?_
          exact ih3 (i1 + 1) h2 (by omega) (by omega) k3 (by omega)
        · refine A_iload d_Trees_fill_31 rfl ?_
          refine A_aload_n 0 d_Trees_fill_33 rfl rfl ?_
          refine A_getAv (z := some 163) T_ok d_Trees_fill_34 f_Trees_11 (xi_s k3.1 sf_162) (xi_r k3.1 rff_162_0) ?_
          refine A_alenN d_Trees_fill_37 (xi_s k3.1 sf_163) (by decide) (by decide) ?_
          refine A_icmp_ge (tgt := 73) d_Trees_fill_38 (by decide) (fun c13 => ?_) (fun c13 => ?_)
          · refine A_iincv (z := (i1 + 1)) (L' := [some (av_R (some 162)), some (av_R (some a1)), some (av_I a2), some (av_I a3), some (av_I (i1 + 1)), some (av_I x10)]) d_Trees_fill_73 rfl (w32_to (by omega) (by unfold i32; omega)) rfl ?_
            refine A_goto (tgt := 3) d_Trees_fill_76 (by decide) ?_
            refine A_free (L' := [some (av_R (some 162)), some (av_R (some a1)), some (av_I a2), some (av_I a3), some (av_I (i1 + 1)), none]) (And.intro rfl (And.intro rfl (And.intro rfl (And.intro rfl (And.intro rfl trivial))))) ?_
            exact ih3 (i1 + 1) h2 (by omega) (by omega) k3 (by omega)
          · refine A_aload_n 0 d_Trees_fill_41 rfl rfl ?_
            refine A_getAv (z := some 163) T_ok d_Trees_fill_42 f_Trees_11 (xi_s k3.1 sf_162) (xi_r k3.1 rff_162_0) ?_
            refine A_iload d_Trees_fill_45 rfl ?_
            refine A_aload_n 0 d_Trees_fill_47 rfl rfl ?_
            refine A_getAv (z := some 163) T_ok d_Trees_fill_48 f_Trees_11 (xi_s k3.1 sf_162) (xi_r k3.1 rff_162_0) ?_
            refine A_pc (pc' := 51) rfl ?_
            refine A_iload d_Trees_fill_51 rfl ?_
            refine A_ialoadf d_Trees_fill_53 (xi_s k3.1 sf_163) (by omega) (by omega) (fun x16 ex16 _ _ => ?_)
            refine A_i2l d_Trees_fill_54 ?_
            refine A_aload_n 0 d_Trees_fill_55 rfl rfl ?_
            refine A_aload_n 1 d_Trees_fill_56 rfl rfl ?_
            refine A_iload d_Trees_fill_57 rfl ?_
            refine A_pc (pc' := 59) rfl ?_
            refine A_iload_n 2 d_Trees_fill_59 rfl rfl ?_
            refine A_iload_n 3 d_Trees_fill_60 rfl rfl ?_
            refine A_callV4 m_Trees_treesBy T_ok d_Trees_fill_61 l_Trees_42 k_Trees_treesBy (xi_s k3.1 sf_162) rfl (by decide +kernel) (by decide) (Nat.le_of_ble_eq_true rfl) (s_Trees_treesBy k3.1 ha1 (by omega) (by omega) (by omega) (by omega) (by omega) (by omega)) (fun r h17 hq => ?_)
            obtain ⟨x19, rfl, ⟨_, _⟩, rfl⟩ := hq
            refine A_laddw d_Trees_fill_64 (fun x20 _ _ _ => ?_)
            refine A_ldc2 (z := 1000001) d_Trees_fill_65 cst_Trees_46 rfl ?_
            refine A_callS2 m_JMath_min_JJJ d_Trees_fill_68 l_Trees_48 k_JMath_min_JJJ (by decide +kernel) (by decide) (Nat.le_of_ble_eq_true rfl) (s_JMath_min_JJJ  ) (fun r h21 hq => ?_)
            obtain ⟨x23, rfl, ⟨_, _⟩, xx23, rfl⟩ := hq
            refine A_l2iw d_Trees_fill_71 (fun x24 _ _ _ => ?_)
            refine A_iastorek (KR := kF FCT s h) d_Trees_fill_72 (xi_s k3.1 sf_163) (by omega) (by omega) (kF_j k3 (by decide) (ns_b rfl) (rgf_163 _) (by omega) (by omega)) (fun h25 k26 eh25 => ?_)
            refine A_iincv (z := (i1 + 1)) (L' := [some (av_R (some 162)), some (av_R (some a1)), some (av_I a2), some (av_I a3), some (av_I (i1 + 1)), some (av_I x10)]) d_Trees_fill_73 rfl (w32_to (by omega) (by unfold i32; omega)) rfl ?_
            refine A_goto (tgt := 3) d_Trees_fill_76 (by decide) ?_
            refine A_free (L' := [some (av_R (some 162)), some (av_R (some a1)), some (av_I a2), some (av_I a3), some (av_I (i1 + 1)), none]) (And.intro rfl (And.intro rfl (And.intro rfl (And.intro rfl (And.intro rfl trivial))))) ?_
            exact ih3 (i1 + 1) h25 (by omega) (by omega) k26 (by omega)
  exact lp3 _ 0 h (by omega) (by omega) k0 (Nat.lt_succ_self _)
theorem z_Trees_find {G : cx_T} {s : Nat} {h : ah_T} (hx : xi s h) {a1 : Nat} (ha1 : isS a1) : con G 5 0 0 m_Trees_find [av_R (some 162), av_R (some a1)] h (fun r h' => ∃ z, r = some (av_I z) ∧ ((-2147483648) ≤ z ∧ z ≤ 2147483647) ∧ kF FCT s h h') := by
  refine con_of (L := [some (av_R (some 162)), some (av_R (some a1)), none, none]) (by decide +kernel) (Nat.le_of_ble_eq_true rfl) rfl ?_
  have hS : isS s := hx.2.1
  have hs0 : s = 17 ∨ s = 80 := hS
  have k0 : kF FCT s h h := kF_0 hx
  refine A_iconst d_Trees_find_0 rfl ?_
  refine A_istore_n 2 (L' := [some (av_R (some 162)), some (av_R (some a1)), some (av_I 0), none]) d_Trees_find_1 rfl (Nat.le_of_ble_eq_true rfl) rfl ?_
  have lp2 : ∀ (n : Nat) (i1 : Int) (h2 : ah_T) , 0 ≤ i1 → i1 ≤ 2704 → kF FCT s h h2 → (2705 - i1).toNat < n → aw G (rm_R 5 0 0) m_Trees_find 0 0 2 [some (av_R (some 162)), some (av_R (some a1)), some (av_I i1), none] [] h2 (fun r h' => ∃ z, r = some (av_I z) ∧ ((-2147483648) ≤ z ∧ z ≤ 2147483647) ∧ kF FCT s h h') := by
    intro n
    induction n with
    | zero => intro i1 h2 _ _ _ hm; omega
    | succ n ih2 =>
      intro i1 h2 hl0 hl1 k3 hm
      refine A_iload_n 2 d_Trees_find_2 rfl rfl ?_
      refine A_aload_n 0 d_Trees_find_3 rfl rfl ?_
      refine A_getAv (z := some 163) T_ok d_Trees_find_4 f_Trees_11 (xi_s k3.1 sf_162) (xi_r k3.1 rff_162_0) ?_
      refine A_alenN d_Trees_find_7 (xi_s k3.1 sf_163) (by decide) (by decide) ?_
      refine A_icmp_ge (tgt := 24) d_Trees_find_8 (by decide) (fun c5 => ?_) (fun c5 => ?_)
      · refine A_iconst d_Trees_find_24 rfl ?_
        refine A_istore_n 2 (L' := [some (av_R (some 162)), some (av_R (some a1)), some (av_I 1), none]) d_Trees_find_25 rfl (Nat.le_of_ble_eq_true rfl) rfl ?_
        have lp26 : ∀ (n : Nat) (i6 : Int) (h7 : ah_T) , 1 ≤ i6 → i6 ≤ 13 → kF FCT s h h7 → (14 - i6).toNat < n → aw G (rm_R 5 0 0) m_Trees_find 0 0 26 [some (av_R (some 162)), some (av_R (some a1)), some (av_I i6), none] [] h7 (fun r h' => ∃ z, r = some (av_I z) ∧ ((-2147483648) ≤ z ∧ z ≤ 2147483647) ∧ kF FCT s h h') := by
          intro n
          induction n with
          | zero => intro i6 h7 _ _ _ hm; omega
          | succ n ih26 =>
            intro i6 h7 hl0 hl1 k8 hm
            refine A_iload_n 2 d_Trees_find_26 rfl rfl ?_
            refine A_aload_n 1 d_Trees_find_27 rfl rfl ?_
            refine A_getIn (lo := 0) (hi := 12) T_ok d_Trees_find_28 f_Trees_23 (xs_S k8.1 ha1) (xi_g k8.1 (lt1_S ha1) (rg_S_12 ha1)) (fun x9 ex9 _ _ => ?_)
            refine A_icmp_gt (tgt := 67) d_Trees_find_31 (by decide) (fun c10 => ?_) (fun c10 => ?_)
            · refine A_aload_n 0 d_Trees_find_67 rfl rfl ?_
              refine A_aload_n 1 d_Trees_find_68 rfl rfl ?_
              refine A_getAv (z := some (a1 + 3)) T_ok d_Trees_find_69 f_Trees_32 (xs_S k8.1 ha1) (xr_S_7 k8.1 ha1) ?_
              refine A_iconst d_Trees_find_72 rfl ?_
              refine A_ialoadf d_Trees_find_73 (xs_S_7 k8.1 ha1) (by decide) (by decide) (fun x12 ex12 _ _ => ?_)
              refine A_pc (pc' := 74) rfl ?_
              refine A_iconst d_Trees_find_74 rfl ?_
              refine A_aload_n 1 d_Trees_find_75 rfl rfl ?_
              refine A_getIv (z := x9) T_ok d_Trees_find_76 f_Trees_23 (xs_S k8.1 ha1) ex9.symm ?_
              refine A_callV3 m_Trees_treesOf T_ok d_Trees_find_79 l_Trees_35 k_Trees_treesOf (xi_s k8.1 sf_162) rfl (by decide +kernel) (by decide) (Nat.le_of_ble_eq_true rfl) (s_Trees_treesOf k8.1 ) (fun r h14 hq => ?_)
              obtain ⟨x16, rfl, ⟨_, _⟩, rfl⟩ := hq
              refine A_istore_n 2 (L' := [some (av_R (some 162)), some (av_R (some a1)), some (av_I x16), none]) d_Trees_find_82 rfl (Nat.le_of_ble_eq_true rfl) rfl ?_
              refine A_iload_n 2 d_Trees_find_83 rfl rfl ?_
              refine A_ldc (z := 1000000) d_Trees_find_84 cst_Trees_38 rfl ?_
              refine A_icmp_le (tgt := 92) d_Trees_find_86 (by decide) (fun c17 => ?_) (fun c17 => ?_)
              · refine A_aload_n 0 d_Trees_find_92 rfl rfl ?_
                refine A_iload_n 2 d_Trees_find_93 rfl rfl ?_
                refine A_putIk (KR := kF FCT s h) T_ok d_Trees_find_94 f_Trees_15 (xi_s k8.1 sf_162) fin_f (kF_j k8 (by decide) (ns_b rfl) rgf_162_1 (by omega) (by omega)) (fun h18 k19 eh18 => ?_)
                refine A_iload_n 2 d_Trees_find_97 rfl rfl ?_
                exact A_iret d_Trees_find_98 (by decide) rfl ⟨_, rfl, ⟨by omega, by omega⟩, k19⟩
              · refine A_bipush d_Trees_find_89 rfl ?_
                exact A_iret d_Trees_find_91 (by decide) rfl ⟨_, rfl, ⟨by omega, by omega⟩, k8⟩
            · refine A_iconst d_Trees_find_34 rfl ?_
              refine A_istore_n 3 (L' := [some (av_R (some 162)), some (av_R (some a1)), some (av_I i6), some (av_I 0)]) d_Trees_find_35 rfl (Nat.le_of_ble_eq_true rfl) rfl ?_
              have lp36 : ∀ (n : Nat) (i20 : Int) (h21 : ah_T) , 0 ≤ i20 → i20 ≤ 12 → kF FCT s h h21 → (13 - i20).toNat < n → aw G (rm_R 5 0 0) m_Trees_find 0 0 36 [some (av_R (some 162)), some (av_R (some a1)), some (av_I i6), some (av_I i20)] [] h21 (fun r h' => ∃ z, r = some (av_I z) ∧ ((-2147483648) ≤ z ∧ z ≤ 2147483647) ∧ kF FCT s h h') := by
                intro n
                induction n with
                | zero => intro i20 h21 _ _ _ hm; omega
                | succ n ih36 =>
                  intro i20 h21 hl0 hl1 k22 hm
                  refine A_iload_n 3 d_Trees_find_36 rfl rfl ?_
                  refine A_iload_n 2 d_Trees_find_37 rfl rfl ?_
                  refine A_iaddv (z := (i20 + i6)) d_Trees_find_38 (w32_to (by omega) (by unfold i32; omega)) ?_
                  refine A_aload_n 1 d_Trees_find_39 rfl rfl ?_
                  refine A_getIn (lo := 0) (hi := 12) T_ok d_Trees_find_40 f_Trees_23 (xs_S k22.1 ha1) (xi_g k22.1 (lt1_S ha1) (rg_S_12 ha1)) (fun x23 ex23 _ _ => ?_)
                  refine A_pc (pc' := 43) rfl ?_
                  refine A_icmp_gt (tgt := 61) d_Trees_find_43 (by decide) (fun c24 => ?_) (fun c24 => ?_)
                  · refine A_iincv (z := (i6 + 1)) (L' := [some (av_R (some 162)), some (av_R (some a1)), some (av_I (i6 + 1)), some (av_I i20)]) d_Trees_find_61 rfl (w32_to (by omega) (by unfold i32; omega)) rfl ?_
                    refine A_goto (tgt := 26) d_Trees_find_64 (by decide) ?_
                    refine A_free (L' := [some (av_R (some 162)), some (av_R (some a1)), some (av_I (i6 + 1)), none]) (And.intro rfl (And.intro rfl (And.intro rfl trivial))) ?_
                    exact ih26 (i6 + 1) h21 (by omega) (by omega) k22 (by omega)
                  · refine A_aload_n 0 d_Trees_find_46 rfl rfl ?_
                    refine A_aload_n 1 d_Trees_find_47 rfl rfl ?_
                    refine A_iload_n 3 d_Trees_find_48 rfl rfl ?_
                    refine A_iload_n 3 d_Trees_find_49 rfl rfl ?_
                    refine A_iload_n 2 d_Trees_find_50 rfl rfl ?_
                    refine A_pc (pc' := 51) rfl ?_
                    refine A_iaddv (z := (i20 + i6)) d_Trees_find_51 (w32_to (by omega) (by unfold i32; omega)) ?_
                    refine A_callV3 m_Trees_fill T_ok d_Trees_find_52 l_Trees_28 k_Trees_fill (xi_s k22.1 sf_162) rfl (by decide +kernel) (by decide) (Nat.le_of_ble_eq_true rfl) (z_Trees_fill k22.1 ha1 (by omega) (by omega) (by omega) (by omega)) (fun r h25 hq => ?_)
                    obtain ⟨rfl, k26⟩ := hq
                    have k27 := kF_t k22 k26 (fun _ q => q)
                    refine A_iincv (z := (i20 + 1)) (L' := [some (av_R (some 162)), some (av_R (some a1)), some (av_I i6), some (av_I (i20 + 1))]) d_Trees_find_55 rfl (w32_to (by omega) (by unfold i32; omega)) rfl ?_
                    refine A_goto (tgt := 36) d_Trees_find_58 (by decide) ?_
                    exact ih36 (i20 + 1) h25 (by omega) (by omega) k27 (by omega)
              exact lp36 _ 0 h7 (by omega) (by omega) k8 (Nat.lt_succ_self _)
        exact lp26 _ 1 h2 (by omega) (by omega) k3 (Nat.lt_succ_self _)
      · refine A_aload_n 0 d_Trees_find_11 rfl rfl ?_
        refine A_getAv (z := some 163) T_ok d_Trees_find_12 f_Trees_11 (xi_s k3.1 sf_162) (xi_r k3.1 rff_162_0) ?_
        refine A_iload_n 2 d_Trees_find_15 rfl rfl ?_
        refine A_iconst d_Trees_find_16 rfl ?_
        refine A_iastorek (KR := kF FCT s h) d_Trees_find_17 (xi_s k3.1 sf_163) (by omega) (by omega) (kF_j k3 (by decide) (ns_b rfl) (rgf_163 _) (by omega) (by omega)) (fun h29 k30 eh29 => ?_)
        refine A_pc (pc' := 18) rfl ?_
        refine A_iincv (z := (i1 + 1)) (L' := [some (av_R (some 162)), some (av_R (some a1)), some (av_I (i1 + 1)), none]) d_Trees_find_18 rfl (w32_to (by omega) (by unfold i32; omega)) rfl ?_
        refine A_goto (tgt := 2) d_Trees_find_21 (by decide) ?_
        exact ih2 (i1 + 1) h29 (by omega) (by omega) k30 (by omega)
  exact lp2 _ 0 h (by omega) (by omega) k0 (Nat.lt_succ_self _)
theorem z_Trees_findRule {G : cx_T} {s : Nat} {h : ah_T} (hx : xi s h) {a1 : Nat} (ha1 : isS a1) : con G 4 0 0 m_Trees_findRule [av_R (some 162), av_R (some a1)] h (fun r h' => ∃ z, r = some (av_I z) ∧ ((-1) ≤ z ∧ z ≤ 23) ∧ kF FCT s h h') := by
  refine con_of (L := [some (av_R (some 162)), some (av_R (some a1)), none, none, none]) (by decide +kernel) (Nat.le_of_ble_eq_true rfl) rfl ?_
  have hS : isS s := hx.2.1
  have hs0 : s = 17 ∨ s = 80 := hS
  have k0 : kF FCT s h h := kF_0 hx
  refine A_iconst d_Trees_findRule_0 rfl ?_
  refine A_istore_n 2 (L' := [some (av_R (some 162)), some (av_R (some a1)), some (av_I 0), none, none]) d_Trees_findRule_1 rfl (Nat.le_of_ble_eq_true rfl) rfl ?_
  have lp2 : ∀ (n : Nat) (i1 : Int) (h2 : ah_T) , 0 ≤ i1 → i1 ≤ 24 → kF FCT s h h2 → (25 - i1).toNat < n → aw G (rm_R 4 0 0) m_Trees_findRule 0 0 2 [some (av_R (some 162)), some (av_R (some a1)), some (av_I i1), none, none] [] h2 (fun r h' => ∃ z, r = some (av_I z) ∧ ((-1) ≤ z ∧ z ≤ 23) ∧ kF FCT s h h') := by
    intro n
    induction n with
    | zero => intro i1 h2 _ _ _ hm; omega
    | succ n ih2 =>
      intro i1 h2 hl0 hl1 k3 hm
      refine A_iload_n 2 d_Trees_findRule_2 rfl rfl ?_
      refine A_aload_n 1 d_Trees_findRule_3 rfl rfl ?_
      refine A_getIn (lo := 0) (hi := 24) T_ok d_Trees_findRule_4 f_Trees_39 (xs_S k3.1 ha1) (xi_g k3.1 (lt1_S ha1) (rg_S_10 ha1)) (fun x4 ex4 _ _ => ?_)
      refine A_icmp_ge (tgt := 65) d_Trees_findRule_7 (by decide) (fun c5 => ?_) (fun c5 => ?_)
      · refine A_iconst d_Trees_findRule_65 rfl ?_
        exact A_iret d_Trees_findRule_66 (by decide) rfl ⟨_, rfl, ⟨by omega, by omega⟩, k3⟩
      · refine A_aload_n 1 d_Trees_findRule_10 rfl rfl ?_
        refine A_getAv (z := some (a1 + 3)) T_ok d_Trees_findRule_11 f_Trees_32 (xs_S k3.1 ha1) (xr_S_7 k3.1 ha1) ?_
        refine A_iload_n 2 d_Trees_findRule_14 rfl rfl ?_
        refine A_ialoadf d_Trees_findRule_15 (xs_S_7 k3.1 ha1) (by omega) (by omega) (fun x7 ex7 _ _ => ?_)
        refine A_aload_n 0 d_Trees_findRule_16 rfl rfl ?_
        refine A_pc (pc' := 17) rfl ?_
        refine A_getIf T_ok d_Trees_findRule_17 f_Trees_67 (xi_s k3.1 sf_162) (fun x8 ex8 _ _ => ?_)
        refine A_icmp_ne (tgt := 59) d_Trees_findRule_20 (by decide) (fun c9 => ?_) (fun c9 => ?_)
        · refine A_iincv (z := (i1 + 1)) (L' := [some (av_R (some 162)), some (av_R (some a1)), some (av_I (i1 + 1)), none, none]) d_Trees_findRule_59 rfl (w32_to (by omega) (by unfold i32; omega)) rfl ?_
          refine A_goto (tgt := 2) d_Trees_findRule_62 (by decide) ?_
          exact ih2 (i1 + 1) h2 (by omega) (by omega) k3 (by omega)
        · refine A_aload_n 0 d_Trees_findRule_23 rfl rfl ?_
          refine A_aload_n 1 d_Trees_findRule_24 rfl rfl ?_
          refine A_iload_n 2 d_Trees_findRule_25 rfl rfl ?_
          refine A_aload_n 0 d_Trees_findRule_26 rfl rfl ?_
          refine A_getIn (lo := 0) (hi := 12) T_ok d_Trees_findRule_27 f_Trees_70 (xi_s k3.1 sf_162) (xi_g k3.1 (by decide) rgf_162_3) (fun x10 ex10 _ _ => ?_)
          refine A_pc (pc' := 30) rfl ?_
          refine A_aload_n 0 d_Trees_findRule_30 rfl rfl ?_
          refine A_getIn (lo := 0) (hi := 12) T_ok d_Trees_findRule_31 f_Trees_73 (xi_s k3.1 sf_162) (xi_g k3.1 (by decide) rgf_162_4) (fun x11 ex11 _ _ => ?_)
          refine A_callV4 m_Trees_treesBy T_ok d_Trees_findRule_34 l_Trees_42 k_Trees_treesBy (xi_s k3.1 sf_162) rfl (by decide +kernel) (by decide) (Nat.le_of_ble_eq_true rfl) (s_Trees_treesBy k3.1 ha1 (by omega) (by omega) (by omega) (by omega) (by omega) (by omega)) (fun r h12 hq => ?_)
          obtain ⟨x14, rfl, ⟨_, _⟩, rfl⟩ := hq
          refine A_lstore_n 3 (L' := [some (av_R (some 162)), some (av_R (some a1)), some (av_I i1), some (av_L x14), none]) d_Trees_findRule_37 rfl (Nat.le_of_ble_eq_true rfl) rfl ?_
          refine A_aload_n 0 d_Trees_findRule_38 rfl rfl ?_
          refine A_getLf T_ok d_Trees_findRule_39 f_Trees_76 (xi_s k3.1 sf_162) (fun x15 ex15 _ _ => ?_)
          refine A_lload_n 3 d_Trees_findRule_42 rfl rfl ?_
          refine A_lcmpn d_Trees_findRule_43 (fun x16 lx16 ex16 gx16 _ _ => ?_)
          refine A_pc (pc' := 44) rfl ?_
          refine A_if_ge (tgt := 49) d_Trees_findRule_44 (by decide) (fun c17 => ?_) (fun c17 => ?_)
          · have mc17 : (x15 - x14) ≥ 0 := by omega
            refine A_aload_n 0 d_Trees_findRule_49 rfl rfl ?_
            refine A_dupR d_Trees_findRule_50 ?_
            refine A_getLv (z := x15) T_ok d_Trees_findRule_51 f_Trees_76 (xi_s k3.1 sf_162) ex15.symm ?_
            refine A_lload_n 3 d_Trees_findRule_54 rfl rfl ?_
            refine A_lsubw d_Trees_findRule_55 (fun x19 _ _ _ => ?_)
            refine A_pc (pc' := 56) rfl ?_
            refine A_putLk (KR := kF FCT s h) T_ok d_Trees_findRule_56 f_Trees_76 (xi_s k3.1 sf_162) fin_f (kF_l k3 (by decide) (nl_b rfl)) (fun h20 k21 eh20 => ?_)
            refine A_iincv (z := (i1 + 1)) (L' := [some (av_R (some 162)), some (av_R (some a1)), some (av_I (i1 + 1)), some (av_L x14), none]) d_Trees_findRule_59 rfl (w32_to (by omega) (by unfold i32; omega)) rfl ?_
            refine A_goto (tgt := 2) d_Trees_findRule_62 (by decide) ?_
            refine A_free (L' := [some (av_R (some 162)), some (av_R (some a1)), some (av_I (i1 + 1)), none, none]) (And.intro rfl (And.intro rfl (And.intro rfl trivial))) ?_
            exact ih2 (i1 + 1) h20 (by omega) (by omega) k21 (by omega)
          · have mc17 : (x15 - x14) < 0 := by omega
            refine A_iload_n 2 d_Trees_findRule_47 rfl rfl ?_
            exact A_iret d_Trees_findRule_48 (by decide) rfl ⟨_, rfl, ⟨by omega, by omega⟩, k3⟩
  exact lp2 _ 0 h (by omega) (by omega) k0 (Nat.lt_succ_self _)
theorem z_Trees_findCut {G : cx_T} {s : Nat} {h : ah_T} (hx : xi s h) {a1 : Nat} {a2 : Int} (ha1 : isS a1) (la2 : 0 ≤ a2) (ua2 : a2 ≤ 23) : con G 3 0 0 m_Trees_findCut [av_R (some 162), av_R (some a1), av_I a2] h (fun r h' => ∃ z, r = some (av_I z) ∧ (0 ≤ z ∧ z ≤ 12) ∧ kF FCT s h h') := by
  refine con_of (L := [some (av_R (some 162)), some (av_R (some a1)), some (av_I a2), none, none, none]) (by decide +kernel) (Nat.le_of_ble_eq_true rfl) rfl ?_
  have hS : isS s := hx.2.1
  have hs0 : s = 17 ∨ s = 80 := hS
  have k0 : kF FCT s h h := kF_0 hx
  refine A_aload_n 0 d_Trees_findCut_0 rfl rfl ?_
  refine A_getIn (lo := 0) (hi := 12) T_ok d_Trees_findCut_1 f_Trees_70 (xi_s k0.1 sf_162) (xi_g k0.1 (by decide) rgf_162_3) (fun x1 ex1 _ _ => ?_)
  refine A_iconst d_Trees_findCut_4 rfl ?_
  refine A_iaddv (z := (x1 + 1)) d_Trees_findCut_5 (w32_to (by omega) (by unfold i32; omega)) ?_
  refine A_istore_n 3 (L' := [some (av_R (some 162)), some (av_R (some a1)), some (av_I a2), some (av_I (x1 + 1)), none, none]) d_Trees_findCut_6 rfl (Nat.le_of_ble_eq_true rfl) rfl ?_
  have lp7 : ∀ (n : Nat) (i2 : Int) (h3 : ah_T) , 1 ≤ i2 → i2 ≤ 13 → kF FCT s h h3 → (14 - i2).toNat < n → aw G (rm_R 3 0 0) m_Trees_findCut 0 0 7 [some (av_R (some 162)), some (av_R (some a1)), some (av_I a2), some (av_I i2), none, none] [] h3 (fun r h' => ∃ z, r = some (av_I z) ∧ (0 ≤ z ∧ z ≤ 12) ∧ kF FCT s h h') := by
    intro n
    induction n with
    | zero => intro i2 h3 _ _ _ hm; omega
    | succ n ih7 =>
      intro i2 h3 hl0 hl1 k4 hm
      refine A_iload_n 3 d_Trees_findCut_7 rfl rfl ?_
      refine A_aload_n 0 d_Trees_findCut_8 rfl rfl ?_
      refine A_getIn (lo := 0) (hi := 12) T_ok d_Trees_findCut_9 f_Trees_73 (xi_s k4.1 sf_162) (xi_g k4.1 (by decide) rgf_162_4) (fun x5 ex5 _ _ => ?_)
      refine A_icmp_ge (tgt := 61) d_Trees_findCut_12 (by decide) (fun c6 => ?_) (fun c6 => ?_)
      · refine A_aload_n 0 d_Trees_findCut_61 rfl rfl ?_
        refine A_getIv (z := x5) T_ok d_Trees_findCut_62 f_Trees_73 (xi_s k4.1 sf_162) ex5.symm ?_
        exact A_iret d_Trees_findCut_65 (by decide) rfl ⟨_, rfl, ⟨by omega, by omega⟩, k4⟩
      · refine A_aload_n 0 d_Trees_findCut_15 rfl rfl ?_
        refine A_aload_n 1 d_Trees_findCut_16 rfl rfl ?_
        refine A_iload_n 2 d_Trees_findCut_17 rfl rfl ?_
        refine A_aload_n 0 d_Trees_findCut_18 rfl rfl ?_
        refine A_getIn (lo := 0) (hi := 12) T_ok d_Trees_findCut_19 f_Trees_70 (xi_s k4.1 sf_162) (xi_g k4.1 (by decide) rgf_162_3) (fun x8 ex8 _ _ => ?_)
        refine A_pc (pc' := 22) rfl ?_
        refine A_iload_n 3 d_Trees_findCut_22 rfl rfl ?_
        refine A_aload_n 0 d_Trees_findCut_23 rfl rfl ?_
        refine A_getIv (z := x5) T_ok d_Trees_findCut_24 f_Trees_73 (xi_s k4.1 sf_162) ex5.symm ?_
        refine A_callV5 m_Trees_treesCut T_ok d_Trees_findCut_27 l_Trees_63 k_Trees_treesCut (xi_s k4.1 sf_162) rfl (by decide +kernel) (by decide) (Nat.le_of_ble_eq_true rfl) (s_Trees_treesCut k4.1 ha1 (by omega) (by omega)) (fun r h10 hq => ?_)
        obtain ⟨x12, rfl, ⟨_, _⟩, rfl⟩ := hq
        refine A_lstore (L' := [some (av_R (some 162)), some (av_R (some a1)), some (av_I a2), some (av_I i2), some (av_L x12), none]) d_Trees_findCut_30 (Nat.le_of_ble_eq_true rfl) rfl ?_
        refine A_aload_n 0 d_Trees_findCut_32 rfl rfl ?_
        refine A_getLf T_ok d_Trees_findCut_33 f_Trees_76 (xi_s k4.1 sf_162) (fun x13 ex13 _ _ => ?_)
        refine A_lload d_Trees_findCut_36 rfl ?_
        refine A_lcmpn d_Trees_findCut_38 (fun x14 lx14 ex14 gx14 _ _ => ?_)
        refine A_pc (pc' := 39) rfl ?_
        refine A_if_ge (tgt := 44) d_Trees_findCut_39 (by decide) (fun c15 => ?_) (fun c15 => ?_)
        · have mc15 : (x13 - x12) ≥ 0 := by omega
          refine A_aload_n 0 d_Trees_findCut_44 rfl rfl ?_
          refine A_dupR d_Trees_findCut_45 ?_
          refine A_getLv (z := x13) T_ok d_Trees_findCut_46 f_Trees_76 (xi_s k4.1 sf_162) ex13.symm ?_
          refine A_lload d_Trees_findCut_49 rfl ?_
          refine A_lsubw d_Trees_findCut_51 (fun x17 _ _ _ => ?_)
          refine A_pc (pc' := 52) rfl ?_
          refine A_putLk (KR := kF FCT s h) T_ok d_Trees_findCut_52 f_Trees_76 (xi_s k4.1 sf_162) fin_f (kF_l k4 (by decide) (nl_b rfl)) (fun h18 k19 eh18 => ?_)
          refine A_iincv (z := (i2 + 1)) (L' := [some (av_R (some 162)), some (av_R (some a1)), some (av_I a2), some (av_I (i2 + 1)), some (av_L x12), none]) d_Trees_findCut_55 rfl (w32_to (by omega) (by unfold i32; omega)) rfl ?_
          refine A_goto (tgt := 7) d_Trees_findCut_58 (by decide) ?_
          refine A_free (L' := [some (av_R (some 162)), some (av_R (some a1)), some (av_I a2), some (av_I (i2 + 1)), none, none]) (And.intro rfl (And.intro rfl (And.intro rfl (And.intro rfl trivial)))) ?_
          exact ih7 (i2 + 1) h18 (by omega) (by omega) k19 (by omega)
        · have mc15 : (x13 - x12) < 0 := by omega
          refine A_iload_n 3 d_Trees_findCut_42 rfl rfl ?_
          exact A_iret d_Trees_findCut_43 (by decide) rfl ⟨_, rfl, ⟨by omega, by omega⟩, k4⟩
  exact lp7 _ (x1 + 1) h (by omega) (by omega) k0 (Nat.lt_succ_self _)
theorem z_Trees_goDown {G : cx_T} {s : Nat} {h : ah_T} (hx : xi s h) {a1 : Nat} {a2 : Int} {a3 : Int} {a4 : Int} (ha1 : isS a1) (la2 : 0 ≤ a2) (ua2 : a2 ≤ 23) (la3 : 0 ≤ a3) (ua3 : a3 ≤ 12) (ba4 : a4 = 0 ∨ a4 = 1) : con G 2 0 0 m_Trees_goDown [av_R (some 162), av_R (some a1), av_I a2, av_I a3, av_I a4] h (fun r h' => r = none ∧ kF FCT s h h') := by
  refine con_of (L := [some (av_R (some 162)), some (av_R (some a1)), some (av_I a2), some (av_I a3), some (av_I a4), none, none]) (by decide +kernel) (Nat.le_of_ble_eq_true rfl) rfl ?_
  have hS : isS s := hx.2.1
  have hs0 : s = 17 ∨ s = 80 := hS
  have k0 : kF FCT s h h := kF_0 hx
  refine A_iconst d_Trees_goDown_0 rfl ?_
  refine A_aload_n 0 d_Trees_goDown_1 rfl rfl ?_
  refine A_aload_n 1 d_Trees_goDown_2 rfl rfl ?_
  refine A_getAv (z := some (a1 + 5)) T_ok d_Trees_goDown_3 f_Trees_54 (xs_S k0.1 ha1) (xr_S_9 k0.1 ha1) ?_
  refine A_iload_n 2 d_Trees_goDown_6 rfl rfl ?_
  refine A_pc (pc' := 7) rfl ?_
  refine A_ialoadf d_Trees_goDown_7 (xs_S_9 k0.1 ha1) (by omega) (by omega) (fun x2 ex2 _ _ => ?_)
  refine A_iload_n 3 d_Trees_goDown_8 rfl rfl ?_
  refine A_aload_n 0 d_Trees_goDown_9 rfl rfl ?_
  refine A_getIn (lo := 0) (hi := 12) T_ok d_Trees_goDown_10 f_Trees_73 (xi_s k0.1 sf_162) (xi_g k0.1 (by decide) rgf_162_4) (fun x3 ex3 _ _ => ?_)
  refine A_callV3 m_Trees_treesOf T_ok d_Trees_goDown_13 l_Trees_35 k_Trees_treesOf (xi_s k0.1 sf_162) rfl (by decide +kernel) (by decide) (Nat.le_of_ble_eq_true rfl) (s_Trees_treesOf k0.1 ) (fun r h4 hq => ?_)
  obtain ⟨x6, rfl, ⟨_, _⟩, rfl⟩ := hq
  refine A_mmax d_Trees_goDown_16 lm_Trees_92 ma_max (by decide) (by decide) (Nat.le_of_ble_eq_true rfl) rfl ?_
  refine A_nrI (fun x7 ex7 _ _ => ?_)
  have bx7 := mmax_r ex7
  refine A_i2l d_Trees_goDown_19 ?_
  refine A_lstore (L' := [some (av_R (some 162)), some (av_R (some a1)), some (av_I a2), some (av_I a3), some (av_I a4), some (av_L x7), none]) d_Trees_goDown_20 (Nat.le_of_ble_eq_true rfl) rfl ?_
  refine A_iload d_Trees_goDown_22 rfl ?_
  refine A_if_eq (tgt := 56) d_Trees_goDown_24 (by decide) (fun c8 => ?_) (fun c8 => ?_)
  · refine A_aload_n 0 d_Trees_goDown_56 rfl rfl ?_
    refine A_aload_n 1 d_Trees_goDown_57 rfl rfl ?_
    refine A_getAv (z := some (a1 + 5)) T_ok d_Trees_goDown_58 f_Trees_54 (xs_S k0.1 ha1) (xr_S_9 k0.1 ha1) ?_
    refine A_iload_n 2 d_Trees_goDown_61 rfl rfl ?_
    refine A_ialoadv (z := x2) d_Trees_goDown_62 (xs_S_9 k0.1 ha1) (by omega) (by omega) ex2.symm ?_
    refine A_pc (pc' := 63) rfl ?_
    refine A_putIk (KR := kF FCT s h) T_ok d_Trees_goDown_63 f_Trees_67 (xi_s k0.1 sf_162) fin_f (kF_j k0 (by decide) (ns_b rfl) rgf_162_2 (by omega) (by omega)) (fun h11 k12 eh11 => ?_)
    refine A_aload_n 0 d_Trees_goDown_66 rfl rfl ?_
    refine A_iload_n 3 d_Trees_goDown_67 rfl rfl ?_
    refine A_putIk (KR := kF FCT s h) T_ok d_Trees_goDown_68 f_Trees_70 (xi_s k12.1 sf_162) fin_f (kF_j k12 (by decide) (ns_b rfl) rgf_162_3 (by omega) (by omega)) (fun h13 k14 eh13 => ?_)
    refine A_aload_n 0 d_Trees_goDown_71 rfl rfl ?_
    refine A_dupR d_Trees_goDown_72 ?_
    refine A_pc (pc' := 73) rfl ?_
    refine A_getLf T_ok d_Trees_goDown_73 f_Trees_76 (xi_s k14.1 sf_162) (fun x15 ex15 _ _ => ?_)
    refine A_lload d_Trees_goDown_76 rfl ?_
    refine A_lremc d_Trees_goDown_78 (by omega) (fun x16 ex16 _ _ => ?_)
    refine A_putLk (KR := kF FCT s h) T_ok d_Trees_goDown_79 f_Trees_76 (xi_s k14.1 sf_162) fin_f (kF_l k14 (by decide) (nl_b rfl)) (fun h17 k18 eh17 => ?_)
    exact A_vret d_Trees_goDown_82 (by decide) rfl ⟨rfl, k18⟩
  · refine A_aload_n 0 d_Trees_goDown_27 rfl rfl ?_
    refine A_aload_n 1 d_Trees_goDown_28 rfl rfl ?_
    refine A_getAv (z := some (a1 + 4)) T_ok d_Trees_goDown_29 f_Trees_60 (xs_S k0.1 ha1) (xr_S_8 k0.1 ha1) ?_
    refine A_iload_n 2 d_Trees_goDown_32 rfl rfl ?_
    refine A_ialoadf d_Trees_goDown_33 (xs_S_8 k0.1 ha1) (by omega) (by omega) (fun x20 ex20 _ _ => ?_)
    refine A_pc (pc' := 34) rfl ?_
    refine A_putIk (KR := kF FCT s h) T_ok d_Trees_goDown_34 f_Trees_67 (xi_s k0.1 sf_162) fin_f (kF_j k0 (by decide) (ns_b rfl) rgf_162_2 (by omega) (by omega)) (fun h21 k22 eh21 => ?_)
    refine A_aload_n 0 d_Trees_goDown_37 rfl rfl ?_
    refine A_iload_n 3 d_Trees_goDown_38 rfl rfl ?_
    refine A_putIk (KR := kF FCT s h) T_ok d_Trees_goDown_39 f_Trees_73 (xi_s k22.1 sf_162) fin_f (kF_j k22 (by decide) (ns_b rfl) rgf_162_4 (by omega) (by omega)) (fun h23 k24 eh23 => ?_)
    refine A_aload_n 0 d_Trees_goDown_42 rfl rfl ?_
    refine A_dupR d_Trees_goDown_43 ?_
    refine A_pc (pc' := 44) rfl ?_
    refine A_getLf T_ok d_Trees_goDown_44 f_Trees_76 (xi_s k24.1 sf_162) (fun x25 ex25 _ _ => ?_)
    refine A_lload d_Trees_goDown_47 rfl ?_
    refine A_ldivc d_Trees_goDown_49 (by omega) (fun x26 ex26 _ _ => ?_)
    refine A_putLk (KR := kF FCT s h) T_ok d_Trees_goDown_50 f_Trees_76 (xi_s k24.1 sf_162) fin_f (kF_l k24 (by decide) (nl_b rfl)) (fun h27 k28 eh27 => ?_)
    refine A_goto (tgt := 82) d_Trees_goDown_53 (by decide) ?_
    exact A_vret d_Trees_goDown_82 (by decide) rfl ⟨rfl, k28⟩
theorem z_Trees_ruleIn {G : cx_T} {s : Nat} {h : ah_T} (hx : xi s h) {a1 : Nat} {a2 : Int} {a3 : Int} (ha1 : isS a1) : con G 5 0 0 m_Trees_ruleIn [av_R (some 162), av_R (some a1), av_I a2, av_I a3] h (fun r h' => ∃ z, r = some (av_I z) ∧ ((-2147483648) ≤ z ∧ z ≤ 2147483647) ∧ kF FCT s h h') := by
  refine con_of (L := [some (av_R (some 162)), some (av_R (some a1)), some (av_I a2), some (av_I a3), none, none, none, none, none, none]) (by decide +kernel) (Nat.le_of_ble_eq_true rfl) rfl ?_
  have hS : isS s := hx.2.1
  have hs0 : s = 17 ∨ s = 80 := hS
  have k0 : kF FCT s h h := kF_0 hx
  refine A_locI 2 rfl (fun ra => ?_)
  obtain ⟨_, _⟩ := ra
  refine A_locI 3 rfl (fun ra => ?_)
  obtain ⟨_, _⟩ := ra
  refine A_iload_n 2 d_Trees_ruleIn_0 rfl rfl ?_
  refine A_if_lt (tgt := 28) d_Trees_ruleIn_1 (by decide) (fun c1 => ?_) (fun c1 => ?_)
  · refine A_iconst d_Trees_ruleIn_28 rfl ?_
    exact A_iret d_Trees_ruleIn_29 (by decide) rfl ⟨_, rfl, ⟨by omega, by omega⟩, k0⟩
  · refine A_iload_n 2 d_Trees_ruleIn_4 rfl rfl ?_
    refine A_aload_n 0 d_Trees_ruleIn_5 rfl rfl ?_
    refine A_getIf T_ok d_Trees_ruleIn_6 f_Trees_15 (xi_s k0.1 sf_162) (fun x2 ex2 _ _ => ?_)
    refine A_icmp_ge (tgt := 28) d_Trees_ruleIn_9 (by decide) (fun c3 => ?_) (fun c3 => ?_)
    · refine A_iconst d_Trees_ruleIn_28 rfl ?_
      exact A_iret d_Trees_ruleIn_29 (by decide) rfl ⟨_, rfl, ⟨by omega, by omega⟩, k0⟩
    · refine A_iload_n 3 d_Trees_ruleIn_12 rfl rfl ?_
      refine A_if_lt (tgt := 28) d_Trees_ruleIn_13 (by decide) (fun c4 => ?_) (fun c4 => ?_)
      · refine A_iconst d_Trees_ruleIn_28 rfl ?_
        exact A_iret d_Trees_ruleIn_29 (by decide) rfl ⟨_, rfl, ⟨by omega, by omega⟩, k0⟩
      · refine A_iload_n 3 d_Trees_ruleIn_16 rfl rfl ?_
        refine A_iconst d_Trees_ruleIn_17 rfl ?_
        refine A_aload_n 1 d_Trees_ruleIn_18 rfl rfl ?_
        refine A_getIn (lo := 0) (hi := 12) T_ok d_Trees_ruleIn_19 f_Trees_23 (xs_S k0.1 ha1) (xi_g k0.1 (lt1_S ha1) (rg_S_12 ha1)) (fun x5 ex5 _ _ => ?_)
        refine A_imulv (z := (2 * x5)) d_Trees_ruleIn_22 (w32_to (by omega) (by unfold i32; omega)) ?_
        refine A_pc (pc' := 23) rfl ?_
        refine A_iconst d_Trees_ruleIn_23 rfl ?_
        refine A_isubv (z := (2 * x5 - 1)) d_Trees_ruleIn_24 (w32_to (by omega) (by unfold i32; omega)) ?_
        refine A_icmp_lt (tgt := 30) d_Trees_ruleIn_25 (by decide) (fun c6 => ?_) (fun c6 => ?_)
        · refine A_aload_n 0 d_Trees_ruleIn_30 rfl rfl ?_
          refine A_aload_n 1 d_Trees_ruleIn_31 rfl rfl ?_
          refine A_getAv (z := some (a1 + 3)) T_ok d_Trees_ruleIn_32 f_Trees_32 (xs_S k0.1 ha1) (xr_S_7 k0.1 ha1) ?_
          refine A_iconst d_Trees_ruleIn_35 rfl ?_
          refine A_ialoadf d_Trees_ruleIn_36 (xs_S_7 k0.1 ha1) (by decide) (by decide) (fun x8 ex8 _ _ => ?_)
          refine A_pc (pc' := 37) rfl ?_
          refine A_putIk (KR := kF FCT s h) T_ok d_Trees_ruleIn_37 f_Trees_67 (xi_s k0.1 sf_162) fin_f (kF_j k0 (by decide) (ns_b rfl) rgf_162_2 (by omega) (by omega)) (fun h9 k10 eh9 => ?_)
          refine A_aload_n 0 d_Trees_ruleIn_40 rfl rfl ?_
          refine A_iconst d_Trees_ruleIn_41 rfl ?_
          refine A_putIk (KR := kF FCT s h) T_ok d_Trees_ruleIn_42 f_Trees_70 (xi_s k10.1 sf_162) fin_f (kF_j k10 (by decide) (ns_b rfl) rgf_162_3 (by omega) (by omega)) (fun h11 k12 eh11 => ?_)
          refine A_aload_n 0 d_Trees_ruleIn_45 rfl rfl ?_
          refine A_aload_n 1 d_Trees_ruleIn_46 rfl rfl ?_
          refine A_pc (pc' := 47) rfl ?_
          refine A_getIv (z := x5) T_ok d_Trees_ruleIn_47 f_Trees_23 (xs_S k12.1 ha1) ((eh11.1 _ _ (fun q => by omega)).trans ((eh9.1 _ _ (fun q => by omega)).trans ex5.symm)) ?_
          refine A_putIk (KR := kF FCT s h) T_ok d_Trees_ruleIn_50 f_Trees_73 (xi_s k12.1 sf_162) fin_f (kF_j k12 (by decide) (ns_b rfl) rgf_162_4 (by omega) (by omega)) (fun h14 k15 eh14 => ?_)
          refine A_aload_n 0 d_Trees_ruleIn_53 rfl rfl ?_
          refine A_iload_n 2 d_Trees_ruleIn_54 rfl rfl ?_
          refine A_i2l d_Trees_ruleIn_55 ?_
          refine A_putLk (KR := kF FCT s h) T_ok d_Trees_ruleIn_56 f_Trees_76 (xi_s k15.1 sf_162) fin_f (kF_l k15 (by decide) (nl_b rfl)) (fun h16 k17 eh16 => ?_)
          refine A_pc (pc' := 59) rfl ?_
          refine A_iload_n 3 d_Trees_ruleIn_59 rfl rfl ?_
          refine A_istore (L' := [some (av_R (some 162)), some (av_R (some a1)), some (av_I a2), some (av_I a3), some (av_I a3), none, none, none, none, none]) d_Trees_ruleIn_60 (Nat.le_of_ble_eq_true rfl) rfl ?_
          refine A_iconst d_Trees_ruleIn_62 rfl ?_
          refine A_istore (L' := [some (av_R (some 162)), some (av_R (some a1)), some (av_I a2), some (av_I a3), some (av_I a3), some (av_I 0), none, none, none, none]) d_Trees_ruleIn_63 (Nat.le_of_ble_eq_true rfl) rfl ?_
          have lp65 : ∀ (n : Nat) (i18 i19 : Int) (h20 : ah_T) , (-2147483648) ≤ i18 → i18 ≤ 2147483647 → 0 ≤ i19 → i19 ≤ 24 → kF FCT s h h20 → (25 - i19).toNat < n → aw G (rm_R 5 0 0) m_Trees_ruleIn 0 0 65 [some (av_R (some 162)), some (av_R (some a1)), some (av_I a2), some (av_I a3), some (av_I i18), some (av_I i19), none, none, none, none] [] h20 (fun r h' => ∃ z, r = some (av_I z) ∧ ((-2147483648) ≤ z ∧ z ≤ 2147483647) ∧ kF FCT s h h') := by
            intro n
            induction n with
            | zero => intro i18 i19 h20 _ _ _ _ _ hm; omega
            | succ n ih65 =>
              intro i18 i19 h20 hl0 hl1 hl2 hl3 k21 hm
              refine A_iload d_Trees_ruleIn_65 rfl ?_
              refine A_bipush d_Trees_ruleIn_67 rfl ?_
              refine A_icmp_ge (tgt := 173) d_Trees_ruleIn_69 (by decide) (fun c22 => ?_) (fun c22 => ?_)
              · refine A_iconst d_Trees_ruleIn_173 rfl ?_
                exact A_iret d_Trees_ruleIn_174 (by decide) rfl ⟨_, rfl, ⟨by omega, by omega⟩, k21⟩
              · refine A_aload_n 0 d_Trees_ruleIn_72 rfl rfl ?_
                refine A_aload_n 1 d_Trees_ruleIn_73 rfl rfl ?_
                refine A_callV1 m_Trees_findRule T_ok d_Trees_ruleIn_74 l_Trees_80 k_Trees_findRule (xi_s k21.1 sf_162) rfl (by decide +kernel) (by decide) (Nat.le_of_ble_eq_true rfl) (z_Trees_findRule k21.1 ha1) (fun r h23 hq => ?_)
                obtain ⟨x25, rfl, ⟨_, _⟩, k24⟩ := hq
                have k26 := kF_t k21 k24 (fun _ q => q)
                refine A_istore (L' := [some (av_R (some 162)), some (av_R (some a1)), some (av_I a2), some (av_I a3), some (av_I i18), some (av_I i19), some (av_I x25), none, none, none]) d_Trees_ruleIn_77 (Nat.le_of_ble_eq_true rfl) rfl ?_
                refine A_iload d_Trees_ruleIn_79 rfl ?_
                refine A_if_eq (tgt := 99) d_Trees_ruleIn_81 (by decide) (fun c27 => ?_) (fun c27 => ?_)
                · refine A_iload d_Trees_ruleIn_99 rfl ?_
                  exact A_iret d_Trees_ruleIn_101 (by decide) rfl ⟨_, rfl, ⟨by omega, by omega⟩, k26⟩
                · refine A_iload d_Trees_ruleIn_84 rfl ?_
                  refine A_if_lt (tgt := 99) d_Trees_ruleIn_86 (by decide) (fun c28 => ?_) (fun c28 => ?_)
                  · refine A_iload d_Trees_ruleIn_99 rfl ?_
                    exact A_iret d_Trees_ruleIn_101 (by decide) rfl ⟨_, rfl, ⟨by omega, by omega⟩, k26⟩
                  · refine A_aload_n 1 d_Trees_ruleIn_89 rfl rfl ?_
                    refine A_getAv (z := some (a1 + 5)) T_ok d_Trees_ruleIn_90 f_Trees_54 (xs_S k26.1 ha1) (xr_S_9 k26.1 ha1) ?_
                    refine A_iload d_Trees_ruleIn_93 rfl ?_
                    refine A_ialoadf d_Trees_ruleIn_95 (xs_S_9 k26.1 ha1) (by omega) (by omega) (fun x30 ex30 _ _ => ?_)
                    refine A_if_ge (tgt := 102) d_Trees_ruleIn_96 (by decide) (fun c31 => ?_) (fun c31 => ?_)
                    · refine A_aload_n 0 d_Trees_ruleIn_102 rfl rfl ?_
                      refine A_aload_n 1 d_Trees_ruleIn_103 rfl rfl ?_
                      refine A_iload d_Trees_ruleIn_104 rfl ?_
                      refine A_callV2 m_Trees_findCut T_ok d_Trees_ruleIn_106 l_Trees_84 k_Trees_findCut (xi_s k26.1 sf_162) rfl (by decide +kernel) (by decide) (Nat.le_of_ble_eq_true rfl) (z_Trees_findCut k26.1 ha1 (by omega) (by omega)) (fun r h32 hq => ?_)
                      obtain ⟨x34, rfl, ⟨_, _⟩, k33⟩ := hq
                      have k35 := kF_t k26 k33 (fun _ q => q)
                      refine A_istore (L' := [some (av_R (some 162)), some (av_R (some a1)), some (av_I a2), some (av_I a3), some (av_I i18), some (av_I i19), some (av_I x25), some (av_I x34), none, none]) d_Trees_ruleIn_109 (Nat.le_of_ble_eq_true rfl) rfl ?_
                      refine A_iconst d_Trees_ruleIn_111 rfl ?_
                      refine A_iload d_Trees_ruleIn_112 rfl ?_
                      refine A_aload_n 0 d_Trees_ruleIn_114 rfl rfl ?_
                      refine A_getIn (lo := 0) (hi := 12) T_ok d_Trees_ruleIn_115 f_Trees_70 (xi_s k35.1 sf_162) (xi_g k35.1 (by decide) rgf_162_3) (fun x36 ex36 _ _ => ?_)
                      refine A_pc (pc' := 118) rfl ?_
                      refine A_isubv (z := (x34 - x36)) d_Trees_ruleIn_118 (w32_to (by omega) (by unfold i32; omega)) ?_
                      refine A_imulv (z := (2 * x34 - 2 * x36)) d_Trees_ruleIn_119 (w32_to (by omega) (by unfold i32; omega)) ?_
                      refine A_iconst d_Trees_ruleIn_120 rfl ?_
                      refine A_isubv (z := (2 * x34 - 2 * x36 - 1)) d_Trees_ruleIn_121 (w32_to (by omega) (by unfold i32; omega)) ?_
                      refine A_istore (L' := [some (av_R (some 162)), some (av_R (some a1)), some (av_I a2), some (av_I a3), some (av_I i18), some (av_I i19), some (av_I x25), some (av_I x34), some (av_I (2 * x34 - 2 * x36 - 1)), none]) d_Trees_ruleIn_122 (Nat.le_of_ble_eq_true rfl) rfl ?_
                      refine A_iload d_Trees_ruleIn_124 rfl ?_
                      refine A_pc (pc' := 126) rfl ?_
                      refine A_iload d_Trees_ruleIn_126 rfl ?_
                      refine A_icmp_gt (tgt := 135) d_Trees_ruleIn_128 (by decide) (fun c37 => ?_) (fun c37 => ?_)
                      · refine A_iconst d_Trees_ruleIn_135 rfl ?_
                        refine A_istore (L' := [some (av_R (some 162)), some (av_R (some a1)), some (av_I a2), some (av_I a3), some (av_I i18), some (av_I i19), some (av_I x25), some (av_I x34), some (av_I (2 * x34 - 2 * x36 - 1)), some (av_I 0)]) d_Trees_ruleIn_136 (Nat.le_of_ble_eq_true rfl) rfl ?_
                        refine A_aload_n 0 d_Trees_ruleIn_138 rfl rfl ?_
                        refine A_aload_n 1 d_Trees_ruleIn_139 rfl rfl ?_
                        refine A_iload d_Trees_ruleIn_140 rfl ?_
                        refine A_pc (pc' := 142) rfl ?_
                        refine A_iload d_Trees_ruleIn_142 rfl ?_
                        refine A_iload d_Trees_ruleIn_144 rfl ?_
                        refine A_callV4 m_Trees_goDown T_ok d_Trees_ruleIn_146 l_Trees_88 k_Trees_goDown (xi_s k35.1 sf_162) rfl (by decide +kernel) (by decide) (Nat.le_of_ble_eq_true rfl) (z_Trees_goDown k35.1 ha1 (by omega) (by omega) (by omega) (by omega) (by omega)) (fun r h38 hq => ?_)
                        obtain ⟨rfl, k39⟩ := hq
                        have k40 := kF_t k35 k39 (fun _ q => q)
                        refine A_iload d_Trees_ruleIn_149 rfl ?_
                        refine A_iload d_Trees_ruleIn_151 rfl ?_
                        refine A_if_eq (tgt := 160) d_Trees_ruleIn_153 (by decide) (fun _ => ?_) (fun c => absurd c (by decide))
                        refine A_iconst d_Trees_ruleIn_160 rfl ?_
                        refine A_iload d_Trees_ruleIn_161 rfl ?_
                        refine A_iaddv (z := (2 * x34 - 2 * x36)) d_Trees_ruleIn_163 (w32_to (by omega) (by unfold i32; omega)) ?_
                        refine A_isubw d_Trees_ruleIn_164 (fun x42 _ _ _ => ?_)
                        refine A_istore (L' := [some (av_R (some 162)), some (av_R (some a1)), some (av_I a2), some (av_I a3), some (av_I x42), some (av_I i19), some (av_I x25), some (av_I x34), some (av_I (2 * x34 - 2 * x36 - 1)), some (av_I 0)]) d_Trees_ruleIn_165 (Nat.le_of_ble_eq_true rfl) rfl ?_
                        refine A_pc (pc' := 167) rfl ?_
                        refine A_iincv (z := (i19 + 1)) (L' := [some (av_R (some 162)), some (av_R (some a1)), some (av_I a2), some (av_I a3), some (av_I x42), some (av_I (i19 + 1)), some (av_I x25), some (av_I x34), some (av_I (2 * x34 - 2 * x36 - 1)), some (av_I 0)]) d_Trees_ruleIn_167 rfl (w32_to (by omega) (by unfold i32; omega)) rfl ?_
                        refine A_goto (tgt := 65) d_Trees_ruleIn_170 (by decide) ?_
                        refine A_free (L' := [some (av_R (some 162)), some (av_R (some a1)), some (av_I a2), some (av_I a3), some (av_I x42), some (av_I (i19 + 1)), none, none, none, none]) (And.intro rfl (And.intro rfl (And.intro rfl (And.intro rfl (And.intro rfl (And.intro rfl trivial)))))) ?_
                        exact ih65 x42 (i19 + 1) h38 (by omega) (by omega) (by omega) (by omega) k40 (by omega)
                      · refine A_iconst d_Trees_ruleIn_131 rfl ?_
                        refine A_goto (tgt := 136) d_Trees_ruleIn_132 (by decide) ?_
                        refine A_istore (L' := [some (av_R (some 162)), some (av_R (some a1)), some (av_I a2), some (av_I a3), some (av_I i18), some (av_I i19), some (av_I x25), some (av_I x34), some (av_I (2 * x34 - 2 * x36 - 1)), some (av_I 1)]) d_Trees_ruleIn_136 (Nat.le_of_ble_eq_true rfl) rfl ?_
                        refine A_aload_n 0 d_Trees_ruleIn_138 rfl rfl ?_
                        refine A_aload_n 1 d_Trees_ruleIn_139 rfl rfl ?_
                        refine A_iload d_Trees_ruleIn_140 rfl ?_
                        refine A_iload d_Trees_ruleIn_142 rfl ?_
                        refine A_pc (pc' := 144) rfl ?_
                        refine A_iload d_Trees_ruleIn_144 rfl ?_
                        refine A_callV4 m_Trees_goDown T_ok d_Trees_ruleIn_146 l_Trees_88 k_Trees_goDown (xi_s k35.1 sf_162) rfl (by decide +kernel) (by decide) (Nat.le_of_ble_eq_true rfl) (z_Trees_goDown k35.1 ha1 (by omega) (by omega) (by omega) (by omega) (by omega)) (fun r h43 hq => ?_)
                        obtain ⟨rfl, k44⟩ := hq
                        have k45 := kF_t k35 k44 (fun _ q => q)
                        refine A_iload d_Trees_ruleIn_149 rfl ?_
                        refine A_iload d_Trees_ruleIn_151 rfl ?_
                        refine A_if_eq (tgt := 160) d_Trees_ruleIn_153 (by decide) (fun c => absurd c (by decide)) (fun _ => ?_)
                        refine A_iconst d_Trees_ruleIn_156 rfl ?_
                        refine A_goto (tgt := 164) d_Trees_ruleIn_157 (by decide) ?_
                        refine A_isubw d_Trees_ruleIn_164 (fun x47 _ _ _ => ?_)
                        refine A_istore (L' := [some (av_R (some 162)), some (av_R (some a1)), some (av_I a2), some (av_I a3), some (av_I x47), some (av_I i19), some (av_I x25), some (av_I x34), some (av_I (2 * x34 - 2 * x36 - 1)), some (av_I 1)]) d_Trees_ruleIn_165 (Nat.le_of_ble_eq_true rfl) rfl ?_
                        refine A_iincv (z := (i19 + 1)) (L' := [some (av_R (some 162)), some (av_R (some a1)), some (av_I a2), some (av_I a3), some (av_I x47), some (av_I (i19 + 1)), some (av_I x25), some (av_I x34), some (av_I (2 * x34 - 2 * x36 - 1)), some (av_I 1)]) d_Trees_ruleIn_167 rfl (w32_to (by omega) (by unfold i32; omega)) rfl ?_
                        refine A_goto (tgt := 65) d_Trees_ruleIn_170 (by decide) ?_
                        refine A_free (L' := [some (av_R (some 162)), some (av_R (some a1)), some (av_I a2), some (av_I a3), some (av_I x47), some (av_I (i19 + 1)), none, none, none, none]) (And.intro rfl (And.intro rfl (And.intro rfl (And.intro rfl (And.intro rfl (And.intro rfl trivial)))))) ?_
                        exact ih65 x47 (i19 + 1) h43 (by omega) (by omega) (by omega) (by omega) k45 (by omega)
                    · refine A_iload d_Trees_ruleIn_99 rfl ?_
                      exact A_iret d_Trees_ruleIn_101 (by decide) rfl ⟨_, rfl, ⟨by omega, by omega⟩, k26⟩
          exact lp65 _ a3 0 h16 (by omega) (by omega) (by omega) (by omega) k17 (Nat.lt_succ_self _)
        · refine A_iconst d_Trees_ruleIn_28 rfl ?_
          exact A_iret d_Trees_ruleIn_29 (by decide) rfl ⟨_, rfl, ⟨by omega, by omega⟩, k0⟩
theorem z_PM_readings {G : cx_T} {s : Nat} {h : ah_T} (hx : xi s h)   : con G 6 0 0 m_PM_readings [av_R (some 0)] h (fun r h' => ∃ z, r = some (av_I z) ∧ ((-2147483648) ≤ z ∧ z ≤ 2147483647) ∧ kF FCT s h h') := by
  refine con_of (L := [some (av_R (some 0))]) (by decide +kernel) (Nat.le_of_ble_eq_true rfl) rfl ?_
  have hS : isS s := hx.2.1
  have hs0 : s = 17 ∨ s = 80 := hS
  have k0 : kF FCT s h h := kF_0 hx
  refine A_aload_n 0 d_PM_readings_0 rfl rfl ?_
  refine A_getOv (z := some (97 - s)) T_ok d_PM_readings_1 f_PM_27 (xi_s k0.1 sf_0) k0.1.2.2.1 ?_
  refine A_getIn (lo := 0) (hi := 24) T_ok d_PM_readings_4 f_PM_110 (xs_S k0.1 (isS_o hS)) (xi_g k0.1 (lt1_S (isS_o hS)) (rg_S_10 (isS_o hS))) (fun x2 ex2 _ _ => ?_)
  refine A_if_eq (tgt := 20) d_PM_readings_7 (by decide) (fun c3 => ?_) (fun c3 => ?_)
  · refine A_bipush d_PM_readings_20 rfl ?_
    exact A_iret d_PM_readings_22 (by decide) rfl ⟨_, rfl, ⟨by omega, by omega⟩, k0⟩
  · refine A_aload_n 0 d_PM_readings_10 rfl rfl ?_
    refine A_getOv (z := some (97 - s)) T_ok d_PM_readings_11 f_PM_27 (xi_s k0.1 sf_0) k0.1.2.2.1 ?_
    refine A_getIn (lo := 0) (hi := 12) T_ok d_PM_readings_14 f_PM_113 (xs_S k0.1 (isS_o hS)) (xi_g k0.1 (lt1_S (isS_o hS)) (rg_S_12 (isS_o hS))) (fun x5 ex5 _ _ => ?_)
    refine A_if_ne (tgt := 23) d_PM_readings_17 (by decide) (fun c6 => ?_) (fun c6 => ?_)
    · refine A_aload_n 0 d_PM_readings_23 rfl rfl ?_
      refine A_getOv (z := some 162) T_ok d_PM_readings_24 f_PM_65 (xi_s k0.1 sf_0) (xi_r k0.1 rff_0_9) ?_
      refine A_aload_n 0 d_PM_readings_27 rfl rfl ?_
      refine A_getOv (z := some (97 - s)) T_ok d_PM_readings_28 f_PM_27 (xi_s k0.1 sf_0) k0.1.2.2.1 ?_
      refine A_callV1 m_Trees_find T_ok d_PM_readings_31 l_PM_186 k_Trees_find (xi_s k0.1 sf_162) rfl (by decide +kernel) (by decide) (Nat.le_of_ble_eq_true rfl) (z_Trees_find k0.1 (isS_o hS)) (fun r h9 hq => ?_)
      obtain ⟨x11, rfl, ⟨_, _⟩, k10⟩ := hq
      have k12 := kF_t k0 k10 (fun _ q => q)
      exact A_iret d_PM_readings_34 (by decide) rfl ⟨_, rfl, ⟨by omega, by omega⟩, k12⟩
    · refine A_bipush d_PM_readings_20 rfl ?_
      exact A_iret d_PM_readings_22 (by decide) rfl ⟨_, rfl, ⟨by omega, by omega⟩, k0⟩
theorem z_PM_tree {G : cx_T} {s : Nat} {h : ah_T} (hx : xi s h) {a1 : Int} {a2 : Int}  : con G 6 0 0 m_PM_tree [av_R (some 0), av_I a1, av_I a2] h (fun r h' => ∃ z, r = some (av_I z) ∧ ((-2147483648) ≤ z ∧ z ≤ 2147483647) ∧ kF FCT s h h') := by
  refine con_of (L := [some (av_R (some 0)), some (av_I a1), some (av_I a2)]) (by decide +kernel) (Nat.le_of_ble_eq_true rfl) rfl ?_
  have hS : isS s := hx.2.1
  have hs0 : s = 17 ∨ s = 80 := hS
  have k0 : kF FCT s h h := kF_0 hx
  refine A_locI 1 rfl (fun ra => ?_)
  obtain ⟨_, _⟩ := ra
  refine A_locI 2 rfl (fun ra => ?_)
  obtain ⟨_, _⟩ := ra
  refine A_aload_n 0 d_PM_tree_0 rfl rfl ?_
  refine A_getOv (z := some 162) T_ok d_PM_tree_1 f_PM_65 (xi_s k0.1 sf_0) (xi_r k0.1 rff_0_9) ?_
  refine A_aload_n 0 d_PM_tree_4 rfl rfl ?_
  refine A_getOv (z := some (97 - s)) T_ok d_PM_tree_5 f_PM_27 (xi_s k0.1 sf_0) k0.1.2.2.1 ?_
  refine A_iload_n 1 d_PM_tree_8 rfl rfl ?_
  refine A_pc (pc' := 9) rfl ?_
  refine A_iload_n 2 d_PM_tree_9 rfl rfl ?_
  refine A_callV3 m_Trees_ruleIn T_ok d_PM_tree_10 l_PM_188 k_Trees_ruleIn (xi_s k0.1 sf_162) rfl (by decide +kernel) (by decide) (Nat.le_of_ble_eq_true rfl) (z_Trees_ruleIn k0.1 (isS_o hS)) (fun r h3 hq => ?_)
  obtain ⟨x5, rfl, ⟨_, _⟩, k4⟩ := hq
  have k6 := kF_t k0 k4 (fun _ q => q)
  exact A_iret d_PM_tree_13 (by decide) rfl ⟨_, rfl, ⟨by omega, by omega⟩, k6⟩
