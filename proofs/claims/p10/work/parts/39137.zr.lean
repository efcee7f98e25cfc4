/-! ===== Pairing: what its methods leave as it was ===== -/
abbrev FCR : Nat → Prop := fun a => a < 164 ∨ 170 ≤ a
theorem z_Pairing_gather_a {G : cx_T} {s : Nat} {h : ah_T} (hx : xi s h) {a0 : Nat} (ha0 : isV a0) : con G 2 0 0 m_Pairing_gather [av_R (some a0), av_R (some 165)] h (fun r h' => ∃ z, r = some (av_I z) ∧ (0 ≤ z ∧ z ≤ 80) ∧ kF FCR s h h') := by
  refine con_of (L := [some (av_R (some a0)), some (av_R (some 165)), none, none]) (by decide +kernel) (Nat.le_of_ble_eq_true rfl) rfl ?_
  have hS : isS s := hx.2.1
  have hs0 : s = 17 ∨ s = 80 := hS
  have k0 : kF FCR s h h := kF_0 hx
  have ga0 := lt_V ha0
  refine A_iconst d_Pairing_gather_0 rfl ?_
  refine A_istore_n 2 (L' := [some (av_R (some a0)), some (av_R (some 165)), some (av_I 0), none]) d_Pairing_gather_1 rfl (Nat.le_of_ble_eq_true rfl) rfl ?_
  refine A_iconst d_Pairing_gather_2 rfl ?_
  refine A_istore_n 3 (L' := [some (av_R (some a0)), some (av_R (some 165)), some (av_I 0), some (av_I 0)]) d_Pairing_gather_3 rfl (Nat.le_of_ble_eq_true rfl) rfl ?_
  have lp4 : ∀ (n : Nat) (i1 i2 : Int) (h3 : ah_T) , 0 ≤ i1 → i1 ≤ 80 → 0 ≤ i2 → i2 ≤ 300 → kF FCR s h h3 → (301 - i2).toNat < n → aw G (rm_R 2 0 0) m_Pairing_gather 0 0 4 [some (av_R (some a0)), some (av_R (some 165)), some (av_I i1), some (av_I i2)] [] h3 (fun r h' => ∃ z, r = some (av_I z) ∧ (0 ≤ z ∧ z ≤ 80) ∧ kF FCR s h h') := by
    intro n
    induction n with
    | zero => intro i1 i2 h3 _ _ _ _ _ hm; omega
    | succ n ih4 =>
      intro i1 i2 h3 hl0 hl1 hl2 hl3 k4 hm
      refine A_iload_n 3 d_Pairing_gather_4 rfl rfl ?_
      refine A_aload_n 0 d_Pairing_gather_5 rfl rfl ?_
      refine A_getIn (lo := 0) (hi := 300) T_ok d_Pairing_gather_6 f_Pairing_53 (xs_V k4.1 ha0) (xi_g k4.1 (lt1_V ha0) (rg_V_14 ha0)) (fun x5 ex5 _ _ => ?_)
      refine A_icmp_ge (tgt := 39) d_Pairing_gather_9 (by decide) (fun c6 => ?_) (fun c6 => ?_)
      · refine A_iload_n 2 d_Pairing_gather_39 rfl rfl ?_
        exact A_iret d_Pairing_gather_40 (by decide) rfl ⟨_, rfl, ⟨by omega, by omega⟩, k4⟩
      · refine A_aload_n 0 d_Pairing_gather_12 rfl rfl ?_
        refine A_iload_n 3 d_Pairing_gather_13 rfl rfl ?_
        refine A_callV1 m_Voice_isRest T_ok d_Pairing_gather_14 l_Pairing_58 k_Voice_isRest (xs_V k4.1 ha0) rfl (by decide +kernel) (by decide) (Nat.le_of_ble_eq_true rfl) (s_Voice_isRest k4.1 ha0 (by omega) (by omega)) (fun r h7 hq => ?_)
        obtain ⟨x9, rfl, bx9, rfl⟩ := hq
        refine A_if_ne (tgt := 33) d_Pairing_gather_17 (by decide) (fun c10 => ?_) (fun c10 => ?_)
        · refine A_iincv (z := (i2 + 1)) (L' := [some (av_R (some a0)), some (av_R (some 165)), some (av_I i1), some (av_I (i2 + 1))]) d_Pairing_gather_33 rfl (w32_to (by omega) (by unfold i32; omega)) rfl ?_
          refine A_goto (tgt := 4) d_Pairing_gather_36 (by decide) ?_
          exact ih4 i1 (i2 + 1) h3 (by omega) (by omega) (by omega) (by omega) k4 (by omega)
        · refine A_iload_n 2 d_Pairing_gather_20 rfl rfl ?_
          refine A_aload_n 1 d_Pairing_gather_21 rfl rfl ?_
          refine A_alenN d_Pairing_gather_22 (xi_s k4.1 sf_165) (by decide) (by decide) ?_
          refine A_icmp_ge (tgt := 33) d_Pairing_gather_23 (by decide) (fun c11 => ?_) (fun c11 => ?_)
          · refine A_iincv (z := (i2 + 1)) (L' := [some (av_R (some a0)), some (av_R (some 165)), some (av_I i1), some (av_I (i2 + 1))]) d_Pairing_gather_33 rfl (w32_to (by omega) (by unfold i32; omega)) rfl ?_
            refine A_goto (tgt := 4) d_Pairing_gather_36 (by decide) ?_
            exact ih4 i1 (i2 + 1) h3 (by omega) (by omega) (by omega) (by omega) k4 (by omega)
          · refine A_aload_n 1 d_Pairing_gather_26 rfl rfl ?_
            refine A_iload_n 2 d_Pairing_gather_27 rfl rfl ?_
            refine A_iload_n 3 d_Pairing_gather_28 rfl rfl ?_
            refine A_iastorek (KR := kF FCR s h) d_Pairing_gather_29 (xi_s k4.1 sf_165) (by omega) (by omega) (kF_j k4 (by decide) (ns_b rfl) (rgf_165 _) (by omega) (by omega)) (fun h12 k13 eh12 => ?_)
            refine A_iincv (z := (i1 + 1)) (L' := [some (av_R (some a0)), some (av_R (some 165)), some (av_I (i1 + 1)), some (av_I i2)]) d_Pairing_gather_30 rfl (w32_to (by omega) (by unfold i32; omega)) rfl ?_
            refine A_pc (pc' := 33) rfl ?_
            refine A_iincv (z := (i2 + 1)) (L' := [some (av_R (some a0)), some (av_R (some 165)), some (av_I (i1 + 1)), some (av_I (i2 + 1))]) d_Pairing_gather_33 rfl (w32_to (by omega) (by unfold i32; omega)) rfl ?_
            refine A_goto (tgt := 4) d_Pairing_gather_36 (by decide) ?_
            exact ih4 (i1 + 1) (i2 + 1) h12 (by omega) (by omega) (by omega) (by omega) k13 (by omega)
  exact lp4 _ 0 0 h (by omega) (by omega) (by omega) (by omega) k0 (Nat.lt_succ_self _)
theorem z_Pairing_gather_b {G : cx_T} {s : Nat} {h : ah_T} (hx : xi s h) {a0 : Nat} (ha0 : isV a0) : con G 2 0 0 m_Pairing_gather [av_R (some a0), av_R (some 166)] h (fun r h' => ∃ z, r = some (av_I z) ∧ (0 ≤ z ∧ z ≤ 80) ∧ kF FCR s h h') := by
  refine con_of (L := [some (av_R (some a0)), some (av_R (some 166)), none, none]) (by decide +kernel) (Nat.le_of_ble_eq_true rfl) rfl ?_
  have hS : isS s := hx.2.1
  have hs0 : s = 17 ∨ s = 80 := hS
  have k0 : kF FCR s h h := kF_0 hx
  have ga0 := lt_V ha0
  refine A_iconst d_Pairing_gather_0 rfl ?_
  refine A_istore_n 2 (L' := [some (av_R (some a0)), some (av_R (some 166)), some (av_I 0), none]) d_Pairing_gather_1 rfl (Nat.le_of_ble_eq_true rfl) rfl ?_
  refine A_iconst d_Pairing_gather_2 rfl ?_
  refine A_istore_n 3 (L' := [some (av_R (some a0)), some (av_R (some 166)), some (av_I 0), some (av_I 0)]) d_Pairing_gather_3 rfl (Nat.le_of_ble_eq_true rfl) rfl ?_
  have lp4 : ∀ (n : Nat) (i1 i2 : Int) (h3 : ah_T) , 0 ≤ i1 → i1 ≤ 80 → 0 ≤ i2 → i2 ≤ 300 → kF FCR s h h3 → (301 - i2).toNat < n → aw G (rm_R 2 0 0) m_Pairing_gather 0 0 4 [some (av_R (some a0)), some (av_R (some 166)), some (av_I i1), some (av_I i2)] [] h3 (fun r h' => ∃ z, r = some (av_I z) ∧ (0 ≤ z ∧ z ≤ 80) ∧ kF FCR s h h') := by
    intro n
    induction n with
    | zero => intro i1 i2 h3 _ _ _ _ _ hm; omega
    | succ n ih4 =>
      intro i1 i2 h3 hl0 hl1 hl2 hl3 k4 hm
      refine A_iload_n 3 d_Pairing_gather_4 rfl rfl ?_
      refine A_aload_n 0 d_Pairing_gather_5 rfl rfl ?_
      refine A_getIn (lo := 0) (hi := 300) T_ok d_Pairing_gather_6 f_Pairing_53 (xs_V k4.1 ha0) (xi_g k4.1 (lt1_V ha0) (rg_V_14 ha0)) (fun x5 ex5 _ _ => ?_)
      refine A_icmp_ge (tgt := 39) d_Pairing_gather_9 (by decide) (fun c6 => ?_) (fun c6 => ?_)
      · refine A_iload_n 2 d_Pairing_gather_39 rfl rfl ?_
        exact A_iret d_Pairing_gather_40 (by decide) rfl ⟨_, rfl, ⟨by omega, by omega⟩, k4⟩
      · refine A_aload_n 0 d_Pairing_gather_12 rfl rfl ?_
        refine A_iload_n 3 d_Pairing_gather_13 rfl rfl ?_
        refine A_callV1 m_Voice_isRest T_ok d_Pairing_gather_14 l_Pairing_58 k_Voice_isRest (xs_V k4.1 ha0) rfl (by decide +kernel) (by decide) (Nat.le_of_ble_eq_true rfl) (s_Voice_isRest k4.1 ha0 (by omega) (by omega)) (fun r h7 hq => ?_)
        obtain ⟨x9, rfl, bx9, rfl⟩ := hq
        refine A_if_ne (tgt := 33) d_Pairing_gather_17 (by decide) (fun c10 => ?_) (fun c10 => ?_)
        · refine A_iincv (z := (i2 + 1)) (L' := [some (av_R (some a0)), some (av_R (some 166)), some (av_I i1), some (av_I (i2 + 1))]) d_Pairing_gather_33 rfl (w32_to (by omega) (by unfold i32; omega)) rfl ?_
          refine A_goto (tgt := 4) d_Pairing_gather_36 (by decide) ?_
          exact ih4 i1 (i2 + 1) h3 (by omega) (by omega) (by omega) (by omega) k4 (by omega)
        · refine A_iload_n 2 d_Pairing_gather_20 rfl rfl ?_
          refine A_aload_n 1 d_Pairing_gather_21 rfl rfl ?_
          refine A_alenN d_Pairing_gather_22 (xi_s k4.1 sf_166) (by decide) (by decide) ?_
          refine A_icmp_ge (tgt := 33) d_Pairing_gather_23 (by decide) (fun c11 => ?_) (fun c11 => ?_)
          · refine A_iincv (z := (i2 + 1)) (L' := [some (av_R (some a0)), some (av_R (some 166)), some (av_I i1), some (av_I (i2 + 1))]) d_Pairing_gather_33 rfl (w32_to (by omega) (by unfold i32; omega)) rfl ?_
            refine A_goto (tgt := 4) d_Pairing_gather_36 (by decide) ?_
            exact ih4 i1 (i2 + 1) h3 (by omega) (by omega) (by omega) (by omega) k4 (by omega)
          · refine A_aload_n 1 d_Pairing_gather_26 rfl rfl ?_
            refine A_iload_n 2 d_Pairing_gather_27 rfl rfl ?_
            refine A_iload_n 3 d_Pairing_gather_28 rfl rfl ?_
            refine A_iastorek (KR := kF FCR s h) d_Pairing_gather_29 (xi_s k4.1 sf_166) (by omega) (by omega) (kF_j k4 (by decide) (ns_b rfl) (rgf_166 _) (by omega) (by omega)) (fun h12 k13 eh12 => ?_)
            refine A_iincv (z := (i1 + 1)) (L' := [some (av_R (some a0)), some (av_R (some 166)), some (av_I (i1 + 1)), some (av_I i2)]) d_Pairing_gather_30 rfl (w32_to (by omega) (by unfold i32; omega)) rfl ?_
            refine A_pc (pc' := 33) rfl ?_
            refine A_iincv (z := (i2 + 1)) (L' := [some (av_R (some a0)), some (av_R (some 166)), some (av_I (i1 + 1)), some (av_I (i2 + 1))]) d_Pairing_gather_33 rfl (w32_to (by omega) (by unfold i32; omega)) rfl ?_
            refine A_goto (tgt := 4) d_Pairing_gather_36 (by decide) ?_
            exact ih4 (i1 + 1) (i2 + 1) h12 (by omega) (by omega) (by omega) (by omega) k13 (by omega)
  exact lp4 _ 0 0 h (by omega) (by omega) (by omega) (by omega) k0 (Nat.lt_succ_self _)
theorem z_Pairing_weigh {G : cx_T} {s : Nat} {h : ah_T} (hx : xi s h) {a1 : Nat} {a2 : Nat} {a3 : Int} {a4 : Int} (ha1 : isV a1) (ha2 : isV a2) (la3 : 0 ≤ a3) (ua3 : a3 ≤ 80) (la4 : 0 ≤ a4) (ua4 : a4 ≤ 80) : con G 3 0 0 m_Pairing_weigh [av_R (some 164), av_R (some a1), av_R (some a2), av_I a3, av_I a4] h (fun r h' => r = none ∧ kF FCR s h h') := by
  refine con_of (L := [some (av_R (some 164)), some (av_R (some a1)), some (av_R (some a2)), some (av_I a3), some (av_I a4), none, none, none, none, none, none, none]) (by decide +kernel) (Nat.le_of_ble_eq_true rfl) rfl ?_
  have hS : isS s := hx.2.1
  have hs0 : s = 17 ∨ s = 80 := hS
  have k0 : kF FCR s h h := kF_0 hx
  have ga1 := lt_V ha1
  have ga2 := lt_V ha2
  refine A_aload_n 0 d_Pairing_weigh_0 rfl rfl ?_
  refine A_iload_n 3 d_Pairing_weigh_1 rfl rfl ?_
  refine A_iload d_Pairing_weigh_2 rfl ?_
  refine A_callV2 m_Pairing_slot T_ok d_Pairing_weigh_4 l_Pairing_82 k_Pairing_slot (xi_s k0.1 sf_164) rfl (by decide +kernel) (by decide) (Nat.le_of_ble_eq_true rfl) (s_Pairing_slot k0.1 (by omega) (by omega) (by omega) (by omega)) (fun r h1 hq => ?_)
  obtain ⟨x3, rfl, ⟨_, _⟩, rfl⟩ := hq
  refine A_istore (L' := [some (av_R (some 164)), some (av_R (some a1)), some (av_R (some a2)), some (av_I a3), some (av_I a4), some (av_I x3), none, none, none, none, none, none]) d_Pairing_weigh_7 (Nat.le_of_ble_eq_true rfl) rfl ?_
  refine A_iload_n 3 d_Pairing_weigh_9 rfl rfl ?_
  refine A_aload_n 0 d_Pairing_weigh_10 rfl rfl ?_
  refine A_getIn (lo := 0) (hi := 80) T_ok d_Pairing_weigh_11 f_Pairing_27 (xi_s k0.1 sf_164) (xi_g k0.1 (by decide) rgf_164_5) (fun x4 ex4 _ _ => ?_)
  have jp43 : aw G (rm_R 3 0 0) m_Pairing_weigh 0 0 43 [some (av_R (some 164)), some (av_R (some a1)), some (av_R (some a2)), some (av_I a3), some (av_I a4), some (av_I x3), none, none, none, none, none, none] [] h (fun r h' => r = none ∧ kF FCR s h h') := by
    refine A_iload_n 3 d_Pairing_weigh_43 rfl rfl ?_
    refine A_aload_n 0 d_Pairing_weigh_44 rfl rfl ?_
    refine A_getIv (z := x4) T_ok d_Pairing_weigh_45 f_Pairing_27 (xi_s k0.1 sf_164) ex4.symm ?_
    have jp89 : aw G (rm_R 3 0 0) m_Pairing_weigh 0 0 89 [some (av_R (some 164)), some (av_R (some a1)), some (av_R (some a2)), some (av_I a3), some (av_I a4), some (av_I x3), none, none, none, none, none, none] [] h (fun r h' => r = none ∧ kF FCR s h h') := by
      refine A_ldc (z := 2147483647) d_Pairing_weigh_89 cst_Pairing_91 rfl ?_
      refine A_istore (L' := [some (av_R (some 164)), some (av_R (some a1)), some (av_R (some a2)), some (av_I a3), some (av_I a4), some (av_I x3), some (av_I 2147483647), none, none, none, none, none]) d_Pairing_weigh_91 (Nat.le_of_ble_eq_true rfl) rfl ?_
      refine A_iload_n 3 d_Pairing_weigh_93 rfl rfl ?_
      refine A_aload_n 0 d_Pairing_weigh_94 rfl rfl ?_
      refine A_getIv (z := x4) T_ok d_Pairing_weigh_95 f_Pairing_27 (xi_s k0.1 sf_164) ex4.symm ?_
      have jp122 : ∀ (j7 : Int) , (-2147483648) ≤ j7 → j7 ≤ 2147483647 → aw G (rm_R 3 0 0) m_Pairing_weigh 0 0 122 [some (av_R (some 164)), some (av_R (some a1)), some (av_R (some a2)), some (av_I a3), some (av_I a4), some (av_I x3), some (av_I 2147483647), none, none, none, none, none] [av_I j7] h (fun r h' => r = none ∧ kF FCR s h h') := by
        intro j7  _ _ 
        refine A_istore (L' := [some (av_R (some 164)), some (av_R (some a1)), some (av_R (some a2)), some (av_I a3), some (av_I a4), some (av_I x3), some (av_I 2147483647), some (av_I j7), none, none, none, none]) d_Pairing_weigh_122 (Nat.le_of_ble_eq_true rfl) rfl ?_
        refine A_iload d_Pairing_weigh_124 rfl ?_
        refine A_aload_n 0 d_Pairing_weigh_126 rfl rfl ?_
        refine A_getIn (lo := 0) (hi := 80) T_ok d_Pairing_weigh_127 f_Pairing_42 (xi_s k0.1 sf_164) (xi_g k0.1 (by decide) rgf_164_6) (fun x8 ex8 _ _ => ?_)
        have jp154 : ∀ (j9 : Int) , (-2147483648) ≤ j9 → j9 ≤ 2147483647 → aw G (rm_R 3 0 0) m_Pairing_weigh 0 0 154 [some (av_R (some 164)), some (av_R (some a1)), some (av_R (some a2)), some (av_I a3), some (av_I a4), some (av_I x3), some (av_I 2147483647), some (av_I j7), none, none, none, none] [av_I j9] h (fun r h' => r = none ∧ kF FCR s h h') := by
          intro j9  _ _ 
          refine A_istore (L' := [some (av_R (some 164)), some (av_R (some a1)), some (av_R (some a2)), some (av_I a3), some (av_I a4), some (av_I x3), some (av_I 2147483647), some (av_I j7), some (av_I j9), none, none, none]) d_Pairing_weigh_154 (Nat.le_of_ble_eq_true rfl) rfl ?_
          refine A_iload d_Pairing_weigh_156 rfl ?_
          refine A_iload d_Pairing_weigh_158 rfl ?_
          refine A_iload d_Pairing_weigh_160 rfl ?_
          refine A_mmin d_Pairing_weigh_162 lm_Pairing_62 ma_min (by decide) (by decide) (Nat.le_of_ble_eq_true rfl) rfl ?_
          refine A_nrI (fun x10 ex10 _ _ => ?_)
          have bx10 := mmin_r ex10
          refine A_pc (pc' := 165) rfl ?_
          refine A_mmin d_Pairing_weigh_165 lm_Pairing_62 ma_min (by decide) (by decide) (Nat.le_of_ble_eq_true rfl) rfl ?_
          refine A_nrI (fun x11 ex11 _ _ => ?_)
          have bx11 := mmin_r ex11
          refine A_istore (L' := [some (av_R (some 164)), some (av_R (some a1)), some (av_R (some a2)), some (av_I a3), some (av_I a4), some (av_I x3), some (av_I 2147483647), some (av_I j7), some (av_I j9), some (av_I x11), none, none]) d_Pairing_weigh_168 (Nat.le_of_ble_eq_true rfl) rfl ?_
          refine A_lconst_0 d_Pairing_weigh_170 ?_
          refine A_lstore (L' := [some (av_R (some 164)), some (av_R (some a1)), some (av_R (some a2)), some (av_I a3), some (av_I a4), some (av_I x3), some (av_I 2147483647), some (av_I j7), some (av_I j9), some (av_I x11), some (av_L 0), none]) d_Pairing_weigh_171 (Nat.le_of_ble_eq_true rfl) rfl ?_
          refine A_lload d_Pairing_weigh_173 rfl ?_
          refine A_iload d_Pairing_weigh_175 rfl ?_
          refine A_pc (pc' := 177) rfl ?_
          refine A_iload d_Pairing_weigh_177 rfl ?_
          have jp203 : ∀ (j12 : Int) , (-2147483648) ≤ j12 → j12 ≤ 2147483647 → aw G (rm_R 3 0 0) m_Pairing_weigh 0 0 203 [some (av_R (some 164)), some (av_R (some a1)), some (av_R (some a2)), some (av_I a3), some (av_I a4), some (av_I x3), some (av_I 2147483647), some (av_I j7), some (av_I j9), some (av_I x11), some (av_L 0), none] [av_L j12, av_L 0] h (fun r h' => r = none ∧ kF FCR s h h') := by
            intro j12  _ _ 
            refine A_laddv (z := j12) d_Pairing_weigh_203 (w64_to (by omega) (by unfold i64; omega)) ?_
            refine A_lstore (L' := [some (av_R (some 164)), some (av_R (some a1)), some (av_R (some a2)), some (av_I a3), some (av_I a4), some (av_I x3), some (av_I 2147483647), some (av_I j7), some (av_I j9), some (av_I x11), some (av_L j12), none]) d_Pairing_weigh_204 (Nat.le_of_ble_eq_true rfl) rfl ?_
            refine A_lload d_Pairing_weigh_206 rfl ?_
            refine A_iload d_Pairing_weigh_208 rfl ?_
            refine A_iload d_Pairing_weigh_210 rfl ?_
            have jp234 : ∀ (j13 : Int) , (-2147483648) ≤ j13 → j13 ≤ 2147483647 → aw G (rm_R 3 0 0) m_Pairing_weigh 0 0 234 [some (av_R (some 164)), some (av_R (some a1)), some (av_R (some a2)), some (av_I a3), some (av_I a4), some (av_I x3), some (av_I 2147483647), some (av_I j7), some (av_I j9), some (av_I x11), some (av_L j12), none] [av_L j13, av_L j12] h (fun r h' => r = none ∧ kF FCR s h h') := by
              intro j13  _ _ 
              refine A_laddv (z := (j12 + j13)) d_Pairing_weigh_234 (w64_to (by omega) (by unfold i64; omega)) ?_
              refine A_lstore (L' := [some (av_R (some 164)), some (av_R (some a1)), some (av_R (some a2)), some (av_I a3), some (av_I a4), some (av_I x3), some (av_I 2147483647), some (av_I j7), some (av_I j9), some (av_I x11), some (av_L (j12 + j13)), none]) d_Pairing_weigh_235 (Nat.le_of_ble_eq_true rfl) rfl ?_
              refine A_lload d_Pairing_weigh_237 rfl ?_
              refine A_iload d_Pairing_weigh_239 rfl ?_
              refine A_iload d_Pairing_weigh_241 rfl ?_
              have jp265 : ∀ (j14 : Int) , (-2147483648) ≤ j14 → j14 ≤ 2147483647 → aw G (rm_R 3 0 0) m_Pairing_weigh 0 0 265 [some (av_R (some 164)), some (av_R (some a1)), some (av_R (some a2)), some (av_I a3), some (av_I a4), some (av_I x3), some (av_I 2147483647), some (av_I j7), some (av_I j9), some (av_I x11), some (av_L (j12 + j13)), none] [av_L j14, av_L (j12 + j13)] h (fun r h' => r = none ∧ kF FCR s h h') := by
                intro j14  _ _ 
                refine A_laddv (z := (j12 + j13 + j14)) d_Pairing_weigh_265 (w64_to (by omega) (by unfold i64; omega)) ?_
                refine A_lstore (L' := [some (av_R (some 164)), some (av_R (some a1)), some (av_R (some a2)), some (av_I a3), some (av_I a4), some (av_I x3), some (av_I 2147483647), some (av_I j7), some (av_I j9), some (av_I x11), some (av_L (j12 + j13 + j14)), none]) d_Pairing_weigh_266 (Nat.le_of_ble_eq_true rfl) rfl ?_
                refine A_aload_n 0 d_Pairing_weigh_268 rfl rfl ?_
                refine A_getAv (z := some 167) T_ok d_Pairing_weigh_269 f_Pairing_18 (xi_s k0.1 sf_164) (xi_r k0.1 rff_164_2) ?_
                refine A_iload d_Pairing_weigh_272 rfl ?_
                refine A_pc (pc' := 274) rfl ?_
                refine A_iload d_Pairing_weigh_274 rfl ?_
                refine A_iastorek (KR := kF FCR s h) d_Pairing_weigh_276 (xi_s k0.1 sf_167) (by omega) (by omega) (kF_j k0 (by decide) (ns_b rfl) (rgf_167 _) (by omega) (by omega)) (fun h16 k17 eh16 => ?_)
                refine A_aload_n 0 d_Pairing_weigh_277 rfl rfl ?_
                refine A_getAv (z := some 168) T_ok d_Pairing_weigh_278 f_Pairing_21 (xi_s k17.1 sf_164) (xi_r k17.1 rff_164_3) ?_
                refine A_iload d_Pairing_weigh_281 rfl ?_
                refine A_lload d_Pairing_weigh_283 rfl ?_
                refine A_pc (pc' := 285) rfl ?_
                refine A_ldc2 (z := 1000000007) d_Pairing_weigh_285 cst_Pairing_92 rfl ?_
                refine A_lremc d_Pairing_weigh_288 (by decide) (fun x19 ex19 _ _ => ?_)
                have bx19 := rem_c ex19 (by decide)
                refine A_l2iv (z := x19) d_Pairing_weigh_289 (w32_id (by unfold i32; omega)) ?_
                refine A_iastorek (KR := kF FCR s h) d_Pairing_weigh_290 (xi_s k17.1 sf_168) (by omega) (by omega) (kF_j k17 (by decide) (ns_b rfl) (rgf_168 _) (by omega) (by omega)) (fun h20 k21 eh20 => ?_)
                exact A_vret d_Pairing_weigh_291 (by decide) rfl ⟨rfl, k21⟩
              refine A_icmp_ne (tgt := 264) d_Pairing_weigh_243 (by decide) (fun c22 => ?_) (fun c22 => ?_)
              · refine A_lconst_0 d_Pairing_weigh_264 ?_
                refine A_pc (pc' := 265) rfl ?_
                exact jp265 0 (by omega) (by omega)
              · refine A_aload_n 0 d_Pairing_weigh_246 rfl rfl ?_
                refine A_getAv (z := some 168) T_ok d_Pairing_weigh_247 f_Pairing_21 (xi_s k0.1 sf_164) (xi_r k0.1 rff_164_3) ?_
                refine A_aload_n 0 d_Pairing_weigh_250 rfl rfl ?_
                refine A_iload_n 3 d_Pairing_weigh_251 rfl rfl ?_
                refine A_iload d_Pairing_weigh_252 rfl ?_
                refine A_pc (pc' := 254) rfl ?_
                refine A_iconst d_Pairing_weigh_254 rfl ?_
                refine A_iaddv (z := (a4 + 1)) d_Pairing_weigh_255 (w32_to (by omega) (by unfold i32; omega)) ?_
                refine A_callV2 m_Pairing_slot T_ok d_Pairing_weigh_256 l_Pairing_82 k_Pairing_slot (xi_s k0.1 sf_164) rfl (by decide +kernel) (by decide) (Nat.le_of_ble_eq_true rfl) (s_Pairing_slot k0.1 (by omega) (by omega) (by omega) (by omega)) (fun r h24 hq => ?_)
                obtain ⟨x26, rfl, ⟨_, _⟩, rfl⟩ := hq
                refine A_ialoadf d_Pairing_weigh_259 (xi_s k0.1 sf_168) (by omega) (by omega) (fun x27 ex27 _ _ => ?_)
                refine A_i2l d_Pairing_weigh_260 ?_
                refine A_goto (tgt := 265) d_Pairing_weigh_261 (by decide) ?_
                refine A_pc (pc' := 265) rfl ?_
                exact jp265 x27 (by omega) (by omega)
            refine A_icmp_ne (tgt := 233) d_Pairing_weigh_212 (by decide) (fun c28 => ?_) (fun c28 => ?_)
            · refine A_lconst_0 d_Pairing_weigh_233 ?_
              refine A_pc (pc' := 234) rfl ?_
              exact jp234 0 (by omega) (by omega)
            · refine A_aload_n 0 d_Pairing_weigh_215 rfl rfl ?_
              refine A_getAv (z := some 168) T_ok d_Pairing_weigh_216 f_Pairing_21 (xi_s k0.1 sf_164) (xi_r k0.1 rff_164_3) ?_
              refine A_aload_n 0 d_Pairing_weigh_219 rfl rfl ?_
              refine A_iload_n 3 d_Pairing_weigh_220 rfl rfl ?_
              refine A_iconst d_Pairing_weigh_221 rfl ?_
              refine A_pc (pc' := 222) rfl ?_
              refine A_iaddv (z := (a3 + 1)) d_Pairing_weigh_222 (w32_to (by omega) (by unfold i32; omega)) ?_
              refine A_iload d_Pairing_weigh_223 rfl ?_
              refine A_callV2 m_Pairing_slot T_ok d_Pairing_weigh_225 l_Pairing_82 k_Pairing_slot (xi_s k0.1 sf_164) rfl (by decide +kernel) (by decide) (Nat.le_of_ble_eq_true rfl) (s_Pairing_slot k0.1 (by omega) (by omega) (by omega) (by omega)) (fun r h30 hq => ?_)
              obtain ⟨x32, rfl, ⟨_, _⟩, rfl⟩ := hq
              refine A_ialoadf d_Pairing_weigh_228 (xi_s k0.1 sf_168) (by omega) (by omega) (fun x33 ex33 _ _ => ?_)
              refine A_i2l d_Pairing_weigh_229 ?_
              refine A_goto (tgt := 234) d_Pairing_weigh_230 (by decide) ?_
              refine A_pc (pc' := 234) rfl ?_
              exact jp234 x33 (by omega) (by omega)
          refine A_icmp_ne (tgt := 202) d_Pairing_weigh_179 (by decide) (fun c34 => ?_) (fun c34 => ?_)
          · refine A_lconst_0 d_Pairing_weigh_202 ?_
            refine A_pc (pc' := 203) rfl ?_
            exact jp203 0 (by omega) (by omega)
          · refine A_aload_n 0 d_Pairing_weigh_182 rfl rfl ?_
            refine A_getAv (z := some 168) T_ok d_Pairing_weigh_183 f_Pairing_21 (xi_s k0.1 sf_164) (xi_r k0.1 rff_164_3) ?_
            refine A_aload_n 0 d_Pairing_weigh_186 rfl rfl ?_
            refine A_iload_n 3 d_Pairing_weigh_187 rfl rfl ?_
            refine A_iconst d_Pairing_weigh_188 rfl ?_
            refine A_pc (pc' := 189) rfl ?_
            refine A_iaddv (z := (a3 + 1)) d_Pairing_weigh_189 (w32_to (by omega) (by unfold i32; omega)) ?_
            refine A_iload d_Pairing_weigh_190 rfl ?_
            refine A_iconst d_Pairing_weigh_192 rfl ?_
            refine A_iaddv (z := (a4 + 1)) d_Pairing_weigh_193 (w32_to (by omega) (by unfold i32; omega)) ?_
            refine A_callV2 m_Pairing_slot T_ok d_Pairing_weigh_194 l_Pairing_82 k_Pairing_slot (xi_s k0.1 sf_164) rfl (by decide +kernel) (by decide) (Nat.le_of_ble_eq_true rfl) (s_Pairing_slot k0.1 (by omega) (by omega) (by omega) (by omega)) (fun r h36 hq => ?_)
            obtain ⟨x38, rfl, ⟨_, _⟩, rfl⟩ := hq
            refine A_ialoadf d_Pairing_weigh_197 (xi_s k0.1 sf_168) (by omega) (by omega) (fun x39 ex39 _ _ => ?_)
            refine A_i2l d_Pairing_weigh_198 ?_
            refine A_goto (tgt := 203) d_Pairing_weigh_199 (by decide) ?_
            refine A_pc (pc' := 203) rfl ?_
            exact jp203 x39 (by omega) (by omega)
        refine A_icmp_ge (tgt := 152) d_Pairing_weigh_130 (by decide) (fun c40 => ?_) (fun c40 => ?_)
        · refine A_ldc (z := 2147483647) d_Pairing_weigh_152 cst_Pairing_91 rfl ?_
          refine A_pc (pc' := 154) rfl ?_
          exact jp154 2147483647 (by omega) (by omega)
        · refine A_iconst d_Pairing_weigh_133 rfl ?_
          refine A_aload_n 0 d_Pairing_weigh_134 rfl rfl ?_
          refine A_getAv (z := some 167) T_ok d_Pairing_weigh_135 f_Pairing_18 (xi_s k0.1 sf_164) (xi_r k0.1 rff_164_2) ?_
          refine A_aload_n 0 d_Pairing_weigh_138 rfl rfl ?_
          refine A_iload_n 3 d_Pairing_weigh_139 rfl rfl ?_
          refine A_pc (pc' := 140) rfl ?_
          refine A_iload d_Pairing_weigh_140 rfl ?_
          refine A_iconst d_Pairing_weigh_142 rfl ?_
          refine A_iaddv (z := (a4 + 1)) d_Pairing_weigh_143 (w32_to (by omega) (by unfold i32; omega)) ?_
          refine A_callV2 m_Pairing_slot T_ok d_Pairing_weigh_144 l_Pairing_82 k_Pairing_slot (xi_s k0.1 sf_164) rfl (by decide +kernel) (by decide) (Nat.le_of_ble_eq_true rfl) (s_Pairing_slot k0.1 (by omega) (by omega) (by omega) (by omega)) (fun r h42 hq => ?_)
          obtain ⟨x44, rfl, ⟨_, _⟩, rfl⟩ := hq
          refine A_ialoadf d_Pairing_weigh_147 (xi_s k0.1 sf_167) (by omega) (by omega) (fun x45 ex45 _ _ => ?_)
          refine A_iaddw d_Pairing_weigh_148 (fun x46 _ _ _ => ?_)
          refine A_goto (tgt := 154) d_Pairing_weigh_149 (by decide) ?_
          refine A_pc (pc' := 154) rfl ?_
          exact jp154 x46 (by omega) (by omega)
      refine A_icmp_ge (tgt := 120) d_Pairing_weigh_98 (by decide) (fun c47 => ?_) (fun c47 => ?_)
      · refine A_ldc (z := 2147483647) d_Pairing_weigh_120 cst_Pairing_91 rfl ?_
        refine A_pc (pc' := 122) rfl ?_
        exact jp122 2147483647 (by omega) (by omega)
      · refine A_iconst d_Pairing_weigh_101 rfl ?_
        refine A_aload_n 0 d_Pairing_weigh_102 rfl rfl ?_
        refine A_getAv (z := some 167) T_ok d_Pairing_weigh_103 f_Pairing_18 (xi_s k0.1 sf_164) (xi_r k0.1 rff_164_2) ?_
        refine A_aload_n 0 d_Pairing_weigh_106 rfl rfl ?_
        refine A_iload_n 3 d_Pairing_weigh_107 rfl rfl ?_
        refine A_pc (pc' := 108) rfl ?_
        refine A_iconst d_Pairing_weigh_108 rfl ?_
        refine A_iaddv (z := (a3 + 1)) d_Pairing_weigh_109 (w32_to (by omega) (by unfold i32; omega)) ?_
        refine A_iload d_Pairing_weigh_110 rfl ?_
        refine A_callV2 m_Pairing_slot T_ok d_Pairing_weigh_112 l_Pairing_82 k_Pairing_slot (xi_s k0.1 sf_164) rfl (by decide +kernel) (by decide) (Nat.le_of_ble_eq_true rfl) (s_Pairing_slot k0.1 (by omega) (by omega) (by omega) (by omega)) (fun r h49 hq => ?_)
        obtain ⟨x51, rfl, ⟨_, _⟩, rfl⟩ := hq
        refine A_ialoadf d_Pairing_weigh_115 (xi_s k0.1 sf_167) (by omega) (by omega) (fun x52 ex52 _ _ => ?_)
        refine A_iaddw d_Pairing_weigh_116 (fun x53 _ _ _ => ?_)
        refine A_goto (tgt := 122) d_Pairing_weigh_117 (by decide) ?_
        refine A_pc (pc' := 122) rfl ?_
        exact jp122 x53 (by omega) (by omega)
    have jp91 : ∀ (j54 : Int) , (-2147483648) ≤ j54 → j54 ≤ 2147483647 → aw G (rm_R 3 0 0) m_Pairing_weigh 0 0 91 [some (av_R (some 164)), some (av_R (some a1)), some (av_R (some a2)), some (av_I a3), some (av_I a4), some (av_I x3), none, none, none, none, none, none] [av_I j54] h (fun r h' => r = none ∧ kF FCR s h h') := by
      intro j54  _ _ 
      refine A_istore (L' := [some (av_R (some 164)), some (av_R (some a1)), some (av_R (some a2)), some (av_I a3), some (av_I a4), some (av_I x3), some (av_I j54), none, none, none, none, none]) d_Pairing_weigh_91 (Nat.le_of_ble_eq_true rfl) rfl ?_
      refine A_iload_n 3 d_Pairing_weigh_93 rfl rfl ?_
      refine A_aload_n 0 d_Pairing_weigh_94 rfl rfl ?_
      refine A_getIv (z := x4) T_ok d_Pairing_weigh_95 f_Pairing_27 (xi_s k0.1 sf_164) ex4.symm ?_
      have jp122 : ∀ (j56 : Int) , (-2147483648) ≤ j56 → j56 ≤ 2147483647 → aw G (rm_R 3 0 0) m_Pairing_weigh 0 0 122 [some (av_R (some 164)), some (av_R (some a1)), some (av_R (some a2)), some (av_I a3), some (av_I a4), some (av_I x3), some (av_I j54), none, none, none, none, none] [av_I j56] h (fun r h' => r = none ∧ kF FCR s h h') := by
        intro j56  _ _ 
        refine A_istore (L' := [some (av_R (some 164)), some (av_R (some a1)), some (av_R (some a2)), some (av_I a3), some (av_I a4), some (av_I x3), some (av_I j54), some (av_I j56), none, none, none, none]) d_Pairing_weigh_122 (Nat.le_of_ble_eq_true rfl) rfl ?_
        refine A_iload d_Pairing_weigh_124 rfl ?_
        refine A_aload_n 0 d_Pairing_weigh_126 rfl rfl ?_
        refine A_getIn (lo := 0) (hi := 80) T_ok d_Pairing_weigh_127 f_Pairing_42 (xi_s k0.1 sf_164) (xi_g k0.1 (by decide) rgf_164_6) (fun x57 ex57 _ _ => ?_)
        have jp154 : ∀ (j58 : Int) , (-2147483648) ≤ j58 → j58 ≤ 2147483647 → aw G (rm_R 3 0 0) m_Pairing_weigh 0 0 154 [some (av_R (some 164)), some (av_R (some a1)), some (av_R (some a2)), some (av_I a3), some (av_I a4), some (av_I x3), some (av_I j54), some (av_I j56), none, none, none, none] [av_I j58] h (fun r h' => r = none ∧ kF FCR s h h') := by
          intro j58  _ _ 
          refine A_istore (L' := [some (av_R (some 164)), some (av_R (some a1)), some (av_R (some a2)), some (av_I a3), some (av_I a4), some (av_I x3), some (av_I j54), some (av_I j56), some (av_I j58), none, none, none]) d_Pairing_weigh_154 (Nat.le_of_ble_eq_true rfl) rfl ?_
          refine A_iload d_Pairing_weigh_156 rfl ?_
          refine A_iload d_Pairing_weigh_158 rfl ?_
          refine A_iload d_Pairing_weigh_160 rfl ?_
          refine A_mmin d_Pairing_weigh_162 lm_Pairing_62 ma_min (by decide) (by decide) (Nat.le_of_ble_eq_true rfl) rfl ?_
          refine A_nrI (fun x59 ex59 _ _ => ?_)
          have bx59 := mmin_r ex59
          refine A_pc (pc' := 165) rfl ?_
          refine A_mmin d_Pairing_weigh_165 lm_Pairing_62 ma_min (by decide) (by decide) (Nat.le_of_ble_eq_true rfl) rfl ?_
          refine A_nrI (fun x60 ex60 _ _ => ?_)
          have bx60 := mmin_r ex60
          refine A_istore (L' := [some (av_R (some 164)), some (av_R (some a1)), some (av_R (some a2)), some (av_I a3), some (av_I a4), some (av_I x3), some (av_I j54), some (av_I j56), some (av_I j58), some (av_I x60), none, none]) d_Pairing_weigh_168 (Nat.le_of_ble_eq_true rfl) rfl ?_
          refine A_lconst_0 d_Pairing_weigh_170 ?_
          refine A_lstore (L' := [some (av_R (some 164)), some (av_R (some a1)), some (av_R (some a2)), some (av_I a3), some (av_I a4), some (av_I x3), some (av_I j54), some (av_I j56), some (av_I j58), some (av_I x60), some (av_L 0), none]) d_Pairing_weigh_171 (Nat.le_of_ble_eq_true rfl) rfl ?_
          refine A_lload d_Pairing_weigh_173 rfl ?_
          refine A_iload d_Pairing_weigh_175 rfl ?_
          refine A_pc (pc' := 177) rfl ?_
          refine A_iload d_Pairing_weigh_177 rfl ?_
          have jp203 : ∀ (j61 : Int) , (-2147483648) ≤ j61 → j61 ≤ 2147483647 → aw G (rm_R 3 0 0) m_Pairing_weigh 0 0 203 [some (av_R (some 164)), some (av_R (some a1)), some (av_R (some a2)), some (av_I a3), some (av_I a4), some (av_I x3), some (av_I j54), some (av_I j56), some (av_I j58), some (av_I x60), some (av_L 0), none] [av_L j61, av_L 0] h (fun r h' => r = none ∧ kF FCR s h h') := by
            intro j61  _ _ 
            refine A_laddv (z := j61) d_Pairing_weigh_203 (w64_to (by omega) (by unfold i64; omega)) ?_
            refine A_lstore (L' := [some (av_R (some 164)), some (av_R (some a1)), some (av_R (some a2)), some (av_I a3), some (av_I a4), some (av_I x3), some (av_I j54), some (av_I j56), some (av_I j58), some (av_I x60), some (av_L j61), none]) d_Pairing_weigh_204 (Nat.le_of_ble_eq_true rfl) rfl ?_
            refine A_lload d_Pairing_weigh_206 rfl ?_
            refine A_iload d_Pairing_weigh_208 rfl ?_
            refine A_iload d_Pairing_weigh_210 rfl ?_
            have jp234 : ∀ (j62 : Int) , (-2147483648) ≤ j62 → j62 ≤ 2147483647 → aw G (rm_R 3 0 0) m_Pairing_weigh 0 0 234 [some (av_R (some 164)), some (av_R (some a1)), some (av_R (some a2)), some (av_I a3), some (av_I a4), some (av_I x3), some (av_I j54), some (av_I j56), some (av_I j58), some (av_I x60), some (av_L j61), none] [av_L j62, av_L j61] h (fun r h' => r = none ∧ kF FCR s h h') := by
              intro j62  _ _ 
              refine A_laddv (z := (j61 + j62)) d_Pairing_weigh_234 (w64_to (by omega) (by unfold i64; omega)) ?_
              refine A_lstore (L' := [some (av_R (some 164)), some (av_R (some a1)), some (av_R (some a2)), some (av_I a3), some (av_I a4), some (av_I x3), some (av_I j54), some (av_I j56), some (av_I j58), some (av_I x60), some (av_L (j61 + j62)), none]) d_Pairing_weigh_235 (Nat.le_of_ble_eq_true rfl) rfl ?_
              refine A_lload d_Pairing_weigh_237 rfl ?_
              refine A_iload d_Pairing_weigh_239 rfl ?_
              refine A_iload d_Pairing_weigh_241 rfl ?_
              have jp265 : ∀ (j63 : Int) , (-2147483648) ≤ j63 → j63 ≤ 2147483647 → aw G (rm_R 3 0 0) m_Pairing_weigh 0 0 265 [some (av_R (some 164)), some (av_R (some a1)), some (av_R (some a2)), some (av_I a3), some (av_I a4), some (av_I x3), some (av_I j54), some (av_I j56), some (av_I j58), some (av_I x60), some (av_L (j61 + j62)), none] [av_L j63, av_L (j61 + j62)] h (fun r h' => r = none ∧ kF FCR s h h') := by
                intro j63  _ _ 
                refine A_laddv (z := (j61 + j62 + j63)) d_Pairing_weigh_265 (w64_to (by omega) (by unfold i64; omega)) ?_
                refine A_lstore (L' := [some (av_R (some 164)), some (av_R (some a1)), some (av_R (some a2)), some (av_I a3), some (av_I a4), some (av_I x3), some (av_I j54), some (av_I j56), some (av_I j58), some (av_I x60), some (av_L (j61 + j62 + j63)), none]) d_Pairing_weigh_266 (Nat.le_of_ble_eq_true rfl) rfl ?_
                refine A_aload_n 0 d_Pairing_weigh_268 rfl rfl ?_
                refine A_getAv (z := some 167) T_ok d_Pairing_weigh_269 f_Pairing_18 (xi_s k0.1 sf_164) (xi_r k0.1 rff_164_2) ?_
                refine A_iload d_Pairing_weigh_272 rfl ?_
                refine A_pc (pc' := 274) rfl ?_
                refine A_iload d_Pairing_weigh_274 rfl ?_
                refine A_iastorek (KR := kF FCR s h) d_Pairing_weigh_276 (xi_s k0.1 sf_167) (by omega) (by omega) (kF_j k0 (by decide) (ns_b rfl) (rgf_167 _) (by omega) (by omega)) (fun h65 k66 eh65 => ?_)
                refine A_aload_n 0 d_Pairing_weigh_277 rfl rfl ?_
                refine A_getAv (z := some 168) T_ok d_Pairing_weigh_278 f_Pairing_21 (xi_s k66.1 sf_164) (xi_r k66.1 rff_164_3) ?_
                refine A_iload d_Pairing_weigh_281 rfl ?_
                refine A_lload d_Pairing_weigh_283 rfl ?_
                refine A_pc (pc' := 285) rfl ?_
                refine A_ldc2 (z := 1000000007) d_Pairing_weigh_285 cst_Pairing_92 rfl ?_
                refine A_lremc d_Pairing_weigh_288 (by decide) (fun x68 ex68 _ _ => ?_)
                have bx68 := rem_c ex68 (by decide)
                refine A_l2iv (z := x68) d_Pairing_weigh_289 (w32_id (by unfold i32; omega)) ?_
                refine A_iastorek (KR := kF FCR s h) d_Pairing_weigh_290 (xi_s k66.1 sf_168) (by omega) (by omega) (kF_j k66 (by decide) (ns_b rfl) (rgf_168 _) (by omega) (by omega)) (fun h69 k70 eh69 => ?_)
                exact A_vret d_Pairing_weigh_291 (by decide) rfl ⟨rfl, k70⟩
              refine A_icmp_ne (tgt := 264) d_Pairing_weigh_243 (by decide) (fun c71 => ?_) (fun c71 => ?_)
              · refine A_lconst_0 d_Pairing_weigh_264 ?_
                refine A_pc (pc' := 265) rfl ?_
                exact jp265 0 (by omega) (by omega)
              · refine A_aload_n 0 d_Pairing_weigh_246 rfl rfl ?_
                refine A_getAv (z := some 168) T_ok d_Pairing_weigh_247 f_Pairing_21 (xi_s k0.1 sf_164) (xi_r k0.1 rff_164_3) ?_
                refine A_aload_n 0 d_Pairing_weigh_250 rfl rfl ?_
                refine A_iload_n 3 d_Pairing_weigh_251 rfl rfl ?_
                refine A_iload d_Pairing_weigh_252 rfl ?_
                refine A_pc (pc' := 254) rfl ?_
                refine A_iconst d_Pairing_weigh_254 rfl ?_
                refine A_iaddv (z := (a4 + 1)) d_Pairing_weigh_255 (w32_to (by omega) (by unfold i32; omega)) ?_
                refine A_callV2 m_Pairing_slot T_ok d_Pairing_weigh_256 l_Pairing_82 k_Pairing_slot (xi_s k0.1 sf_164) rfl (by decide +kernel) (by decide) (Nat.le_of_ble_eq_true rfl) (s_Pairing_slot k0.1 (by omega) (by omega) (by omega) (by omega)) (fun r h73 hq => ?_)
                obtain ⟨x75, rfl, ⟨_, _⟩, rfl⟩ := hq
                refine A_ialoadf d_Pairing_weigh_259 (xi_s k0.1 sf_168) (by omega) (by omega) (fun x76 ex76 _ _ => ?_)
                refine A_i2l d_Pairing_weigh_260 ?_
                refine A_goto (tgt := 265) d_Pairing_weigh_261 (by decide) ?_
                refine A_pc (pc' := 265) rfl ?_
                exact jp265 x76 (by omega) (by omega)
            refine A_icmp_ne (tgt := 233) d_Pairing_weigh_212 (by decide) (fun c77 => ?_) (fun c77 => ?_)
            · refine A_lconst_0 d_Pairing_weigh_233 ?_
              refine A_pc (pc' := 234) rfl ?_
              exact jp234 0 (by omega) (by omega)
            · refine A_aload_n 0 d_Pairing_weigh_215 rfl rfl ?_
              refine A_getAv (z := some 168) T_ok d_Pairing_weigh_216 f_Pairing_21 (xi_s k0.1 sf_164) (xi_r k0.1 rff_164_3) ?_
              refine A_aload_n 0 d_Pairing_weigh_219 rfl rfl ?_
              refine A_iload_n 3 d_Pairing_weigh_220 rfl rfl ?_
              refine A_iconst d_Pairing_weigh_221 rfl ?_
              refine A_pc (pc' := 222) rfl ?_
              refine A_iaddv (z := (a3 + 1)) d_Pairing_weigh_222 (w32_to (by omega) (by unfold i32; omega)) ?_
              refine A_iload d_Pairing_weigh_223 rfl ?_
              refine A_callV2 m_Pairing_slot T_ok d_Pairing_weigh_225 l_Pairing_82 k_Pairing_slot (xi_s k0.1 sf_164) rfl (by decide +kernel) (by decide) (Nat.le_of_ble_eq_true rfl) (s_Pairing_slot k0.1 (by omega) (by omega) (by omega) (by omega)) (fun r h79 hq => ?_)
              obtain ⟨x81, rfl, ⟨_, _⟩, rfl⟩ := hq
              refine A_ialoadf d_Pairing_weigh_228 (xi_s k0.1 sf_168) (by omega) (by omega) (fun x82 ex82 _ _ => ?_)
              refine A_i2l d_Pairing_weigh_229 ?_
              refine A_goto (tgt := 234) d_Pairing_weigh_230 (by decide) ?_
              refine A_pc (pc' := 234) rfl ?_
              exact jp234 x82 (by omega) (by omega)
          refine A_icmp_ne (tgt := 202) d_Pairing_weigh_179 (by decide) (fun c83 => ?_) (fun c83 => ?_)
          · refine A_lconst_0 d_Pairing_weigh_202 ?_
            refine A_pc (pc' := 203) rfl ?_
            exact jp203 0 (by omega) (by omega)
          · refine A_aload_n 0 d_Pairing_weigh_182 rfl rfl ?_
            refine A_getAv (z := some 168) T_ok d_Pairing_weigh_183 f_Pairing_21 (xi_s k0.1 sf_164) (xi_r k0.1 rff_164_3) ?_
            refine A_aload_n 0 d_Pairing_weigh_186 rfl rfl ?_
            refine A_iload_n 3 d_Pairing_weigh_187 rfl rfl ?_
            refine A_iconst d_Pairing_weigh_188 rfl ?_
            refine A_pc (pc' := 189) rfl ?_
            refine A_iaddv (z := (a3 + 1)) d_Pairing_weigh_189 (w32_to (by omega) (by unfold i32; omega)) ?_
            refine A_iload d_Pairing_weigh_190 rfl ?_
            refine A_iconst d_Pairing_weigh_192 rfl ?_
            refine A_iaddv (z := (a4 + 1)) d_Pairing_weigh_193 (w32_to (by omega) (by unfold i32; omega)) ?_
            refine A_callV2 m_Pairing_slot T_ok d_Pairing_weigh_194 l_Pairing_82 k_Pairing_slot (xi_s k0.1 sf_164) rfl (by decide +kernel) (by decide) (Nat.le_of_ble_eq_true rfl) (s_Pairing_slot k0.1 (by omega) (by omega) (by omega) (by omega)) (fun r h85 hq => ?_)
            obtain ⟨x87, rfl, ⟨_, _⟩, rfl⟩ := hq
            refine A_ialoadf d_Pairing_weigh_197 (xi_s k0.1 sf_168) (by omega) (by omega) (fun x88 ex88 _ _ => ?_)
            refine A_i2l d_Pairing_weigh_198 ?_
            refine A_goto (tgt := 203) d_Pairing_weigh_199 (by decide) ?_
            refine A_pc (pc' := 203) rfl ?_
            exact jp203 x88 (by omega) (by omega)
        refine A_icmp_ge (tgt := 152) d_Pairing_weigh_130 (by decide) (fun c89 => ?_) (fun c89 => ?_)
        · refine A_ldc (z := 2147483647) d_Pairing_weigh_152 cst_Pairing_91 rfl ?_
          refine A_pc (pc' := 154) rfl ?_
          exact jp154 2147483647 (by omega) (by omega)
        · refine A_iconst d_Pairing_weigh_133 rfl ?_
          refine A_aload_n 0 d_Pairing_weigh_134 rfl rfl ?_
          refine A_getAv (z := some 167) T_ok d_Pairing_weigh_135 f_Pairing_18 (xi_s k0.1 sf_164) (xi_r k0.1 rff_164_2) ?_
          refine A_aload_n 0 d_Pairing_weigh_138 rfl rfl ?_
          refine A_iload_n 3 d_Pairing_weigh_139 rfl rfl ?_
          refine A_pc (pc' := 140) rfl ?_
          refine A_iload d_Pairing_weigh_140 rfl ?_
          refine A_iconst d_Pairing_weigh_142 rfl ?_
          refine A_iaddv (z := (a4 + 1)) d_Pairing_weigh_143 (w32_to (by omega) (by unfold i32; omega)) ?_
          refine A_callV2 m_Pairing_slot T_ok d_Pairing_weigh_144 l_Pairing_82 k_Pairing_slot (xi_s k0.1 sf_164) rfl (by decide +kernel) (by decide) (Nat.le_of_ble_eq_true rfl) (s_Pairing_slot k0.1 (by omega) (by omega) (by omega) (by omega)) (fun r h91 hq => ?_)
          obtain ⟨x93, rfl, ⟨_, _⟩, rfl⟩ := hq
          refine A_ialoadf d_Pairing_weigh_147 (xi_s k0.1 sf_167) (by omega) (by omega) (fun x94 ex94 _ _ => ?_)
          refine A_iaddw d_Pairing_weigh_148 (fun x95 _ _ _ => ?_)
          refine A_goto (tgt := 154) d_Pairing_weigh_149 (by decide) ?_
          refine A_pc (pc' := 154) rfl ?_
          exact jp154 x95 (by omega) (by omega)
      refine A_icmp_ge (tgt := 120) d_Pairing_weigh_98 (by decide) (fun c96 => ?_) (fun c96 => ?_)
      · refine A_ldc (z := 2147483647) d_Pairing_weigh_120 cst_Pairing_91 rfl ?_
        refine A_pc (pc' := 122) rfl ?_
        exact jp122 2147483647 (by omega) (by omega)
      · refine A_iconst d_Pairing_weigh_101 rfl ?_
        refine A_aload_n 0 d_Pairing_weigh_102 rfl rfl ?_
        refine A_getAv (z := some 167) T_ok d_Pairing_weigh_103 f_Pairing_18 (xi_s k0.1 sf_164) (xi_r k0.1 rff_164_2) ?_
        refine A_aload_n 0 d_Pairing_weigh_106 rfl rfl ?_
        refine A_iload_n 3 d_Pairing_weigh_107 rfl rfl ?_
        refine A_pc (pc' := 108) rfl ?_
        refine A_iconst d_Pairing_weigh_108 rfl ?_
        refine A_iaddv (z := (a3 + 1)) d_Pairing_weigh_109 (w32_to (by omega) (by unfold i32; omega)) ?_
        refine A_iload d_Pairing_weigh_110 rfl ?_
        refine A_callV2 m_Pairing_slot T_ok d_Pairing_weigh_112 l_Pairing_82 k_Pairing_slot (xi_s k0.1 sf_164) rfl (by decide +kernel) (by decide) (Nat.le_of_ble_eq_true rfl) (s_Pairing_slot k0.1 (by omega) (by omega) (by omega) (by omega)) (fun r h98 hq => ?_)
        obtain ⟨x100, rfl, ⟨_, _⟩, rfl⟩ := hq
        refine A_ialoadf d_Pairing_weigh_115 (xi_s k0.1 sf_167) (by omega) (by omega) (fun x101 ex101 _ _ => ?_)
        refine A_iaddw d_Pairing_weigh_116 (fun x102 _ _ _ => ?_)
        refine A_goto (tgt := 122) d_Pairing_weigh_117 (by decide) ?_
        refine A_pc (pc' := 122) rfl ?_
        exact jp122 x102 (by omega) (by omega)
    refine A_icmp_ge (tgt := 89) d_Pairing_weigh_48 (by decide) (fun c103 => ?_) (fun c103 => ?_)
    · refine A_pc (pc' := 89) rfl ?_
      exact jp89 
    · refine A_iload d_Pairing_weigh_51 rfl ?_
      refine A_aload_n 0 d_Pairing_weigh_53 rfl rfl ?_
      refine A_getIn (lo := 0) (hi := 80) T_ok d_Pairing_weigh_54 f_Pairing_42 (xi_s k0.1 sf_164) (xi_g k0.1 (by decide) rgf_164_6) (fun x104 ex104 _ _ => ?_)
      refine A_icmp_ge (tgt := 89) d_Pairing_weigh_57 (by decide) (fun c105 => ?_) (fun c105 => ?_)
      · refine A_pc (pc' := 89) rfl ?_
        exact jp89 
      · refine A_aload_n 0 d_Pairing_weigh_60 rfl rfl ?_
        refine A_aload_n 1 d_Pairing_weigh_61 rfl rfl ?_
        refine A_aload_n 2 d_Pairing_weigh_62 rfl rfl ?_
        refine A_iload_n 3 d_Pairing_weigh_63 rfl rfl ?_
        refine A_iload d_Pairing_weigh_64 rfl ?_
        refine A_pc (pc' := 66) rfl ?_
        refine A_callV4 m_Pairing_pairCost T_ok d_Pairing_weigh_66 l_Pairing_85 k_Pairing_pairCost (xi_s k0.1 sf_164) rfl (by decide +kernel) (by decide) (Nat.le_of_ble_eq_true rfl) (s_Pairing_pairCost k0.1 ha1 ha2 (by omega) (by omega) (by omega) (by omega)) (fun r h106 hq => ?_)
        obtain ⟨x108, rfl, ⟨_, _⟩, rfl⟩ := hq
        refine A_aload_n 0 d_Pairing_weigh_69 rfl rfl ?_
        refine A_getAv (z := some 167) T_ok d_Pairing_weigh_70 f_Pairing_18 (xi_s k0.1 sf_164) (xi_r k0.1 rff_164_2) ?_
        refine A_aload_n 0 d_Pairing_weigh_73 rfl rfl ?_
        refine A_iload_n 3 d_Pairing_weigh_74 rfl rfl ?_
        refine A_iconst d_Pairing_weigh_75 rfl ?_
        refine A_pc (pc' := 76) rfl ?_
        refine A_iaddv (z := (a3 + 1)) d_Pairing_weigh_76 (w32_to (by omega) (by unfold i32; omega)) ?_
        refine A_iload d_Pairing_weigh_77 rfl ?_
        refine A_iconst d_Pairing_weigh_79 rfl ?_
        refine A_iaddv (z := (a4 + 1)) d_Pairing_weigh_80 (w32_to (by omega) (by unfold i32; omega)) ?_
        refine A_callV2 m_Pairing_slot T_ok d_Pairing_weigh_81 l_Pairing_82 k_Pairing_slot (xi_s k0.1 sf_164) rfl (by decide +kernel) (by decide) (Nat.le_of_ble_eq_true rfl) (s_Pairing_slot k0.1 (by omega) (by omega) (by omega) (by omega)) (fun r h110 hq => ?_)
        obtain ⟨x112, rfl, ⟨_, _⟩, rfl⟩ := hq
        refine A_ialoadf d_Pairing_weigh_84 (xi_s k0.1 sf_167) (by omega) (by omega) (fun x113 ex113 _ _ => ?_)
        refine A_iaddw d_Pairing_weigh_85 (fun x114 _ _ _ => ?_)
        refine A_goto (tgt := 91) d_Pairing_weigh_86 (by decide) ?_
        refine A_pc (pc' := 91) rfl ?_
        exact jp91 x114 (by omega) (by omega)
  refine A_icmp_ne (tgt := 43) d_Pairing_weigh_14 (by decide) (fun c115 => ?_) (fun c115 => ?_)
  · refine A_pc (pc' := 43) rfl ?_
    exact jp43 
  · refine A_iload d_Pairing_weigh_17 rfl ?_
    refine A_aload_n 0 d_Pairing_weigh_19 rfl rfl ?_
    refine A_getIn (lo := 0) (hi := 80) T_ok d_Pairing_weigh_20 f_Pairing_42 (xi_s k0.1 sf_164) (xi_g k0.1 (by decide) rgf_164_6) (fun x116 ex116 _ _ => ?_)
    refine A_icmp_ne (tgt := 43) d_Pairing_weigh_23 (by decide) (fun c117 => ?_) (fun c117 => ?_)
    · refine A_pc (pc' := 43) rfl ?_
      exact jp43 
    · refine A_aload_n 0 d_Pairing_weigh_26 rfl rfl ?_
      refine A_getAv (z := some 167) T_ok d_Pairing_weigh_27 f_Pairing_18 (xi_s k0.1 sf_164) (xi_r k0.1 rff_164_2) ?_
      refine A_iload d_Pairing_weigh_30 rfl ?_
      refine A_iconst d_Pairing_weigh_32 rfl ?_
      refine A_iastorek (KR := kF FCR s h) d_Pairing_weigh_33 (xi_s k0.1 sf_167) (by omega) (by omega) (kF_j k0 (by decide) (ns_b rfl) (rgf_167 _) (by omega) (by omega)) (fun h119 k120 eh119 => ?_)
      refine A_pc (pc' := 34) rfl ?_
      refine A_aload_n 0 d_Pairing_weigh_34 rfl rfl ?_
      refine A_getAv (z := some 168) T_ok d_Pairing_weigh_35 f_Pairing_21 (xi_s k120.1 sf_164) (xi_r k120.1 rff_164_3) ?_
      refine A_iload d_Pairing_weigh_38 rfl ?_
      refine A_iconst d_Pairing_weigh_40 rfl ?_
      refine A_iastorek (KR := kF FCR s h) d_Pairing_weigh_41 (xi_s k120.1 sf_168) (by omega) (by omega) (kF_j k120 (by decide) (ns_b rfl) (rgf_168 _) (by omega) (by omega)) (fun h122 k123 eh122 => ?_)
      exact A_vret d_Pairing_weigh_42 (by decide) rfl ⟨rfl, k123⟩
theorem z_Pairing_choose {G : cx_T} {s : Nat} {h : ah_T} (hx : xi s h) {a1 : Nat} {a2 : Nat} (ha1 : isV a1) (ha2 : isV a2) : con G 4 0 0 m_Pairing_choose [av_R (some 164), av_R (some a1), av_R (some a2)] h (fun r h' => r = none ∧ kF FCR s h h') := by
  refine con_of (L := [some (av_R (some 164)), some (av_R (some a1)), some (av_R (some a2)), none, none]) (by decide +kernel) (Nat.le_of_ble_eq_true rfl) rfl ?_
  have hS : isS s := hx.2.1
  have hs0 : s = 17 ∨ s = 80 := hS
  have k0 : kF FCR s h h := kF_0 hx
  have ga1 := lt_V ha1
  have ga2 := lt_V ha2
  refine A_iconst d_Pairing_choose_0 rfl ?_
  refine A_istore_n 3 (L' := [some (av_R (some 164)), some (av_R (some a1)), some (av_R (some a2)), some (av_I 0), none]) d_Pairing_choose_1 rfl (Nat.le_of_ble_eq_true rfl) rfl ?_
  refine A_iconst d_Pairing_choose_2 rfl ?_
  refine A_istore (L' := [some (av_R (some 164)), some (av_R (some a1)), some (av_R (some a2)), some (av_I 0), some (av_I 0)]) d_Pairing_choose_3 (Nat.le_of_ble_eq_true rfl) rfl ?_
  have lp5 : ∀ (n : Nat) (i1 i2 : Int) (h3 : ah_T) , 0 ≤ i1 → i1 ≤ 80 → 0 ≤ i2 → i2 ≤ 80 → kF FCR s h h3 → (81 - i2).toNat < n → aw G (rm_R 4 0 0) m_Pairing_choose 0 0 5 [some (av_R (some 164)), some (av_R (some a1)), some (av_R (some a2)), some (av_I i1), some (av_I i2)] [] h3 (fun r h' => r = none ∧ kF FCR s h h') := by
    intro n
    induction n with
    | zero => intro i1 i2 h3 _ _ _ _ _ hm; omega
    | succ n ih5 =>
      intro i1 i2 h3 hl0 hl1 hl2 hl3 k4 hm
      refine A_iload d_Pairing_choose_5 rfl ?_
      refine A_aload_n 0 d_Pairing_choose_7 rfl rfl ?_
      refine A_getIn (lo := 0) (hi := 80) T_ok d_Pairing_choose_8 f_Pairing_27 (xi_s k4.1 sf_164) (xi_g k4.1 (by decide) rgf_164_5) (fun x5 ex5 _ _ => ?_)
      refine A_icmp_ge (tgt := 96) d_Pairing_choose_11 (by decide) (fun c6 => ?_) (fun c6 => ?_)
      · exact A_vret d_Pairing_choose_96 (by decide) rfl ⟨rfl, k4⟩
      · refine A_aload_n 0 d_Pairing_choose_14 rfl rfl ?_
        refine A_getAv (z := some 169) T_ok d_Pairing_choose_15 f_Pairing_24 (xi_s k4.1 sf_164) (xi_r k4.1 rff_164_4) ?_
        refine A_iload d_Pairing_choose_18 rfl ?_
        refine A_bipush d_Pairing_choose_20 rfl ?_
        refine A_iastorek (KR := kF FCR s h) d_Pairing_choose_22 (xi_s k4.1 sf_169) (by omega) (by omega) (kF_j k4 (by decide) (ns_b rfl) (rgf_169 _) (by omega) (by omega)) (fun h8 k9 eh8 => ?_)
        have lp23 : ∀ (n : Nat) (i10 : Int) , 0 ≤ i10 → i10 ≤ 80 → (81 - i10).toNat < n → aw G (rm_R 4 0 0) m_Pairing_choose 0 0 23 [some (av_R (some 164)), some (av_R (some a1)), some (av_R (some a2)), some (av_I i10), some (av_I i2)] [] h8 (fun r h' => r = none ∧ kF FCR s h h') := by
          intro n
          induction n with
          | zero => intro i10 _ _ hm; omega
          | succ n ih23 =>
            intro i10 hl0 hl1 hm
            refine A_iload_n 3 d_Pairing_choose_23 rfl rfl ?_
            refine A_aload_n 0 d_Pairing_choose_24 rfl rfl ?_
            refine A_getIn (lo := 0) (hi := 80) T_ok d_Pairing_choose_25 f_Pairing_42 (xi_s k9.1 sf_164) (xi_g k9.1 (by decide) rgf_164_6) (fun x11 ex11 _ _ => ?_)
            refine A_icmp_ge (tgt := 59) d_Pairing_choose_28 (by decide) (fun c12 => ?_) (fun c12 => ?_)
            · refine A_iload_n 3 d_Pairing_choose_59 rfl rfl ?_
              refine A_aload_n 0 d_Pairing_choose_60 rfl rfl ?_
              refine A_getIv (z := x11) T_ok d_Pairing_choose_61 f_Pairing_42 (xi_s k9.1 sf_164) ex11.symm ?_
              refine A_icmp_ge (tgt := 90) d_Pairing_choose_64 (by decide) (fun c14 => ?_) (fun c => False.elim (by omega))
              refine A_iincv (z := (i2 + 1)) (L' := [some (av_R (some 164)), some (av_R (some a1)), some (av_R (some a2)), some (av_I i10), some (av_I (i2 + 1))]) d_Pairing_choose_90 rfl (w32_to (by omega) (by unfold i32; omega)) rfl ?_
              refine A_goto (tgt := 5) d_Pairing_choose_93 (by decide) ?_
              exact ih5 i10 (i2 + 1) h8 (by omega) (by omega) (by omega) (by omega) k9 (by omega)
            · refine A_aload_n 0 d_Pairing_choose_31 rfl rfl ?_
              refine A_aload_n 1 d_Pairing_choose_32 rfl rfl ?_
              refine A_aload_n 2 d_Pairing_choose_33 rfl rfl ?_
              refine A_iload d_Pairing_choose_34 rfl ?_
              refine A_iload_n 3 d_Pairing_choose_36 rfl rfl ?_
              refine A_pc (pc' := 37) rfl ?_
              refine A_callV4 m_Pairing_isPair T_ok d_Pairing_choose_37 l_Pairing_94 k_Pairing_isPair (xi_s k9.1 sf_164) rfl (by decide +kernel) (by decide) (Nat.le_of_ble_eq_true rfl) (s_Pairing_isPair k9.1 ha1 ha2 (by omega) (by omega) (by omega) (by omega)) (fun r h15 hq => ?_)
              obtain ⟨x17, rfl, bx17, rfl⟩ := hq
              refine A_if_ne (tgt := 59) d_Pairing_choose_40 (by decide) (fun c18 => ?_) (fun c18 => ?_)
              · refine A_iload_n 3 d_Pairing_choose_59 rfl rfl ?_
                refine A_aload_n 0 d_Pairing_choose_60 rfl rfl ?_
                refine A_getIv (z := x11) T_ok d_Pairing_choose_61 f_Pairing_42 (xi_s k9.1 sf_164) ex11.symm ?_
                refine A_icmp_ge (tgt := 90) d_Pairing_choose_64 (by decide) (fun c => False.elim (by omega)) (fun c20 => ?_)
                refine A_aload_n 0 d_Pairing_choose_67 rfl rfl ?_
                refine A_aload_n 1 d_Pairing_choose_68 rfl rfl ?_
                refine A_aload_n 2 d_Pairing_choose_69 rfl rfl ?_
                refine A_iload d_Pairing_choose_70 rfl ?_
                refine A_iload_n 3 d_Pairing_choose_72 rfl rfl ?_
                refine A_pc (pc' := 73) rfl ?_
                refine A_callV4 m_Pairing_isPair T_ok d_Pairing_choose_73 l_Pairing_94 k_Pairing_isPair (xi_s k9.1 sf_164) rfl (by decide +kernel) (by decide) (Nat.le_of_ble_eq_true rfl) (s_Pairing_isPair k9.1 ha1 ha2 (by omega) (by omega) (by omega) (by omega)) (fun r h21 hq => ?_)
                obtain ⟨x23, rfl, bx23, rfl⟩ := hq
                refine A_if_eq (tgt := 90) d_Pairing_choose_76 (by decide) (fun c24 => ?_) (fun c24 => ?_)
                · refine A_iincv (z := (i2 + 1)) (L' := [some (av_R (some 164)), some (av_R (some a1)), some (av_R (some a2)), some (av_I i10), some (av_I (i2 + 1))]) d_Pairing_choose_90 rfl (w32_to (by omega) (by unfold i32; omega)) rfl ?_
                  refine A_goto (tgt := 5) d_Pairing_choose_93 (by decide) ?_
                  exact ih5 i10 (i2 + 1) h8 (by omega) (by omega) (by omega) (by omega) k9 (by omega)
                · refine A_aload_n 0 d_Pairing_choose_79 rfl rfl ?_
                  refine A_getAv (z := some 169) T_ok d_Pairing_choose_80 f_Pairing_24 (xi_s k9.1 sf_164) (xi_r k9.1 rff_164_4) ?_
                  refine A_iload d_Pairing_choose_83 rfl ?_
                  refine A_iload_n 3 d_Pairing_choose_85 rfl rfl ?_
                  refine A_iastorek (KR := kF FCR s h) d_Pairing_choose_86 (xi_s k9.1 sf_169) (by omega) (by omega) (kF_j k9 (by decide) (ns_b rfl) (rgf_169 _) (by omega) (by omega)) (fun h26 k27 eh26 => ?_)
                  refine A_pc (pc' := 87) rfl ?_
                  refine A_iincv (z := (i10 + 1)) (L' := [some (av_R (some 164)), some (av_R (some a1)), some (av_R (some a2)), some (av_I (i10 + 1)), some (av_I i2)]) d_Pairing_choose_87 rfl (w32_to (by omega) (by unfold i32; omega)) rfl ?_
                  refine A_iincv (z := (i2 + 1)) (L' := [some (av_R (some 164)), some (av_R (some a1)), some (av_R (some a2)), some (av_I (i10 + 1)), some (av_I (i2 + 1))]) d_Pairing_choose_90 rfl (w32_to (by omega) (by unfold i32; omega)) rfl ?_
                  refine A_goto (tgt := 5) d_Pairing_choose_93 (by decide) ?_
                  exact ih5 (i10 + 1) (i2 + 1) h26 (by omega) (by omega) (by omega) (by omega) k27 (by omega)
              · refine A_aload_n 0 d_Pairing_choose_43 rfl rfl ?_
                refine A_iload d_Pairing_choose_44 rfl ?_
                refine A_iload_n 3 d_Pairing_choose_46 rfl rfl ?_
                refine A_callV2 m_Pairing_isFirstAlone T_ok d_Pairing_choose_47 l_Pairing_98 k_Pairing_isFirstAlone (xi_s k9.1 sf_164) rfl (by decide +kernel) (by decide) (Nat.le_of_ble_eq_true rfl) (s_Pairing_isFirstAlone k9.1 (by omega) (by omega) (by omega) (by omega)) (fun r h28 hq => ?_)
                obtain ⟨x30, rfl, bx30, rfl⟩ := hq
                refine A_if_ne (tgt := 59) d_Pairing_choose_50 (by decide) (fun c31 => ?_) (fun c31 => ?_)
                · refine A_iload_n 3 d_Pairing_choose_59 rfl rfl ?_
                  refine A_aload_n 0 d_Pairing_choose_60 rfl rfl ?_
                  refine A_getIv (z := x11) T_ok d_Pairing_choose_61 f_Pairing_42 (xi_s k9.1 sf_164) ex11.symm ?_
                  refine A_icmp_ge (tgt := 90) d_Pairing_choose_64 (by decide) (fun c => False.elim (by omega)) (fun c33 => ?_)
                  refine A_aload_n 0 d_Pairing_choose_67 rfl rfl ?_
                  refine A_aload_n 1 d_Pairing_choose_68 rfl rfl ?_
                  refine A_aload_n 2 d_Pairing_choose_69 rfl rfl ?_
                  refine A_iload d_Pairing_choose_70 rfl ?_
                  refine A_iload_n 3 d_Pairing_choose_72 rfl rfl ?_
                  refine A_pc (pc' := 73) rfl ?_
                  refine A_callV4 m_Pairing_isPair T_ok d_Pairing_choose_73 l_Pairing_94 k_Pairing_isPair (xi_s k9.1 sf_164) rfl (by decide +kernel) (by decide) (Nat.le_of_ble_eq_true rfl) (s_Pairing_isPair k9.1 ha1 ha2 (by omega) (by omega) (by omega) (by omega)) (fun r h34 hq => ?_)
                  obtain ⟨x36, rfl, bx36, rfl⟩ := hq
                  refine A_if_eq (tgt := 90) d_Pairing_choose_76 (by decide) (fun c37 => ?_) (fun c37 => ?_)
                  · refine A_iincv (z := (i2 + 1)) (L' := [some (av_R (some 164)), some (av_R (some a1)), some (av_R (some a2)), some (av_I i10), some (av_I (i2 + 1))]) d_Pairing_choose_90 rfl (w32_to (by omega) (by unfold i32; omega)) rfl ?_
                    refine A_goto (tgt := 5) d_Pairing_choose_93 (by decide) ?_
                    exact ih5 i10 (i2 + 1) h8 (by omega) (by omega) (by omega) (by omega) k9 (by omega)
                  · refine A_aload_n 0 d_Pairing_choose_79 rfl rfl ?_
                    refine A_getAv (z := some 169) T_ok d_Pairing_choose_80 f_Pairing_24 (xi_s k9.1 sf_164) (xi_r k9.1 rff_164_4) ?_
                    refine A_iload d_Pairing_choose_83 rfl ?_
                    refine A_iload_n 3 d_Pairing_choose_85 rfl rfl ?_
                    refine A_iastorek (KR := kF FCR s h) d_Pairing_choose_86 (xi_s k9.1 sf_169) (by omega) (by omega) (kF_j k9 (by decide) (ns_b rfl) (rgf_169 _) (by omega) (by omega)) (fun h39 k40 eh39 => ?_)
                    refine A_pc (pc' := 87) rfl ?_
                    refine A_iincv (z := (i10 + 1)) (L' := [some (av_R (some 164)), some (av_R (some a1)), some (av_R (some a2)), some (av_I (i10 + 1)), some (av_I i2)]) d_Pairing_choose_87 rfl (w32_to (by omega) (by unfold i32; omega)) rfl ?_
                    refine A_iincv (z := (i2 + 1)) (L' := [some (av_R (some 164)), some (av_R (some a1)), some (av_R (some a2)), some (av_I (i10 + 1)), some (av_I (i2 + 1))]) d_Pairing_choose_90 rfl (w32_to (by omega) (by unfold i32; omega)) rfl ?_
                    refine A_goto (tgt := 5) d_Pairing_choose_93 (by decide) ?_
                    exact ih5 (i10 + 1) (i2 + 1) h39 (by omega) (by omega) (by omega) (by omega) k40 (by omega)
                · refine A_iincv (z := (i10 + 1)) (L' := [some (av_R (some 164)), some (av_R (some a1)), some (av_R (some a2)), some (av_I (i10 + 1)), some (av_I i2)]) d_Pairing_choose_53 rfl (w32_to (by omega) (by unfold i32; omega)) rfl ?_
                  refine A_goto (tgt := 23) d_Pairing_choose_56 (by decide) ?_
                  exact ih23 (i10 + 1) (by omega) (by omega) (by omega)
        exact lp23 _ i1 (by omega) (by omega) (Nat.lt_succ_self _)
  exact lp5 _ 0 0 h (by omega) (by omega) (by omega) (by omega) k0 (Nat.lt_succ_self _)
theorem z_Pairing_find {G : cx_T} {s : Nat} {h : ah_T} (hx : xi s h) {a1 : Nat} {a2 : Nat} (ha1 : isV a1) (ha2 : isV a2) : con G 5 0 0 m_Pairing_find [av_R (some 164), av_R (some a1), av_R (some a2)] h (fun r h' => ∃ z, r = some (av_I z) ∧ ((-2147483648) ≤ z ∧ z ≤ 2147483647) ∧ kF FCR s h h') := by
  refine con_of (L := [some (av_R (some 164)), some (av_R (some a1)), some (av_R (some a2)), none, none]) (by decide +kernel) (Nat.le_of_ble_eq_true rfl) rfl ?_
  have hS : isS s := hx.2.1
  have hs0 : s = 17 ∨ s = 80 := hS
  have k0 : kF FCR s h h := kF_0 hx
  have ga1 := lt_V ha1
  have ga2 := lt_V ha2
  refine A_aload_n 1 d_Pairing_find_0 rfl rfl ?_
  refine A_callS1 m_Pairing_soundsOf d_Pairing_find_1 l_Pairing_34 k_Pairing_soundsOf (by decide +kernel) (by decide) (Nat.le_of_ble_eq_true rfl) (s_Pairing_soundsOf k0.1 ha1) (fun r h1 hq => ?_)
  obtain ⟨x3, rfl, ⟨_, _⟩, rfl⟩ := hq
  refine A_aload_n 2 d_Pairing_find_4 rfl rfl ?_
  refine A_callS1 m_Pairing_soundsOf d_Pairing_find_5 l_Pairing_34 k_Pairing_soundsOf (by decide +kernel) (by decide) (Nat.le_of_ble_eq_true rfl) (s_Pairing_soundsOf k0.1 ha2) (fun r h4 hq => ?_)
  obtain ⟨x6, rfl, ⟨_, _⟩, rfl⟩ := hq
  refine A_iaddw d_Pairing_find_8 (fun x7 _ _ _ => ?_)
  refine A_bipush d_Pairing_find_9 rfl ?_
  refine A_icmp_le (tgt := 17) d_Pairing_find_11 (by decide) (fun c8 => ?_) (fun c8 => ?_)
  · refine A_aload_n 0 d_Pairing_find_17 rfl rfl ?_
    refine A_aload_n 1 d_Pairing_find_18 rfl rfl ?_
    refine A_aload_n 0 d_Pairing_find_19 rfl rfl ?_
    refine A_getAv (z := some 165) T_ok d_Pairing_find_20 f_Pairing_11 (xi_s k0.1 sf_164) (xi_r k0.1 rff_164_0) ?_
    refine A_callS2 m_Pairing_gather d_Pairing_find_23 l_Pairing_38 k_Pairing_gather (by decide +kernel) (by decide) (Nat.le_of_ble_eq_true rfl) (z_Pairing_gather_a k0.1 ha1) (fun r h10 hq => ?_)
    obtain ⟨x12, rfl, ⟨_, _⟩, k11⟩ := hq
    have k13 := kF_t k0 k11 (fun _ q => q)
    refine A_putIk (KR := kF FCR s h) T_ok d_Pairing_find_26 f_Pairing_27 (xi_s k13.1 sf_164) fin_f (kF_j k13 (by decide) (ns_b rfl) rgf_164_5 (by omega) (by omega)) (fun h14 k15 eh14 => ?_)
    refine A_aload_n 0 d_Pairing_find_29 rfl rfl ?_
    refine A_aload_n 2 d_Pairing_find_30 rfl rfl ?_
    refine A_aload_n 0 d_Pairing_find_31 rfl rfl ?_
    refine A_getAv (z := some 166) T_ok d_Pairing_find_32 f_Pairing_15 (xi_s k15.1 sf_164) (xi_r k15.1 rff_164_1) ?_
    refine A_pc (pc' := 35) rfl ?_
    refine A_callS2 m_Pairing_gather d_Pairing_find_35 l_Pairing_38 k_Pairing_gather (by decide +kernel) (by decide) (Nat.le_of_ble_eq_true rfl) (z_Pairing_gather_b k15.1 ha2) (fun r h17 hq => ?_)
    obtain ⟨x19, rfl, ⟨_, _⟩, k18⟩ := hq
    have k20 := kF_t k15 k18 (fun _ q => q)
    refine A_putIk (KR := kF FCR s h) T_ok d_Pairing_find_38 f_Pairing_42 (xi_s k20.1 sf_164) fin_f (kF_j k20 (by decide) (ns_b rfl) rgf_164_6 (by omega) (by omega)) (fun h21 k22 eh21 => ?_)
    refine A_aload_n 0 d_Pairing_find_41 rfl rfl ?_
    refine A_getIn (lo := 0) (hi := 80) T_ok d_Pairing_find_42 f_Pairing_27 (xi_s k22.1 sf_164) (xi_g k22.1 (by decide) rgf_164_5) (fun x23 ex23 _ _ => ?_)
    refine A_istore_n 3 (L' := [some (av_R (some 164)), some (av_R (some a1)), some (av_R (some a2)), some (av_I x23), none]) d_Pairing_find_45 rfl (Nat.le_of_ble_eq_true rfl) rfl ?_
    have lp46 : ∀ (n : Nat) (i24 : Int) (h25 : ah_T) , (-1) ≤ i24 → i24 ≤ 80 → kF FCR s h h25 → (i24 + 2).toNat < n → aw G (rm_R 5 0 0) m_Pairing_find 0 0 46 [some (av_R (some 164)), some (av_R (some a1)), some (av_R (some a2)), some (av_I i24), none] [] h25 (fun r h' => ∃ z, r = some (av_I z) ∧ ((-2147483648) ≤ z ∧ z ≤ 2147483647) ∧ kF FCR s h h') := by
      intro n
      induction n with
      | zero => intro i24 h25 _ _ _ hm; omega
      | succ n ih46 =>
        intro i24 h25 hl0 hl1 k26 hm
        refine A_iload_n 3 d_Pairing_find_46 rfl rfl ?_
        refine A_if_lt (tgt := 82) d_Pairing_find_47 (by decide) (fun c27 => ?_) (fun c27 => ?_)
        · refine A_aload_n 0 d_Pairing_find_82 rfl rfl ?_
          refine A_aload_n 1 d_Pairing_find_83 rfl rfl ?_
          refine A_aload_n 2 d_Pairing_find_84 rfl rfl ?_
          refine A_callV2 m_Pairing_choose T_ok d_Pairing_find_85 l_Pairing_49 k_Pairing_choose (xi_s k26.1 sf_164) rfl (by decide +kernel) (by decide) (Nat.le_of_ble_eq_true rfl) (z_Pairing_choose k26.1 ha1 ha2) (fun r h28 hq => ?_)
          obtain ⟨rfl, k29⟩ := hq
          have k30 := kF_t k26 k29 (fun _ q => q)
          refine A_aload_n 0 d_Pairing_find_88 rfl rfl ?_
          refine A_aload_n 0 d_Pairing_find_89 rfl rfl ?_
          refine A_getAv (z := some 168) T_ok d_Pairing_find_90 f_Pairing_21 (xi_s k30.1 sf_164) (xi_r k30.1 rff_164_3) ?_
          refine A_iconst d_Pairing_find_93 rfl ?_
          refine A_ialoadf d_Pairing_find_94 (xi_s k30.1 sf_168) (by decide) (by decide) (fun x32 ex32 _ _ => ?_)
          refine A_pc (pc' := 95) rfl ?_
          refine A_putIk (KR := kF FCR s h) T_ok d_Pairing_find_95 f_Pairing_31 (xi_s k30.1 sf_164) fin_f (kF_j k30 (by decide) (ns_b rfl) rgf_164_7 (by omega) (by omega)) (fun h33 k34 eh33 => ?_)
          refine A_aload_n 0 d_Pairing_find_98 rfl rfl ?_
          refine A_getAv (z := some 167) T_ok d_Pairing_find_99 f_Pairing_18 (xi_s k34.1 sf_164) (xi_r k34.1 rff_164_2) ?_
          refine A_iconst d_Pairing_find_102 rfl ?_
          refine A_ialoadf d_Pairing_find_103 (xi_s k34.1 sf_167) (by decide) (by decide) (fun x36 ex36 _ _ => ?_)
          exact A_iret d_Pairing_find_104 (by decide) rfl ⟨_, rfl, ⟨by omega, by omega⟩, k34⟩
        · refine A_aload_n 0 d_Pairing_find_50 rfl rfl ?_
          refine A_getIn (lo := 0) (hi := 80) T_ok d_Pairing_find_51 f_Pairing_42 (xi_s k26.1 sf_164) (xi_g k26.1 (by decide) rgf_164_6) (fun x37 ex37 _ _ => ?_)
          refine A_istore (L' := [some (av_R (some 164)), some (av_R (some a1)), some (av_R (some a2)), some (av_I i24), some (av_I x37)]) d_Pairing_find_54 (Nat.le_of_ble_eq_true rfl) rfl ?_
          have lp56 : ∀ (n : Nat) (i38 : Int) (h39 : ah_T) , (-1) ≤ i38 → i38 ≤ 80 → kF FCR s h h39 → (i38 + 2).toNat < n → aw G (rm_R 5 0 0) m_Pairing_find 0 0 56 [some (av_R (some 164)), some (av_R (some a1)), some (av_R (some a2)), some (av_I i24), some (av_I i38)] [] h39 (fun r h' => ∃ z, r = some (av_I z) ∧ ((-2147483648) ≤ z ∧ z ≤ 2147483647) ∧ kF FCR s h h') := by
            intro n
            induction n with
            | zero => intro i38 h39 _ _ _ hm; omega
            | succ n ih56 =>
              intro i38 h39 hl0 hl1 k40 hm
              refine A_iload d_Pairing_find_56 rfl ?_
              refine A_if_lt (tgt := 76) d_Pairing_find_58 (by decide) (fun c41 => ?_) (fun c41 => ?_)
              · refine A_iincv (z := (i24 - 1)) (L' := [some (av_R (some 164)), some (av_R (some a1)), some (av_R (some a2)), some (av_I (i24 - 1)), some (av_I i38)]) d_Pairing_find_76 rfl (w32_to (by omega) (by unfold i32; omega)) rfl ?_
                refine A_goto (tgt := 46) d_Pairing_find_79 (by decide) ?_
                refine A_free (L' := [some (av_R (some 164)), some (av_R (some a1)), some (av_R (some a2)), some (av_I (i24 - 1)), none]) (And.intro rfl (And.intro rfl (And.intro rfl (And.intro rfl trivial)))) ?_
                exact ih46 (i24 - 1) h39 (by omega) (by omega) k40 (by omega)
              · refine A_aload_n 0 d_Pairing_find_61 rfl rfl ?_
                refine A_aload_n 1 d_Pairing_find_62 rfl rfl ?_
                refine A_aload_n 2 d_Pairing_find_63 rfl rfl ?_
                refine A_iload_n 3 d_Pairing_find_64 rfl rfl ?_
                refine A_iload d_Pairing_find_65 rfl ?_
                refine A_pc (pc' := 67) rfl ?_
                refine A_callV4 m_Pairing_weigh T_ok d_Pairing_find_67 l_Pairing_45 k_Pairing_weigh (xi_s k40.1 sf_164) rfl (by decide +kernel) (by decide) (Nat.le_of_ble_eq_true rfl) (z_Pairing_weigh k40.1 ha1 ha2 (by omega) (by omega) (by omega) (by omega)) (fun r h42 hq => ?_)
                obtain ⟨rfl, k43⟩ := hq
                have k44 := kF_t k40 k43 (fun _ q => q)
                refine A_iincv (z := (i38 - 1)) (L' := [some (av_R (some 164)), some (av_R (some a1)), some (av_R (some a2)), some (av_I i24), some (av_I (i38 - 1))]) d_Pairing_find_70 rfl (w32_to (by omega) (by unfold i32; omega)) rfl ?_
                refine A_goto (tgt := 56) d_Pairing_find_73 (by decide) ?_
                exact ih56 (i38 - 1) h42 (by omega) (by omega) k44 (by omega)
          exact lp56 _ x37 h25 (by omega) (by omega) k26 (Nat.lt_succ_self _)
    exact lp46 _ x23 h21 (by omega) (by omega) k22 (Nat.lt_succ_self _)
  · refine A_bipush d_Pairing_find_14 rfl ?_
    exact A_iret d_Pairing_find_16 (by decide) rfl ⟨_, rfl, ⟨by omega, by omega⟩, k0⟩
theorem z_PM_beside {G : cx_T} {s : Nat} {h : ah_T} (hx : xi s h) {a1 : Int} {a2 : Int}  : con G 6 0 0 m_PM_beside [av_R (some 0), av_I a1, av_I a2] h (fun r h' => ∃ z, r = some (av_I z) ∧ ((-2147483648) ≤ z ∧ z ≤ 2147483647) ∧ kF FCR s h h') := by
  refine con_of (L := [some (av_R (some 0)), some (av_I a1), some (av_I a2), none, none]) (by decide +kernel) (Nat.le_of_ble_eq_true rfl) rfl ?_
  have hS : isS s := hx.2.1
  have hs0 : s = 17 ∨ s = 80 := hS
  have k0 : kF FCR s h h := kF_0 hx
  refine A_locI 1 rfl (fun ra => ?_)
  obtain ⟨_, _⟩ := ra
  refine A_locI 2 rfl (fun ra => ?_)
  obtain ⟨_, _⟩ := ra
  refine A_aload_n 0 d_PM_beside_0 rfl rfl ?_
  refine A_getOv (z := some (97 - s)) T_ok d_PM_beside_1 f_PM_27 (xi_s k0.1 sf_0) k0.1.2.2.1 ?_
  refine A_iload_n 1 d_PM_beside_4 rfl rfl ?_
  refine A_callV1 m_Score_voiceAt T_ok d_PM_beside_5 l_PM_125 k_Score_voiceAt (xs_S k0.1 (isS_o hS)) rfl (by decide +kernel) (by decide) (Nat.le_of_ble_eq_true rfl) (s_Score_voiceAt k0.1 (isS_o hS)) (fun r h2 hq => ?_)
  obtain ⟨ox4, rfl, qx4, rfl⟩ := hq
  rcases qx4 with rfl | ⟨x4, rfl, tx4⟩
  · refine A_astore_n 3 (L' := [some (av_R (some 0)), some (av_I a1), some (av_I a2), some (av_R none), none]) d_PM_beside_8 rfl (Nat.le_of_ble_eq_true rfl) rfl ?_
    refine A_aload_n 0 d_PM_beside_9 rfl rfl ?_
    refine A_getOv (z := some (97 - s)) T_ok d_PM_beside_10 f_PM_27 (xi_s k0.1 sf_0) k0.1.2.2.1 ?_
    refine A_iload_n 2 d_PM_beside_13 rfl rfl ?_
    refine A_callV1 m_Score_voiceAt T_ok d_PM_beside_14 l_PM_125 k_Score_voiceAt (xs_S k0.1 (isS_o hS)) rfl (by decide +kernel) (by decide) (Nat.le_of_ble_eq_true rfl) (s_Score_voiceAt k0.1 (isS_o hS)) (fun r h6 hq => ?_)
    obtain ⟨ox8, rfl, qx8, rfl⟩ := hq
    rcases qx8 with rfl | ⟨x8, rfl, tx8⟩
    · refine A_astore (L' := [some (av_R (some 0)), some (av_I a1), some (av_I a2), some (av_R none), some (av_R none)]) d_PM_beside_17 (Nat.le_of_ble_eq_true rfl) rfl ?_
      refine A_aload_n 3 d_PM_beside_19 rfl rfl ?_
      refine A_ifnull (tgt := 28) d_PM_beside_20 (by decide) (fun _ => ?_) (fun a q => by cases q)
      refine A_iconst d_PM_beside_28 rfl ?_
      exact A_iret d_PM_beside_29 (by decide) rfl ⟨_, rfl, ⟨by omega, by omega⟩, k0⟩
    · refine A_astore (L' := [some (av_R (some 0)), some (av_I a1), some (av_I a2), some (av_R none), some (av_R (some x8))]) d_PM_beside_17 (Nat.le_of_ble_eq_true rfl) rfl ?_
      refine A_aload_n 3 d_PM_beside_19 rfl rfl ?_
      refine A_ifnull (tgt := 28) d_PM_beside_20 (by decide) (fun _ => ?_) (fun a q => by cases q)
      refine A_iconst d_PM_beside_28 rfl ?_
      exact A_iret d_PM_beside_29 (by decide) rfl ⟨_, rfl, ⟨by omega, by omega⟩, k0⟩
  · refine A_astore_n 3 (L' := [some (av_R (some 0)), some (av_I a1), some (av_I a2), some (av_R (some x4)), none]) d_PM_beside_8 rfl (Nat.le_of_ble_eq_true rfl) rfl ?_
    refine A_aload_n 0 d_PM_beside_9 rfl rfl ?_
    refine A_getOv (z := some (97 - s)) T_ok d_PM_beside_10 f_PM_27 (xi_s k0.1 sf_0) k0.1.2.2.1 ?_
    refine A_iload_n 2 d_PM_beside_13 rfl rfl ?_
    refine A_callV1 m_Score_voiceAt T_ok d_PM_beside_14 l_PM_125 k_Score_voiceAt (xs_S k0.1 (isS_o hS)) rfl (by decide +kernel) (by decide) (Nat.le_of_ble_eq_true rfl) (s_Score_voiceAt k0.1 (isS_o hS)) (fun r h10 hq => ?_)
    obtain ⟨ox12, rfl, qx12, rfl⟩ := hq
    rcases qx12 with rfl | ⟨x12, rfl, tx12⟩
    · refine A_astore (L' := [some (av_R (some 0)), some (av_I a1), some (av_I a2), some (av_R (some x4)), some (av_R none)]) d_PM_beside_17 (Nat.le_of_ble_eq_true rfl) rfl ?_
      refine A_aload_n 3 d_PM_beside_19 rfl rfl ?_
      refine A_ifnull (tgt := 28) d_PM_beside_20 (by decide) (fun q => by cases q) (fun _ _ => ?_)
      refine A_aload d_PM_beside_23 rfl ?_
      refine A_ifnonnull (tgt := 30) d_PM_beside_25 (by decide) (fun a q => by cases q) (fun _ => ?_)
      refine A_iconst d_PM_beside_28 rfl ?_
      exact A_iret d_PM_beside_29 (by decide) rfl ⟨_, rfl, ⟨by omega, by omega⟩, k0⟩
    · refine A_astore (L' := [some (av_R (some 0)), some (av_I a1), some (av_I a2), some (av_R (some x4)), some (av_R (some x12))]) d_PM_beside_17 (Nat.le_of_ble_eq_true rfl) rfl ?_
      refine A_aload_n 3 d_PM_beside_19 rfl rfl ?_
      refine A_ifnull (tgt := 28) d_PM_beside_20 (by decide) (fun q => by cases q) (fun _ _ => ?_)
      refine A_aload d_PM_beside_23 rfl ?_
      refine A_ifnonnull (tgt := 30) d_PM_beside_25 (by decide) (fun _ _ => ?_) (fun q => by cases q)
      refine A_aload_n 0 d_PM_beside_30 rfl rfl ?_
      refine A_getOv (z := some 164) T_ok d_PM_beside_31 f_PM_72 (xi_s k0.1 sf_0) (xi_r k0.1 rff_0_10) ?_
      refine A_aload_n 3 d_PM_beside_34 rfl rfl ?_
      refine A_aload d_PM_beside_35 rfl ?_
      refine A_callV2 m_Pairing_find T_ok d_PM_beside_37 l_PM_192 k_Pairing_find (xi_s k0.1 sf_164) rfl (by decide +kernel) (by decide) (Nat.le_of_ble_eq_true rfl) (z_Pairing_find k0.1 (tV_V (isS_o hS) tx4) (tV_V (isS_o hS) tx12)) (fun r h14 hq => ?_)
      obtain ⟨x16, rfl, ⟨_, _⟩, k15⟩ := hq
      have k17 := kF_t k0 k15 (fun _ q => q)
      exact A_iret d_PM_beside_40 (by decide) rfl ⟨_, rfl, ⟨by omega, by omega⟩, k17⟩
