/-! ===== Pairing: what its methods leave as it was ===== -/
abbrev FCR : Nat → Prop := fun a => a < 164 ∨ 170 ≤ a
theorem z_Pairing_gather_a {G : cx_T} {s : Nat} {h : ah_T} (hx : xi s h) {a0 : Nat} (ha0 : isV a0) : con G 2 0 0 m_Pairing_gather [av_R (some a0), av_R (some 165)] h (fun r h' => ∃ z, r = some (av_I z) ∧ (0 ≤ z ∧ z ≤ 80) ∧ kF FCR s h h') := by
  refine con_of (L := [some (av_R (some a0)), some (av_R (some 165)), none, none]) (by decide +kernel) (Nat.le_of_ble_eq_true rfl) rfl ?_
  have hS : isS s := hx.2.1
  have hs0 : s = 17 ∨ s = 80 := hS
  have k0 : kF FCR s h h := kF_0 hx
  have ga0 := lt_V ha0
  refine A_iconst d_Pairing_gather_0 rfl ?_
  refine A_istore_n 2 (L' := [some (av_R (some a0)), some (av_R (some 165)), some (av_I 0), none]) d_Pairing_gather_1 rfl (Nat.le_of_ble_eq_true rfl) rfl ?_
  refine A_iconst d_Pairing_gather_2 rfl ?_
  refine A_istore_n 3 (L' := [some (av_R (some a0)), some (av_R (some 165)), some (av_I 0), some (av_I 0)]) d_Pairing_gather_3 rfl (Nat.le_of_ble_eq_true rfl) rfl ?_
  have lp4 : ∀ (n : Nat) (i1 i2 : Int) (h3 : ah_T) , 0 ≤ i1 → i1 ≤ 80 → 0 ≤ i2 → i2 ≤ 300 → kF FCR s h h3 → (301 - i2).toNat < n → aw G (rm_R 2 0 0) m_Pairing_gather 0 0 4 [some (av_R (some a0)), some (av_R (some 165)), some (av_I i1), some (av_I i2)] [] h3 (fun r h' => ∃ z, r = some (av_I z) ∧ (0 ≤ z ∧ z ≤ 80) ∧ kF FCR s h h') := by
    intro n
    induction n with
    | zero => intro i1 i2 h3 _ _ _ _ _ hm; omega
    | succ n ih4 =>
      intro i1 i2 h3 hl0 hl1 hl2 hl3 k4 hm
      refine A_iload_n 3 d_Pairing_gather_4 rfl rfl ?_
      refine A_aload_n 0 d_Pairing_gather_5 rfl rfl ?_
      refine A_getIn (lo := 0) (hi := 300) T_ok d_Pairing_gather_6 f_Pairing_53 (xs_V k4.1 ha0) (xi_g k4.1 (lt1_V ha0) (rg_V_14 ha0)) (fun x5 ex5 _ _ => ?_)
      refine A_icmp_ge (tgt := 39) d_Pairing_gather_9 (by decide) (fun c6 => ?_) (fun c6 => ?_)
      · refine A_iload_n 2 d_Pairing_gather_39 rfl rfl ?_
        exact A_iret d_Pairing_gather_40 (by decide) rfl ⟨_, rfl, ⟨by omega, by omega⟩, k4⟩
      · refine A_aload_n 0 d_Pairing_gather_12 rfl rfl ?_
        refine A_iload_n 3 d_Pairing_gather_13 rfl rfl ?_
        refine A_callV1 m_Voice_isRest T_ok d_Pairing_gather_14 l_Pairing_58 k_Voice_isRest (xs_V k4.1 ha0) rfl (by decide +kernel) (by decide) (Nat.le_of_ble_eq_true rfl) (s_Voice_isRest k4.1 ha0 (by omega) (by omega)) (fun r h7 hq => ?_)
        obtain ⟨x9, rfl, bx9, rfl⟩ := hq
        refine A_if_ne (tgt := 33) d_Pairing_gather_17 (by decide) (fun c10 => ?_) (fun c10 => ?_)
        · refine A_iincv (z := (i2 + 1)) (L' := [some (av_R (some a0)), some (av_R (some 165)), some (av_I i1), some (av_I (i2 + 1))]) d_Pairing_gather_33 rfl (w32_to (by omega) (by unfold i32; omega)) rfl ?_
          refine A_goto (tgt := 4) d_Pairing_gather_36 (by decide) ?_
          exact ih4 i1 (i2 + 1) h3 (by omega) (by omega) (by omega) (by omega) k4 (by omega)
        · refine A_iload_n 2 d_Pairing_gather_20 rfl rfl ?_
          refine A_aload_n 1 d_Pairing_gather_21 rfl rfl ?_
          refine A_alenN d_Pairing_gather_22 (xi_s k4.1 sf_165) (by decide) (by decide) ?_
          refine A_icmp_ge (tgt := 33) d_Pairing_gather_23 (by decide) (fun c11 => ?_) (fun c11 => ?_)
          · refine A_iincv (z := (i2 + 1)) (L' := [some (av_R (some a0)), some (av_R (some 165)), some (av_I i1), some (av_I (i2 + 1))]) d_Pairing_gather_33 rfl (w32_to (by omega) (by unfold i32; omega)) rfl ?_
            refine A_goto (tgt := 4) d_Pairing_gather_36 (by decide) ?_
            exact ih4 i1 (i2 + 1) h3 (by omega) (by omega) (by omega) (by omega) k4 (by omega)
          · refine A_aload_n 1 d_Pairing_gather_26 rfl rfl ?_
            refine A_iload_n 2 d_Pairing_gather_27 rfl rfl ?_
            refine A_iload_n 3 d_Pairing_gather_28 rfl rfl ?_
            refine A_iastorek (KR := kF FCR s h) d_Pairing_gather_29 (xi_s k4.1 sf_165) (by omega) (by omega) (kF_j k4 (by decide) (ns_b rfl) (rgf_165 _) (by omega) (by omega)) (fun h12 k13 eh12 => ?_)
            refine A_iincv (z := (i1 + 1)) (L' := [some (av_R (some a0)), some (av_R (some 165)), some (av_I (i1 + 1)), some (av_I i2)]) d_Pairing_gather_30 rfl (w32_to (by omega) (by unfold i32; omega)) rfl ?_
            refine A_pc (pc' := 33) rfl ?_
            refine A_iincv (z := (i2 + 1)) (L' := [some (av_R (some a0)), some (av_R (some 165)), some (av_I (i1 + 1)), some (av_I (i2 + 1))]) d_Pairing_gather_33 rfl (w32_to (by omega) (by unfold i32; omega)) rfl ?_
            refine A_goto (tgt := 4) d_Pairing_gather_36 (by decide) ?_
            exact ih4 (i1 + 1) (i2 + 1) h12 (by omega) (by omega) (by omega) (by omega) k13 (by omega)
  exact lp4 _ 0 0 h (by omega) (by omega) (by omega) (by omega) k0 (Nat.lt_succ_self _)
theorem z_Pairing_gather_b {G : cx_T} {s : Nat} {h : ah_T} (hx : xi s h) {a0 : Nat} (ha0 : isV a0) : con G 2 0 0 m_Pairing_gather [av_R (some a0), av_R (some 166)] h (fun r h' => ∃ z, r = some (av_I z) ∧ (0 ≤ z ∧ z ≤ 80) ∧ kF FCR s h h') := by
  refine con_of (L := [some (av_R (some a0)), some (av_R (some 166)), none, none]) (by decide +kernel) (Nat.le_of_ble_eq_true rfl) rfl ?_
  have hS : isS s := hx.2.1
  have hs0 : s = 17 ∨ s = 80 := hS
  have k0 : kF FCR s h h := kF_0 hx
  have ga0 := lt_V ha0
  refine A_iconst d_Pairing_gather_0 rfl ?_
  refine A_istore_n 2 (L' := [some (av_R (some a0)), some (av_R (some 166)), some (av_I 0), none]) d_Pairing_gather_1 rfl (Nat.le_of_ble_eq_true rfl) rfl ?_
  refine A_iconst d_Pairing_gather_2 rfl ?_
  refine A_istore_n 3 (L' := [some (av_R (some a0)), some (av_R (some 166)), some (av_I 0), some (av_I 0)]) d_Pairing_gather_3 rfl (Nat.le_of_ble_eq_true rfl) rfl ?_
  have lp4 : ∀ (n : Nat) (i1 i2 : Int) (h3 : ah_T) , 0 ≤ i1 → i1 ≤ 80 → 0 ≤ i2 → i2 ≤ 300 → kF FCR s h h3 → (301 - i2).toNat < n → aw G (rm_R 2 0 0) m_Pairing_gather 0 0 4 [some (av_R (some a0)), some (av_R (some 166)), some (av_I i1), some (av_I i2)] [] h3 (fun r h' => ∃ z, r = some (av_I z) ∧ (0 ≤ z ∧ z ≤ 80) ∧ kF FCR s h h') := by
    intro n
    induction n with
    | zero => intro i1 i2 h3 _ _ _ _ _ hm; omega
    | succ n ih4 =>
      intro i1 i2 h3 hl0 hl1 hl2 hl3 k4 hm
      refine A_iload_n 3 d_Pairing_gather_4 rfl rfl ?_
      refine A_aload_n 0 d_Pairing_gather_5 rfl rfl ?_
      refine A_getIn (lo := 0) (hi := 300) T_ok d_Pairing_gather_6 f_Pairing_53 (xs_V k4.1 ha0) (xi_g k4.1 (lt1_V ha0) (rg_V_14 ha0)) (fun x5 ex5 _ _ => ?_)
      refine A_icmp_ge (tgt := 39) d_Pairing_gather_9 (by decide) (fun c6 => ?_) (fun c6 => ?_)
      · refine A_iload_n 2 d_Pairing_gather_39 rfl rfl ?_
        exact A_iret d_Pairing_gather_40 (by decide) rfl ⟨_, rfl, ⟨by omega, by omega⟩, k4⟩
      · refine A_aload_n 0 d_Pairing_gather_12 rfl rfl ?_
        refine A_iload_n 3 d_Pairing_gather_13 rfl rfl ?_
        refine A_callV1 m_Voice_isRest T_ok d_Pairing_gather_14 l_Pairing_58 k_Voice_isRest (xs_V k4.1 ha0) rfl (by decide +kernel) (by decide) (Nat.le_of_ble_eq_true rfl) (s_Voice_isRest k4.1 ha0 (by omega) (by omega)) (fun r h7 hq => ?_)
        obtain ⟨x9, rfl, bx9, rfl⟩ := hq
        refine A_if_ne (tgt := 33) d_Pairing_gather_17 (by decide) (fun c10 => ?_) (fun c10 => ?_)
        · refine A_iincv (z := (i2 + 1)) (L' := [some (av_R (some a0)), some (av_R (some 166)), some (av_I i1), some (av_I (i2 + 1))]) d_Pairing_gather_33 rfl (w32_to (by omega) (by unfold i32; omega)) rfl ?_
          refine A_goto (tgt := 4) d_Pairing_gather_36 (by decide) ?_
          exact ih4 i1 (i2 + 1) h3 (by omega) (by omega) (by omega) (by omega) k4 (by omega)
        · refine A_iload_n 2 d_Pairing_gather_20 rfl rfl ?_
          refine A_aload_n 1 d_Pairing_gather_21 rfl rfl ?_
          refine A_alenN d_Pairing_gather_22 (xi_s k4.1 sf_166) (by decide) (by decide) ?_
          refine A_icmp_ge (tgt := 33) d_Pairing_gather_23 (by decide) (fun c11 => ?_) (fun c11 => ?_)
          · refine A_iincv (z := (i2 + 1)) (L' := [some (av_R (some a0)), some (av_R (some 166)), some (av_I i1), some (av_I (i2 + 1))]) d_Pairing_gather_33 rfl (w32_to (by omega) (by unfold i32; omega)) rfl ?_
            refine A_goto (tgt := 4) d_Pairing_gather_36 (by decide) ?_
            exact ih4 i1 (i2 + 1) h3 (by omega) (by omega) (by omega) (by omega) k4 (by omega)
          · refine A_aload_n 1 d_Pairing_gather_26 rfl rfl ?_
            refine A_iload_n 2 d_Pairing_gather_27 rfl rfl ?_
            refine A_iload_n 3 d_Pairing_gather_28 rfl rfl ?_
            refine A_iastorek (KR := kF FCR s h) d_Pairing_gather_29 (xi_s k4.1 sf_166) (by omega) (by omega) (kF_j k4 (by decide) (ns_b rfl) (rgf_166 _) (by omega) (by omega)) (fun h12 k13 eh12 => ?_)
            refine A_iincv (z := (i1 + 1)) (L' := [some (av_R (some a0)), some (av_R (some 166)), some (av_I (i1 + 1)), some (av_I i2)]) d_Pairing_gather_30 rfl (w32_to (by omega) (by unfold i32; omega)) rfl ?_
            refine A_pc (pc' := 33) rfl ?_
            refine A_iincv (z := (i2 + 1)) (L' := [some (av_R (some a0)), some (av_R (some 166)), some (av_I (i1 + 1)), some (av_I (i2 + 1))]) d_Pairing_gather_33 rfl (w32_to (by omega) (by unfold i32; omega)) rfl ?_
            refine A_goto (tgt := 4) d_Pairing_gather_36 (by decide) ?_
            exact ih4 (i1 + 1) (i2 + 1) h12 (by omega) (by omega) (by omega) (by omega) k13 (by omega)
  exact lp4 _ 0 0 h (by omega) (by omega) (by omega) (by omega) k0 (Nat.lt_succ_self _)
theorem z_Pairing_weigh {G : cx_T} {s : Nat} {h : ah_T} (hx : xi s h) {a1 : Nat} {a2 : Nat} {a3 : Int} {a4 : Int} (ha1 : isV a1) (ha2 : isV a2) (la3 : 0 ≤ a3) (ua3 : a3 ≤ 80) (la4 : 0 ≤ a4) (ua4 : a4 ≤ 80) : con G 3 0 0 m_Pairing_weigh [av_R (some 164), av_R (some a1), av_R (some a2), av_I a3, av_I a4] h (fun r h' => r = none ∧ kF FCR s h h') := by
  refine con_of (L := [some (av_R (some 164)), some (av_R (some a1)), some (av_R (some a2)), some (av_I a3), some (av_I a4), none, none, none, none, none, none, none]) (by decide +kernel) (Nat.le_of_ble_eq_true rfl) rfl ?_
  have hS : isS s := hx.2.1
  have hs0 : s = 17 ∨ s = 80 := hS
  have k0 : kF FCR s h h := kF_0 hx
  have ga1 := lt_V ha1
  have ga2 := lt_V ha2
  refine A_aload_n 0 d_Pairing_weigh_0 rfl rfl ?_
  refine A_iload_n 3 d_Pairing_weigh_1 rfl rfl ?_
  refine A_iload d_Pairing_weigh_2 rfl ?_
  refine A_callV2 m_Pairing_slot T_ok d_Pairing_weigh_4 l_Pairing_82 k_Pairing_slot (xi_s k0.1 sf_164) rfl (by decide +kernel) (by decide) (Nat.le_of_ble_eq_true rfl) (s_Pairing_slot k0.1 (by omega) (by omega) (by omega) (by omega)) (fun r h1 hq => ?_)
  obtain ⟨x3, rfl, ⟨_, _⟩, rfl⟩ := hq
  refine A_istore (L' := [some (av_R (some 164)), some (av_R (some a1)), some (av_R (some a2)), some (av_I a3), some (av_I a4), some (av_I x3), none, none, none, none, none, none]) d_Pairing_weigh_7 (Nat.le_of_ble_eq_true rfl) rfl ?_
  refine A_iload_n 3 d_Pairing_weigh_9 rfl rfl ?_
  refine A_aload_n 0 d_Pairing_weigh_10 rfl rfl ?_
  refine A_getIn (lo := 0) (hi := 80) T_ok d_Pairing_weigh_11 f_Pairing_27 (xi_s k0.1 sf_164) (xi_g k0.1 (by decide) rgf_164_5) (fun x4 ex4 _ _ => ?_)
  have jp43 : aw G (rm_R 3 0 0) m_Pairing_weigh 0 0 43 [some (av_R (some 164)), some (av_R (some a1)), some (av_R (some a2)), some (av_I a3), some (av_I a4), some (av_I x3), none, none, none, none, none, none] [] h (fun r h' => r = none ∧ kF FCR s h h') := by
    refine A_iload_n 3 d_Pairing_weigh_43 rfl rfl ?_
    refine A_aload_n 0 d_Pairing_weigh_44 rfl rfl ?_
    refine A_getIv (z := x4) T_ok d_Pairing_weigh_45 f_Pairing_27 (xi_s k0.1 sf_164) ex4.symm ?_
    have jp89 : aw G (rm_R 3 0 0) m_Pairing_weigh 0 0 89 [some (av_R (some 164)), some (av_R (some a1)), some (av_R (some a2)), some (av_I a3), some (av_I a4), some (av_I x3), none, none, none, none, none, none] [] h (fun r h' => r = none ∧ kF FCR s h h') := by
      refine A_ldc (z := 2147483647) d_Pairing_weigh_89 cst_Pairing_91 rfl ?_
      refine A_istore (L' := [some (av_R (some 164)), some (av_R (some a1)), some (av_R (some a2)), some (av_I a3), some (av_I a4), some (av_I x3), some (av_I 2147483647), none, none, none, none, none]) d_Pairing_weigh_91 (Nat.le_of_ble_eq_true rfl) rfl ?_
      refine A_iload_n 3 d_Pairing_weigh_93 rfl rfl ?_
      refine A_aload_n 0 d_Pairing_weigh_94 rfl rfl ?_
      refine A_getIv (z := x4) T_ok d_Pairing_weigh_95 f_Pairing_27 (xi_s k0.1 sf_164) ex4.symm ?_
      have jp122 : ∀ (j7 : Int) , (-2147483648) ≤ j7 → j7 ≤ 2147483647 → aw G (rm_R 3 0 0) m_Pairing_weigh 0 0 122 [some (av_R (some 164)), some (av_R (some a1)), some (av_R (some a2)), some (av_I a3), some (av_I a4), some (av_I x3), some (av_I 2147483647), none, none, none, none, none] [av_I j7] h (fun r h' => r = none ∧ kF FCR s h h') := by
        intro j7  _ _ 
        refine A_istore (L' := [some (av_R (some 164)), some (av_R (some a1)), some (av_R (some a2)), some (av_I a3), some (av_I a4), some (av_I x3), some (av_I 2147483647), some (av_I j7), none, none, none, none]) d_Pairing_weigh_122 (Nat.le_of_ble_eq_true rfl) rfl ?_
        refine A_iload d_Pairing_weigh_124 rfl ?_
        refine A_aload_n 0 d_Pairing_weigh_126 rfl rfl ?_
        refine A_getIn (lo := 0) (hi := 80) T_ok d_Pairing_weigh_127 f_Pairing_42 (xi_s k0.1 sf_164) (xi_g k0.1 (by decide) rgf_164_6) (fun x8 ex8 _ _ => ?_)
        have jp154 : ∀ (j9 : Int) , (-2147483648) ≤ j9 → j9 ≤ 2147483647 → aw G (rm_R 3 0 0) m_Pairing_weigh 0 0 154 [some (av_R (some 164)), some (av_R (some a1)), some (av_R (some a2)), some (av_I a3), some (av_I a4), some (av_I x3), some (av_I 2147483647), some (av_I j7), none, none, none, none] [av_I j9] h (fun r h' => r = none ∧ kF FCR s h h') := by
          intro j9  _ _ 
          refine A_istore (L' := [some (av_R (some 164)), some (av_R (some a1)), some (av_R (some a2)), some (av_I a3), some (av_I a4), some (av_I x3), some (av_I 2147483647), some (av_I j7), some (av_I j9), none, none, none]) d_Pairing_weigh_154 (Nat.le_of_ble_eq_true rfl) rfl ?_
          refine A_iload d_Pairing_weigh_156 rfl ?_
          refine A_iload d_Pairing_weigh_158 rfl ?_
          refine A_iload d_Pairing_weigh_160 rfl ?_
          refine A_mmin d_Pairing_weigh_162 lm_Pairing_62 ma_min (by decide) (by decide) (Nat.le_of_ble_eq_true rfl) rfl ?_
          refine A_nrI (fun x10 ex10 _ _ => ?_)
          have bx10 := mmin_r ex10
          refine A_pc (pc' := 165) rfl ?_
          refine A_mmin d_Pairing_weigh_165 lm_Pairing_62 ma_min (by decide) (by decide) (Nat.le_of_ble_eq_true rfl) rfl ?_
          refine A_nrI (fun x11 ex11 _ _ => ?_)
          have bx11 := mmin_r ex11
          refine A_istore (L' := [some (av_R (some 164)), some (av_R (some a1)), some (av_R (some a2)), some (av_I a3), some (av_I a4), some (av_I x3), some (av_I 2147483647), some (av_I j7), some (av_I j9), some (av_I x11), none, none]) d_Pairing_weigh_168 (Nat.le_of_ble_eq_true rfl) rfl ?_
          refine A_lconst_0 d_Pairing_weigh_170 ?_
          refine A_lstore (L' := [some (av_R (some 164)), some (av_R (some a1)), some (av_R (some a2)), some (av_I a3), some (av_I a4), some (av_I x3), some (av_I 2147483647), some (av_I j7), some (av_I j9), some (av_I x11), some (av_L 0), none]) d_Pairing_weigh_171 (Nat.le_of_ble_eq_true rfl) rfl ?_
          refine A_lload d_Pairing_weigh_173 rfl ?_
          refine A_iload d_Pairing_weigh_175 rfl ?_
          refine A_pc (pc' := 177) rfl ?_
          refine A_iload d_Pairing_weigh_177 rfl ?_
          have jp203 : ∀ (j12 : Int) , (-2147483648) ≤ j12 → j12 ≤ 2147483647 → aw G (rm_R 3 0 0) m_Pairing_weigh 0 0 203 [some (av_R (some 164)), some (av_R (some a1)), some (av_R (some a2)), some (av_I a3), some (av_I a4), some (av_I x3), some (av_I 2147483647), some (av_I j7), some (av_I j9), some (av_I x11), some (av_L 0), none] [av_L j12, av_L 0] h (fun r h' => r = none ∧ kF FCR s h h') := by
            intro j12  _ _ 
            refine A_laddv (z := j12) d_Pairing_weigh_203 (w64_to (by omega) (by unfold i64; omega)) ?_
            refine A_lstore (L' := [some (av_R (some 164)), some (av_R (some a1)), some (av_R (some a2)), some (av_I a3), some (av_I a4), some (av_I x3), some (av_I 2147483647), some (av_I j7), some (av_I j9), some (av_I x11), some (av_L j12), none]) d_Pairing_weigh_204 (Nat.le_of_ble_eq_true rfl) rfl ?_
            refine A_lload d_Pairing_weigh_206 rfl ?_
            refine A_iload d_Pairing_weigh_208 rfl ?_
            refine A_iload d_Pairing_weigh_210 rfl ?_
            have jp234 : ∀ (j13 : Int) , (-2147483648) ≤ j13 → j13 ≤ 2147483647 → aw G (rm_R 3 0 0) m_Pairing_weigh 0 0 234 [some (av_R (some 164)), some (av_R (some a1)), some (av_R (some a2)), some (av_I a3), some (av_I a4), some (av_I x3), some (av_I 2147483647), some (av_I j7), some (av_I j9), some (av_I x11), some (av_L j12), none] [av_L j13, av_L j12] h (fun r h' => r = none ∧ kF FCR s h h') := by
              intro j13  _ _ 
              refine A_laddv (z := (j12 + j13)) d_Pairing_weigh_234 (w64_to (by omega) (by unfold i64; omega)) ?_
              refine A_lstore (L' := [some (av_R (some 164)), some (av_R (some a1)), some (av_R (some a2)), some (av_I a3), some (av_I a4), some (av_I x3), some (av_I 2147483647), some (av_I j7), some (av_I j9), some (av_I x11), some (av_L (j12 + j13)), none]) d_Pairing_weigh_235 (Nat.le_of_ble_eq_true rfl) rfl ?_
              refine A_lload d_Pairing_weigh_237 rfl ?_
              refine A_iload d_Pairing_weigh_239 rfl ?_
              refine A_iload d_Pairing_weigh_241 rfl ?_
              have jp265 : ∀ (j14 : Int) , (-2147483648) ≤ j14 → j14 ≤ 2147483647 → aw G (rm_R 3 0 0) m_Pairing_weigh 0 0 265 [some (av_R (some 164)), some (av_R (some a1)), some (av_R (some a2)), some (av_I a3), some (av_I a4), some (av_I x3), some (av_I 2147483647), some (av_I j7), some (av_I j9), some (av_I x11), some (av_L (j12 + j13)), none] [av_L j14, av_L (j12 + j13)] h (fun r h' => r = none ∧ kF FCR s h h') := by
                intro j14  _ _ 
                refine A_laddv (z := (j12 + j13 + j14)) d_Pairing_weigh_265 (w64_to (by omega) (by unfold i64; omega)) ?_
                refine A_lstore (L' := [some (av_R (some 164)), some (av_R (some a1)), some (av_R (some a2)), some (av_I a3), some (av_I a4), some (av_I x3), some (av_I 2147483647), some (av_I j7), some (av_I j9), some (av_I x11), some (av_L (j12 + j13 + j14)), none]) d_Pairing_weigh_266 (Nat.le_of_ble_eq_true rfl) rfl ?_
                refine A_aload_n 0 d_Pairing_weigh_268 rfl rfl ?_
                refine A_getAv (z := some 167) T_ok d_Pairing_weigh_269 f_Pairing_18 (xi_s k0.1 sf_164) (xi_r k0.1 rff_164_2) ?_
                refine A_iload d_Pairing_weigh_272 rfl ?_
                refine A_pc (pc' := 274) rfl ?_
                refine A_iload d_Pairing_weigh_274 rfl ?_
                refine A_iastorek (KR := kF FCR s h) d_Pairing_weigh_276 (xi_s k0.1 sf_167) (by omega) (by omega) (kF_j k0 (by decide) (ns_b rfl) (rgf_167 _) (by omega) (by omega)) (fun h16 k17 eh16 => ?_)
                refine A_aload_n 0 d_Pairing_weigh_277 rfl rfl ?_
                refine A_getAv (z := some 168) T_ok d_Pairing_weigh_278 f_Pairing_21 (xi_s k17.1 sf_164) (xi_r k17.1 rff_164_3) ?_
                refine A_iload d_Pairing_weigh_281 rfl ?_
                refine A_lload d_Pairing_weigh_283 rfl ?_
                refine A_pc (pc' := 285) rfl ?_
                refine A_ldc2 (z := 1000000007) d_Pairing_weigh_285 cst_Pairing_92 rfl ?_
                refine A_lremc d_Pairing_weigh_288 (by decide) (fun x19 ex19 _ _ => ?_)
                have bx19 := rem_c ex19 (by decide)
                refine A_l2iv (z := x19) d_Pairing_weigh_289 (w32_id (by unfold i32; omega)) ?_
                refine A_iastorek (KR := kF FCR s h) d_Pairing_weigh_290 (xi_s k17.1 sf_168) (by omega) (by omega) (kF_j k17 (by decide) (ns_b rfl) (rgf_168 _) (by omega) (by omega)) (fun h20 k21 eh20 => ?_)
                exact A_vret d_Pairing_weigh_291 (by decide) rfl ⟨rfl, k21⟩
              refine A_icmp_ne (tgt := 264) d_Pairing_weigh_243 (by decide) (fun c22 => ?_) (fun c22 => ?_)
              · refine A_lconst_0 d_Pairing_weigh_264 ?_
                refine A_pc (pc' := 265) rfl ?_
                exact jp265 0 (by omega) (by omega)
              · refine A_aload_n 0 d_Pairing_weigh_246 rfl rfl ?_
                refine A_getAv (z := some 168) T_ok d_Pairing_weigh_247 f_Pairing_21 (xi_s k0.1 sf_164) (xi_r k0.1 rff_164_3) ?_
                refine A_aload_n 0 d_Pairing_weigh_250 rfl rfl ?_
                refine A_iload_n 3 d_Pairing_weigh_251 rfl rfl ?_
                refine A_iload d_Pairing_weigh_252 rfl ?_
                refine A_pc (pc' := 254) rfl ?_
                refine A_iconst d_Pairing_weigh_254 rfl ?_
                refine A_iaddv (z := (a4 + 1)) d_Pairing_weigh_255 (w32_to (by omega) (by unfold i32; omega)) ?_
                refine A_callV2 m_Pairing_slot T_ok d_Pairing_weigh_256 l_Pairing_82 k_Pairing_slot (xi_s k0.1 sf_164) rfl (by decide +kernel) (by decide) (Nat.le_of_ble_eq_true rfl) (s_Pairing_slot k0.1 (by omega) (by omega) (by omega) (by omega)) (fun r h24 hq => ?_)
                obtain ⟨x26, rfl, ⟨_, _⟩, rfl⟩ := hq
                refine A_ialoadf d_Pairing_weigh_259 (xi_s k0.1 sf_168) (by omega) (by omega) (fun x27 ex27 _ _ => ?_)
                refine A_i2l d_Pairing_weigh_260 ?_
                refine A_goto (tgt := 265) d_Pairing_weigh_261 (by decide) ?_
                refine A_pc (pc' := 265) rfl ?_
                exact jp265 x27 (by omega) (by omega)
            refine A_icmp_ne (tgt := 233) d_Pairing_weigh_212 (by decide) (fun c28 => ?_) (fun c28 => ?_)
            · refine A_lconst_0 d_Pairing_weigh_233 ?_
              refine A_pc (pc' := 234) rfl ?_
              exact jp234 0 (by omega) (by omega)
            · refine A_aload_n 0 d_Pairing_weigh_215 rfl rfl ?_
              refine A_getAv (z := some 168) T_ok d_Pairing_weigh_216 f_Pairing_21 (xi_s k0.1 sf_164) (xi_r k0.1 rff_164_3) ?_
              refine A_aload_n 0 d_Pairing_weigh_219 rfl rfl ?_
              refine A_iload_n 3 d_Pairing_weigh_220 rfl rfl ?_
              refine A_iconst d_Pairing_weigh_221 rfl ?_
              refine A_pc (pc' := 222) rfl ?_
              refine A_iaddv (z := (a3 + 1)) d_Pairing_weigh_222 (w32_to (by omega) (by unfold i32; omega)) ?_
              refine A_iload d_Pairing_weigh_223 rfl ?_
              refine A_callV2 m_Pairing_slot T_ok d_Pairing_weigh_225 l_Pairing_82 k_Pairing_slot (xi_s k0.1 sf_164) rfl (by decide +kernel) (by decide) (Nat.le_of_ble_eq_true rfl) (s_Pairing_slot k0.1 (by omega) (by omega) (by omega) (by omega)) (fun r h30 hq => ?_)
              obtain ⟨x32, rfl, ⟨_, _⟩, rfl⟩ := hq
              refine A_ialoadf d_Pairing_weigh_228 (xi_s k0.1 sf_168) (by omega) (by omega) (fun x33 ex33 _ _ => ?_)
              refine A_i2l d_Pairing_weigh_229 ?_
              refine A_goto (tgt := 234) d_Pairing_weigh_230 (by decide) ?_
              refine A_pc (pc' := 234) rfl ?_
              exact jp234 x33 (by omega) (by omega)
          refine A_icmp_ne (tgt := 202) d_Pairing_weigh_179 (by decide) (fun c34 => ?_) (fun c34 => ?_)
          · refine A_lconst_0 d_Pairing_weigh_202 ?_
            refine A_pc (pc' := 203) rfl ?_
            exact jp203 0 (by omega) (by omega)
          · refine A_aload_n 0 d_Pairing_weigh_182 rfl rfl ?_
            refine A_getAv (z := some 168) T_ok d_Pairing_weigh_183 f_Pairing_21 (xi_s k0.1 sf_164) (xi_r k0.1 rff_164_3) ?_
            refine A_aload_n 0 d_Pairing_weigh_186 rfl rfl ?_
            refine A_iload_n 3 d_Pairing_weigh_187 rfl rfl ?_
            refine A_iconst d_Pairing_weigh_188 rfl ?_
            refine A_pc (pc' := 189) rfl ?_
            refine A_iaddv (z := (a3 + 1)) d_Pairing_weigh_189 (w32_to (by omega) (by unfold i32; omega)) ?_
            refine A_iload d_Pairing_weigh_190 rfl ?_
            refine A_iconst d_Pairing_weigh_192 rfl ?_
            refine A_iaddv (z := (a4 + 1)) d_Pairing_weigh_193 (w32_to (by omega) (by unfold i32; omega)) ?_
            refine A_callV2 m_Pairing_slot T_ok d_Pairing_weigh_194 l_Pairing_82 k_Pairing_slot (xi_s k0.1 sf_164) rfl (by decide +kernel) (by decide) (Nat.le_of_ble_eq_true rfl) (s_Pairing_slot k0.1 (by omega) (by omega) (by omega) (by omega)) (fun r h36 hq => ?_)
            obtain ⟨x38, rfl, ⟨_, _⟩, rfl⟩ := hq
            refine A_ialoadf d_Pairing_weigh_197 (xi_s k0.1 sf_168) (by omega) (by omega) (fun x39 ex39 _ _ => ?_)
            refine A_i2l d_Pairing_weigh_198 ?_
            refine A_goto (tgt := 203) d_Pairing_weigh_199 (by decide) ?_
            refine A_pc (pc' := 203) rfl ?_
            exact jp203 x39 (by omega) (by omega)
        refine A_icmp_ge (tgt := 152) d_Pairing_weigh_130 (by decide) (fun c40 => ?_) (fun c40 => ?_)
        · refine A_ldc (z := 2147483647) d_Pairing_weigh_152 cst_Pairing_91 rfl ?_
          refine A_pc (pc' := 154) rfl ?_
          exact jp154 2147483647 (by omega) (by omega)
        · refine A_iconst d_Pairing_weigh_133 rfl ?_
          refine A_aload_n 0 d_Pairing_weigh_134 rfl rfl ?_
          refine A_getAv (z := some 167) T_ok d_Pairing_weigh_135 f_Pairing_18 (xi_s k0.1 sf_164) (xi_r k0.1 rff_164_2) ?_
          refine A_aload_n 0 d_Pairing_weigh_138 rfl rfl ?_
          refine A_iload_n 3 d_Pairing_weigh_139 rfl rfl ?_
          refine A_pc (pc' := 140) rfl ?_
          refine A_iload d_Pairing_weigh_140 rfl ?_
          refine A_iconst d_Pairing_weigh_142 rfl ?_
          refine A_iaddv (z := (a4 + 1)) d_Pairing_weigh_143 (w32_to (by omega) (by unfold i32; omega)) ?_
          refine A_callV2 m_Pairing_slot T_ok d_Pairing_weigh_144 l_Pairing_82 k_Pairing_slot (xi_s k0.1 sf_164) rfl (by decide +kernel) (by decide) (Nat.le_of_ble_eq_true rfl) (s_Pairing_slot k0.1 (by omega) (by omega) (by omega) (by omega)) (fun r h42 hq => ?_)
          obtain ⟨x44, rfl, ⟨_, _⟩, rfl⟩ := hq
          refine A_ialoadf d_Pairing_weigh_147 (xi_s k0.1 sf_167) (by omega) (by omega) (fun x45 ex45 _ _ => ?_)
          refine A_iaddw d_Pairing_weigh_148 (fun x46 _ _ _ => ?_)
          refine A_goto (tgt := 154) d_Pairing_weigh_149 (by decide) ?_
          refine A_pc (pc' := 154) rfl ?_
          exact jp154 x46 (by omega) (by omega)
      refine A_icmp_ge (tgt := 120) d_Pairing_weigh_98 (by decide) (fun c47 => ?_) (fun c47 => ?_)
      · refine A_ldc (z := 2147483647) d_Pairing_weigh_120 cst_Pairing_91 rfl ?_
        refine A_pc (pc' := 122) rfl ?_
        exact jp122 2147483647 (by omega) (by omega)
      · refine A_iconst d_Pairing_weigh_101 rfl ?_
        refine A_aload_n 0 d_Pairing_weigh_102 rfl rfl ?_
        refine A_getAv (z := some 167) T_ok d_Pairing_weigh_103 f_Pairing_18 (xi_s k0.1 sf_164) (xi_r k0.1 rff_164_2) ?_
        refine A_aload_n 0 d_Pairing_weigh_106 rfl rfl ?_
        refine A_iload_n 3 d_Pairing_weigh_107 rfl rfl ?_
        refine A_pc (pc' := 108) rfl ?_
        refine A_iconst d_Pairing_weigh_108 rfl ?_
        refine A_iaddv (z := (a3 + 1)) d_Pairing_weigh_109 (w32_to (by omega) (by unfold i32; omega)) ?_
        refine A_iload d_Pairing_weigh_110 rfl ?_
        refine A_callV2 m_Pairing_slot T_ok d_Pairing_weigh_112 l_Pairing_82 k_Pairing_slot (xi_s k0.1 sf_164) rfl (by decide +kernel) (by decide) (Nat.le_of_ble_eq_true rfl) (s_Pairing_slot k0.1 (by omega) (by omega) (by omega) (by omega)) (fun r h49 hq => ?_)
        obtain ⟨x51, rfl, ⟨_, _⟩, rfl⟩ := hq
        refine A_ialoadf d_Pairing_weigh_115 (xi_s k0.1 sf_167) (by omega) (by omega) (fun x52 ex52 _ _ => ?_)
        refine A_iaddw d_Pairing_weigh_116 (fun x53 _ _ _ => ?_)
        refine A_goto (tgt := 122) d_Pairing_weigh_117 (by decide) ?_
        refine A_pc (pc' := 122) rfl ?_
        exact jp122 x53 (by omega) (by omega)
    have jp91 : ∀ (j54 : Int) , (-2147483648) ≤ j54 → j54 ≤ 2147483647 → aw G (rm_R 3 0 0) m_Pairing_weigh 0 0 91 [some (av_R (some 164)), some (av_R (some a1)), some (av_R (some a2)), some (av_I a3), some (av_I a4), some (av_I x3), none, none, none, none, none, none] [av_I j54] h (fun r h' => r = none ∧ kF FCR s h h') := by
      intro j54  _ _ 
      refine A_istore (L' := [some (av_R (some 164)), some (av_R (some a1)), some (av_R (some a2)), some (av_I a3), some (av_I a4), some (av_I x3), some (av_I j54), none, none, none, none, none]) d_Pairing_weigh_91 (Nat.le_of_ble_eq_true rfl) rfl ?_
      refine A_iload_n 3 d_Pairing_weigh_93 rfl rfl ?_
      refine A_aload_n 0 d_Pairing_weigh_94 rfl rfl ?_
      refine A_getIv (z := x4) T_ok d_Pairing_weigh_95 f_Pairing_27 (xi_s k0.1 sf_164) ex4.symm ?_
      have jp122 : ∀ (j56 : Int) , (-2147483648) ≤ j56 → j56 ≤ 2147483647 → aw G (rm_R 3 0 0) m_Pairing_weigh 0 0 122 [some (av_R (some 164)), some (av_R (some a1)), some (av_R (some a2)), some (av_I a3), some (av_I a4), some (av_I x3), some (av_I j54), none, none, none, none, none] [av_I j56] h (fun r h' => r = none ∧ kF FCR s h h') := by
        intro j56  _ _ 
        refine A_istore (L' := [some (av_R (some 164)), some (av_R (some a1)), some (av_R (some a2)), some (av_I a3), some (av_I a4), some (av_I x3), some (av_I j54), some (av_I j56), none, none, none, none]) d_Pairing_weigh_122 (Nat.le_of_ble_eq_true rfl) rfl ?_
        refine A_iload d_Pairing_weigh_124 rfl ?_
        refine A_aload_n 0 d_Pairing_weigh_126 rfl rfl ?_
        refine A_getIn (lo := 0) (hi := 80) T_ok d_Pairing_weigh_127 f_Pairing_42 (xi_s k0.1 sf_164) (xi_g k0.1 (by decide) rgf_164_6) (fun x57 ex57 _ _ => ?_)
        have jp154 : ∀ (j58 : Int) , (-2147483648) ≤ j58 → j58 ≤ 2147483647 → aw G (rm_R 3 0 0) m_Pairing_weigh 0 0 154 [some (av_R (some 164)), some (av_R (some a1)), some (av_R (some a2)), some (av_I a3), some (av_I a4), some (av_I x3), some (av_I j54), some (av_I j56), none, none, none, none] [av_I j58] h (fun r h' => r = none ∧ kF FCR s h h') := by
          intro j58  _ _ 
          refine A_istore (L' := [some (av_R (some 164)), some (av_R (some a1)), some (av_R (some a2)), some (av_I a3), some (av_I a4), some (av_I x3), some (av_I j54), some (av_I j56), some (av_I j58), none, none, none]) d_Pairing_weigh_154 (Nat.le_of_ble_eq_true rfl) rfl ?_
          refine A_iload d_Pairing_weigh_156 rfl ?_
          refine A_iload d_Pairing_weigh_158 rfl ?_
          refine A_iload d_Pairing_weigh_160 rfl ?_
          refine A_mmin d_Pairing_weigh_162 lm_Pairing_62 ma_min (by decide) (by decide) (Nat.le_of_ble_eq_true rfl) rfl ?_
          refine A_nrI (fun x59 ex59 _ _ => ?_)
          have bx59 := mmin_r ex59
          refine A_pc (pc' := 165) rfl ?_
          refine A_mmin d_Pairing_weigh_165 lm_Pairing_62 ma_min (by decide) (by decide) (Nat.le_of_ble_eq_true rfl) rfl ?_
          refine A_nrI (fun x60 ex60 _ _ => ?_)
          have bx60 := mmin_r ex60
          refine A_istore (L' := [some (av_R (some 164)), some (av_R (some a1)), some (av_R (some a2)), some (av_I a3), some (av_I a4), some (av_I x3), some (av_I j54), some (av_I j56), some (av_I j58), some (av_I x60), none, none]) d_Pairing_weigh_168 (Nat.le_of_ble_eq_true rfl) rfl ?_
          refine A_lconst_0 d_Pairing_weigh_170 ?_
          refine A_lstore (L' := [some (av_R (some 164)), some (av_R (some a1)), some (av_R (some a2)), some (av_I a3), some (av_I a4), some (av_I x3), some (av_I j54), some (av_I j56), some (av_I j58), some (av_I x60), some (av_L 0), none]) d_Pairing_weigh_171 (Nat.le_of_ble_eq_true rfl) rfl ?_
          refine A_lload d_Pairing_weigh_173 rfl ?_
          refine A_iload d_Pairing_weigh_175 rfl ?_
          refine A_pc (pc' := 177) rfl ?_
          refine A_iload d_Pairing_weigh_177 rfl ?_
          have jp203 : ∀ (j61 : Int) , (-2147483648) ≤ j61 → j61 ≤ 2147483647 → aw G (rm_R 3 0 0) m_Pairing_weigh 0 0 203 [some (av_R (some 164)), some (av_R (some a1)), some (av_R (some a2)), some (av_I a3), some (av_I a4), some (av_I x3), some (av_I j54), some (av_I j56), some (av_I j58), some (av_I x60), some (av_L 0), none] [av_L j61, av_L 0] h (fun r h' => r = none ∧ kF FCR s h h') := by
            intro j61  _ _ 
            refine A_laddv (z := j61) d_Pairing_weigh_203 (w64_to (by omega) (by unfold i64; omega)) ?_
            refine A_lstore (L' := [some (av_R (some 164)), some (av_R (some a1)), some (av_R (some a2)), some (av_I a3), some (av_I a4), some (av_I x3), some (av_I j54), some (av_I j56), some (av_I j58), some (av_I x60), some (av_L j61), none]) d_Pairing_weigh_204 (Nat.le_of_ble_eq_true rfl) rfl ?_
            refine A_lload d_Pairing_weigh_206 rfl ?_
            refine A_iload d_Pairing_weigh_208 rfl ?_
            refine A_iload d_Pairing_weigh_210 rfl ?_
            have jp234 : ∀ (j62 : Int) , (-2147483648) ≤ j62 → j62 ≤ 2147483647 → aw G (rm_R 3 0 0) m_Pairing_weigh 0 0 234 [some (av_R (some 164)), some (av_R (some a1)), some (av_R (some a2)), some (av_I a3), some (av_I a4), some (av_I x3), some (av_I j54), some (av_I j56), some (av_I j58), some (av_I x60), some (av_L j61), none] [av_L j62, av_L j61] h (fun r h' => r = none ∧ kF FCR s h h') := by
              intro j62  _ _ 
              refine A_laddv (z := (j61 + j62)) d_Pairing_weigh_234 (w64_to (by omega) (by unfold i64; omega)) ?_
              refine A_lstore (L' := [some (av_R (some 164)), some (av_R (some a1)), some (av_R (some a2)), some (av_I a3), some (av_I a4), some (av_I x3), some (av_I j54), some (av_I j56), some (av_I j58), some (av_I x60), some (av_L (j61 + j62)), none]) d_Pairing_weigh_235 (Nat.le_of_ble_eq_true rfl) rfl ?_
              refine A_lload d_Pairing_weigh_237 rfl ?_
              refine A_iload d_Pairing_weigh_239 rfl ?_
              refine A_iload d_Pairing_weigh_241 rfl ?_
              have jp265 : ∀ (j63 : Int) , (-2147483648) ≤ j63 → j63 ≤ 2147483647 → aw G (rm_R 3 0 0) m_Pairing_weigh 0 0 265 [some (av_R (some 164)), some (av_R (some a1)), some (av_R (some a2)), some (av_I a3), some (av_I a4), some (av_I x3), some (av_I j54), some (av_I j56), some (av_I j58), some (av_I x60), some (av_L (j61 + j62)), none] [av_L j63, av_L (j61 + j62)] h (fun r h' => r = none ∧ kF FCR s h h') := by
                intro j63  _ _ 
                refine A_laddv (z := (j61 + j62 + j63)) d_Pairing_weigh_265 (w64_to (by omega) (by unfold i64; omega)) ?_
                refine A_lstore (L' := [some (av_R (some 164)), some (av_R (some a1)), some (av_R (some a2)), some (av_I a3), some (av_I a4), some (av_I x3), some (av_I j54), some (av_I j56), some (av_I j58), some (av_I x60), some (av_L (j61 + j62 + j63)), none]) d_Pairing_weigh_266 (Nat.le_of_ble_eq_true rfl) rfl ?_
                refine A_aload_n 0 d_Pairing_weigh_268 rfl rfl ?_
                refine A_getAv (z := some 167) T_ok d_Pairing_weigh_269 f_Pairing_18 (xi_s k0.1 sf_164) (xi_r k0.1 rff_164_2) ?_
                refine A_iload d_Pairing_weigh_272 rfl ?_
                refine A_pc (pc' := 274) rfl ?_
                refine A_iload d_Pairing_weigh_274 rfl ?_
                refine A_iastorek (KR := kF FCR s h) d_Pairing_weigh_276 (xi_s k0.1 sf_167) (by omega) (by omega) (kF_j k0 (by decide) (ns_b rfl) (rgf_167 _) (by omega) (by omega)) (fun h65 k66 eh65 => ?_)
                refine A_aload_n 0 d_Pairing_weigh_277 rfl rfl ?_
                refine A_getAv (z := some 168) T_ok d_Pairing_weigh_278 f_Pairing_21 (xi_s k66.1 sf_164) (xi_r k66.1 rff_164_3) ?_
                refine A_iload d_Pairing_weigh_281 rfl ?_
                refine A_lload d_Pairing_weigh_283 rfl ?_
                refine A_pc (pc' := 285) rfl ?_
                refine A_ldc2 (z := 1000000007) d_Pairing_weigh_285 cst_Pairing_92 rfl ?_
                refine A_lremc d_Pairing_weigh_288 (by decide) (fun x68 ex68 _ _ => ?_)
                have bx68 := rem_c ex68 (by decide)
                refine A_l2iv (z := x68) d_Pairing_weigh_289 (w32_id (by unfold i32; omega)) ?_
                refine A_iastorek (KR := kF FCR s h) d_Pairing_weigh_290 (xi_s k66.1 sf_168) (by omega) (by omega) (kF_j k66 (by decide) (ns_b rfl) (rgf_168 _) (by omega) (by omega)) (fun h69 k70 eh69 => ?_)
                exact A_vret d_Pairing_weigh_291 (by decide) rfl ⟨rfl, k70⟩
              refine A_icmp_ne (tgt := 264) d_Pairing_weigh_243 (by decide) (fun c71 => ?_) (fun c71 => ?_)
              · refine A_lconst_0 d_Pairing_weigh_264 ?_
                refine A_pc (pc' := 265) rfl ?_
                exact jp265 0 (by omega) (by omega)
              · refine A_aload_n 0 d_Pairing_weigh_246 rfl rfl ?_
                refine A_getAv (z := some 168) T_ok d_Pairing_weigh_247 f_Pairing_21 (xi_s k0.1 sf_164) (xi_r k0.1 rff_164_3) ?_
                refine A_aload_n 0 d_Pairing_weigh_250 rfl rfl ?_
                refine A_iload_n 3 d_Pairing_weigh_251 rfl rfl ?_
                refine A_iload d_Pairing_weigh_252 rfl ?_
                refine A_pc (pc' := 254) rfl ?_
                refine A_iconst d_Pairing_weigh_254 rfl ?_
                refine A_iaddv (z := (a4 + 1)) d_Pairing_weigh_255 (w32_to (by omega) (by unfold i32; omega)) ?_
                refine A_callV2 m_Pairing_slot T_ok d_Pairing_weigh_256 l_Pairing_82 k_Pairing_slot (xi_s k0.1 sf_164) rfl (by decide +kernel) (by decide) (Nat.le_of_ble_eq_true rfl) (s_Pairing_slot k0.1 (by omega) (by omega) (by omega) (by omega)) (fun r h73 hq => ?_)
                obtain ⟨x75, rfl, ⟨_, _⟩, rfl⟩ := hq
                refine A_ialoadf d_Pairing_weigh_259 (xi_s k0.1 sf_168) (by omega) (by omega) (fun x76 ex76 _ _ => ?_)
                refine A_i2l d_Pairing_weigh_260 ?_
                refine A_goto (tgt := 265) d_Pairing_weigh_261 (by decide) ?_
                refine A_pc (pc' := 265) rfl ?_
                exact jp265 x76 (by omega) (by omega)
            refine A_icmp_ne (tgt := 233) d_Pairing_weigh_212 (by decide) (fun c77 => ?_) (fun c77 => ?_)
            · refine A_lconst_0 d_Pairing_weigh_233 ?_
              refine A_pc (pc' := 234) rfl ?_
              exact jp234 0 (by omega) (by omega)
            · refine A_aload_n 0 d_Pairing_weigh_215 rfl rfl ?_
              refine A_getAv (z := some 168) T_ok d_Pairing_weigh_216 f_Pairing_21 (xi_s k0.1 sf_164) (xi_r k0.1 rff_164_3) ?_
              refine A_aload_n 0 d_Pairing_weigh_219 rfl rfl ?_
              refine A_iload_n 3 d_Pairing_weigh_220 rfl rfl ?_
              refine A_iconst d_Pairing_weigh_221 rfl ?_
              refine A_pc (pc' := 222) rfl ?_
              refine A_iaddv (z := (a3 + 1)) d_Pairing_weigh_222 (w32_to (by omega) (by unfold i32; omega)) ?_
              refine A_iload d_Pairing_weigh_223 rfl ?_
              refine A_callV2 m_Pairing_slot T_ok d_Pairing_weigh_225 l_Pairing_82 k_Pairing_slot (xi_s k0.1 sf_164) rfl (by decide +kernel) (by decide) (Nat.le_of_ble_eq_true rfl) (s_Pairing_slot k0.1 (by omega) (by omega) (by omega) (by omega)) (fun r h79 hq => ?_)
              obtain ⟨x81, rfl, ⟨_, _⟩, rfl⟩ := hq
              refine A_ialoadf d_Pairing_weigh_228 (xi_s k0.1 sf_168) (by omega) (by omega) (fun x82 ex82 _ _ => ?_)
              refine A_i2l d_Pairing_weigh_229 ?_
              refine A_goto (tgt := 234) d_Pairing_weigh_230 (by decide) ?_
              refine A_pc (pc' := 234) rfl ?_
              exact jp234 x82 (by omega) (by omega)
          refine A_icmp_ne (tgt := 202) d_Pairing_weigh_179 (by decide) (fun c83 => ?_) (fun c83 => ?_)
          · refine A_lconst_0 d_Pairing_weigh_202 ?_
            refine A_pc (pc' := 203) rfl ?_
            exact jp203 0 (by omega) (by omega)
          · refine A_aload_n 0 d_Pairing_weigh_182 rfl rfl ?_
            refine A_getAv (z := some 168) T_ok d_Pairing_weigh_183 f_Pairing_21 (xi_s k0.1 sf_164) (xi_r k0.1 rff_164_3) ?_
            refine A_aload_n 0 d_Pairing_weigh_186 rfl rfl ?_
            refine A_iload_n 3 d_Pairing_weigh_187 rfl rfl ?_
            refine A_iconst d_Pairing_weigh_188 rfl ?_
            refine A_pc (pc' := 189) rfl ?_
            refine A_iaddv (z := (a3 + 1)) d_Pairing_weigh_189 (w32_to (by omega) (by unfold i32; omega)) ?_
            refine A_iload d_Pairing_weigh_190 rfl ?_
            refine A_iconst d_Pairing_weigh_192 rfl ?_
            refine A_iaddv (z := (a4 + 1)) d_Pairing_weigh_193 (w32_to (by omega) (by unfold i32; omega)) ?_
            refine A_callV2 m_Pairing_slot T_ok d_Pairing_weigh_194 l_Pairing_82 k_Pairing_slot (xi_s k0.1 sf_164) rfl (by decide +kernel) (by decide) (Nat.le_of_ble_eq_true rfl) (s_Pairing_slot k0.1 (by omega) (by omega) (by omega) (by omega)) (fun r h85 hq => ?_)
            obtain ⟨x87, rfl, ⟨_, _⟩, rfl⟩ := hq
            refine A_ialoadf d_Pairing_weigh_197 (xi_s k0.1 sf_168) (by omega) (by omega) (fun x88 ex88 _ _ => ?_)
            refine A_i2l d_Pairing_weigh_198 ?_
            refine A_goto (tgt := 203) d_Pairing_weigh_199 (by decide) ?_
            refine A_pc (pc' := 203) rfl ?_
            exact jp203 x88 (by omega) (by omega)
        refine A_icmp_ge (tgt := 152) d_Pairing_weigh_130 (by decide) (fun c89 => ?_) (fun c89 => ?_)
        · refine A_ldc (z := 2147483647) d_Pairing_weigh_152 cst_Pairing_91 rfl ?_
          refine A_pc (pc' := 154) rfl ?_
          exact jp154 2147483647 (by omega) (by omega)
        · refine A_iconst d_Pairing_weigh_133 rfl ?_
          refine A_aload_n 0 d_Pairing_weigh_134 rfl rfl ?_
          refine A_getAv (z := some 167) T_ok d_Pairing_weigh_135 f_Pairing_18 (xi_s k0.1 sf_164) (xi_r k0.1 rff_164_2) ?_
          refine A_aload_n 0 d_Pairing_weigh_138 rfl rfl ?_
          refine A_iload_n 3 d_Pairing_weigh_139 rfl rfl ?_
          refine A_pc (pc' := 140) rfl ?_
          refine A_iload d_Pairing_weigh_140 rfl ?_
          refine A_iconst d_Pairing_weigh_142 rfl ?_
          refine A_iaddv (z := (a4 + 1)) d_Pairing_weigh_143 (w32_to (by omega) (by unfold i32; omega)) ?_
          refine A_callV2 m_Pairing_slot T_ok d_Pairing_weigh_144 l_Pairing_82 k_Pairing_slot (xi_s k0.1 sf_164) rfl (by decide +kernel) (by decide) (Nat.le_of_ble_eq_true rfl) (s_Pairing_slot k0.1 (by omega) (by omega) (by omega) (by omega)) (fun r h91 hq => ?_)
          obtain ⟨x93, rfl, ⟨_, _⟩, rfl⟩ := hq
          refine A_ialoadf d_Pairing_weigh_147 (xi_s k0.1 sf_167) (by omega) (by omega) (fun x94 ex94 _ _ => ?_)
          refine A_iaddw d_Pairing_weigh_148 (fun x95 _ _ _ => ?_)
          refine A_goto (tgt := 154) d_Pairing_weigh_149 (by decide) ?_
          refine A_pc (pc' := 154) rfl ?_
          exact jp154 x95 (by omega) (by omega)
      refine A_icmp_ge (tgt := 120) d_Pairing_weigh_98 (by decide) (fun c96 => ?_) (fun c96 => ?_)
      · refine A_ldc (z := 2147483647) d_Pairing_weigh_120 cst_Pairing_91 rfl ?_
        refine A_pc (pc' := 122) rfl ?_
        exact jp122 2147483647 (by omega) (by omega)
      · refine A_iconst d_Pairing_weigh_101 rfl ?_
        refine A_aload_n 0 d_Pairing_weigh_102 rfl rfl ?_
        refine A_getAv (z := some 167) T_ok d_Pairing_weigh_103 f_Pairing_18 (xi_s k0.1 sf_164) (xi_r k0.1 rff_164_2) ?_
        refine A_aload_n 0 d_Pairing_weigh_106 rfl rfl ?_
        refine A_iload_n 3 d_Pairing_weigh_107 rfl rfl ?_
        refine A_pc (pc' := 108) rfl ?_
        refine A_iconst d_Pairing_weigh_108 rfl ?_
        refine A_iaddv (z := (a3 + 1)) d_Pairing_weigh_109 (w32_to (by omega) (by unfold i32; omega)) ?_
        refine A_iload d_Pairing_weigh_110 rfl ?_
        refine A_callV2 m_Pairing_slot T_ok d_Pairing_weigh_112 l_Pairing_82 k_Pairing_slot (xi_s k0.1 sf_164) rfl (by decide +kernel) (by decide) (Nat.le_of_ble_eq_true rfl) (s_Pairing_slot k0.1 (by omega) (by omega) (by omega) (by omega)) (fun r h98 hq => ?_)
        obtain ⟨x100, rfl, ⟨_, _⟩, rfl⟩ := hq
        refine A_ialoadf d_Pairing_weigh_115 (xi_s k0.1 sf_167) (by omega) (by omega) (fun x101 ex101 _ _ => ?_)
        refine A_iaddw d_Pairing_weigh_116 (fun x102 _ _ _ => ?_)
        refine A_goto (tgt := 122) d_Pairing_weigh_117 (by decide) ?_
        refine A_pc (pc' := 122) rfl ?_
        exact jp122 x102 (by omega) (by omega)
    refine A_icmp_ge (tgt := 89) d_Pairing_weigh_48 (by decide) (fun c103 => ?_) (fun c103 => ?_)
    · refine A_pc (pc' := 89) rfl ?_
      exact jp89 
    · refine A_iload d_Pairing_weigh_51 rfl ?_
      refine A_aload_n 0 d_Pairing_weigh_53 rfl rfl ?_
      refine A_getIn (lo := 0) (hi := 80) T_ok d_Pairing_weigh_54 f_Pairing_42 (xi_s k0.1 sf_164) (xi_g k0.1 (by decide) rgf_164_6) (fun x104 ex104 _ _ => ?_)
      refine A_icmp_ge (tgt := 89) d_Pairing_weigh_57 (by decide) (fun c105 => ?_) (fun c105 => ?_)
      · refine A_pc (pc' := 89) rfl ?_
        exact jp89 
      · refine A_aload_n 0 d_Pairing_weigh_60 rfl rfl ?_
        refine A_aload_n 1 d_Pairing_weigh_61 rfl rfl ?_
        refine A_aload_n 2 d_Pairing_weigh_62 rfl rfl ?_
        refine A_iload_n 3 d_Pairing_weigh_63 rfl rfl ?_
        refine A_iload d_Pairing_weigh_64 rfl ?_
        refine A_pc (pc' := 66) rfl ?_
        refine A_callV4 m_Pairing_pairCost T_ok d_Pairing_weigh_66 l_Pairing_85 k_Pairing_pairCost (xi_s k0.1 sf_164) rfl (by decide +kernel) (by decide) (Nat.le_of_ble_eq_true rfl) (s_Pairing_pairCost k0.1 ha1 ha2 (by omega) (by omega) (by omega) (by omega)) (fun r h106 hq => ?_)
        obtain ⟨x108, rfl, ⟨_, _⟩, rfl⟩ := hq
        refine A_aload_n 0 d_Pairing_weigh_69 rfl rfl ?_
        refine A_getAv (z := some 167) T_ok d_Pairing_weigh_70 f_Pairing_18 (xi_s k0.1 sf_164) (xi_r k0.1 rff_164_2) ?_
        refine A_aload_n 0 d_Pairing_weigh_73 rfl rfl ?_
        refine A_iload_n 3 d_Pairing_weigh_74 rfl rfl ?_
        refine A_iconst d_Pairing_weigh_75 rfl ?_
        refine A_pc (pc' := 76) rfl ?_
        refine A_iaddv (z := (a3 + 1)) d_Pairing_weigh_76 (w32_to (by omega) (by unfold i32; omega)) ?_
        refine A_iload d_Pairing_weigh_77 rfl ?_
        refine A_iconst d_Pairing_weigh_79 rfl ?_
        refine A_iaddv (z := (a4 + 1)) d_Pairing_weigh_80 (w32_to (by omega) (by unfold i32; omega)) ?_
        refine A_callV2 m_Pairing_slot T_ok d_Pairing_weigh_81 l_Pairing_82 k_Pairing_slot (xi_s k0.1 sf_164) rfl (by decide +kernel) (by decide) (Nat.le_of_ble_eq_true rfl) (s_Pairing_slot k0.1 (by omega) (by omega) (by omega) (by omega)) (fun r h110 hq => ?_)
        obtain ⟨x112, rfl, ⟨_, _⟩, rfl⟩ := hq
        refine A_ialoadf d_Pairing_weigh_84 (xi_s k0.1 sf_167) (by omega) (by omega) (fun x113 ex113 _ _ => ?_)
        refine A_iaddw d_Pairing_weigh_85 (fun x114 _ _ _ => ?_)
        refine A_goto (tgt := 91) d_Pairing_weigh_86 (by decide) ?_
        refine A_pc (pc' := 91) rfl ?_
        exact jp91 x114 (by omega) (by omega)
  refine A_icmp_ne (tgt := 43) d_Pairing_weigh_14 (by decide) (fun c115 => ?_) (fun c115 => ?_)
  · refine A_pc (pc' := 43) rfl ?_
    exact jp43 
  · refine A_iload d_Pairing_weigh_17 rfl ?_
    refine A_aload_n 0 d_Pairing_weigh_19 rfl rfl ?_
    refine A_getIn (lo := 0) (hi := 80) T_ok d_Pairing_weigh_20 f_Pairing_42 (xi_s k0.1 sf_164) (xi_g k0.1 (by decide) rgf_164_6) (fun x116 ex116 _ _ => ?_)
    refine A_icmp_ne (tgt := 43) d_Pairing_weigh_23 (by decide) (fun c117 => ?_) (fun c117 => ?_)
    · refine A_pc (pc' := 43) rfl ?_
      exact jp43 
    · refine A_aload_n 0 d_Pairing_weigh_26 rfl rfl ?_
      refine A_getAv (z := some 167) T_ok d_Pairing_weigh_27 f_Pairing_18 (xi_s k0.1 sf_164) (xi_r k0.1 rff_164_2) ?_
      refine A_iload d_Pairing_weigh_30 rfl ?_
      refine A_iconst d_Pairing_weigh_32 rfl ?_
      refine A_iastorek (KR := kF FCR s h) d_Pairing_weigh_33 (xi_s k0.1 sf_167) (by omega) (by omega) (kF_j k0 (by decide) (ns_b rfl) (rgf_167 _) (by omega) (by omega)) (fun h119 k120 eh119 => ?_)
      refine A_pc (pc' := 34) rfl ?_
      refine A_aload_n 0 d_Pairing_weigh_34 rfl rfl ?_
      refine A_getAv (z := some 168) T_ok d_Pairing_weigh_35 f_Pairing_21 (xi_s k120.1 sf_164) (xi_r k120.1 rff_164_3) ?_
      refine A_iload d_Pairing_weigh_38 rfl ?_
      refine A_iconst d_Pairing_weigh_40 rfl ?_
      refine A_iastorek (KR := kF FCR s h) d_Pairing_weigh_41 (xi_s k120.1 sf_168) (by omega) (by omega) (kF_j k120 (by decide) (ns_b rfl) (rgf_168 _) (by omega) (by omega)) (fun h122 k123 eh122 => ?_)
      exact A_vret d_Pairing_weigh_42 (by decide) rfl ⟨rfl, k123⟩
theorem z_Pairing_choose {G : cx_T} {s : Nat} {h : ah_T} (hx : xi s h) {a1 : Nat} {a2 : Nat} (ha1 : isV a1) (ha2 : isV a2) : con G 4 0 0 m_Pairing_choose [av_R (some 164), av_R (some a1), av_R (some a2)] h (fun r h' => r = none ∧ kF FCR s h h') := by
  refine con_of (L := [some (av_R (some 164)), some (av_R (some a1)), some (av_R (some a2)), none, none]) (by decide +kernel) (Nat.le_of_ble_eq_true rfl) rfl ?_
  have hS : isS s := hx.2.1
  have hs0 : s = 17 ∨ s = 80 := hS
  have k0 : kF FCR s h h := kF_0 hx
  have ga1 := lt_V ha1
  have ga2 := lt_V ha2
  refine A_iconst d_Pairing_choose_0 rfl ?_
  refine A_istore_n 3 (L' := [some (av_R (some 164)), some (av_R (some a1)), some (av_R (some a2)), some (av_I 0), none]) d_Pairing_choose_1 rfl (Nat.le_of_ble_eq_true rfl) rfl ?_
  refine A_iconst d_Pairing_choose_2 rfl ?_
  refine A_istore (L' := [some (av_R (some 164)), some (av_R (some a1)), some (av_R (some a2)), some (av_I 0), some (av_I 0)]) d_Pairing_choose_3 (Nat.le_of_ble_eq_true rfl) rfl ?_
  have lp5 : ∀ (n : Nat) (i1 i2 : Int) (h3 : ah_T) , 0 ≤ i1 → i1 ≤ 80 → 0 ≤ i2 → i2 ≤ 80 → kF FCR s h h3 → (81 - i2).toNat < n → aw G (rm_R 4 0 0) m_Pairing_choose 0 0 5 [some (av_R (some 164)), some (av_R (some a1)), some (av_R (some a2)), some (av_I i1), some (av_I i2)] [] h3 (fun r h' => r = none ∧ kF FCR s h h') := by
    intro n
    induction n with
    | zero => intro i1 i2 h3 _ _ _ _ _ hm; omega
    | succ n ih5 =>
      intro i1 i2 h3 hl0 hl1 hl2 hl3 k4 hm
      refine A_iload d_Pairing_choose_5 rfl ?_
      refine A_aload_n 0 d_Pairing_choose_7 rfl rfl ?_
      refine A_getIn (lo := 0) (hi := 80) T_ok d_Pairing_choose_8 f_Pairing_27 (xi_s k4.1 sf_164) (xi_g k4.1 (by decide) rgf_164_5) (fun x5 ex5 _ _ => ?_)
      refine A_icmp_ge (tgt := 96) d_Pairing_choose_11 (by decide) (fun c6 => ?_) (fun c6 => ?_)
      · exact A_vret d_Pairing_choose_96 (by decide) rfl ⟨rfl, k4⟩
      · refine A_aload_n 0 d_Pairing_choose_14 rfl rfl ?_
        refine A_getAv (z := some 169) T_ok d_Pairing_choose_15 f_Pairing_24 (xi_s k4.1 sf_164) (xi_r k4.1 rff_164_4) ?_
        refine A_iload d_Pairing_choose_18 rfl ?_
        refine A_bipush d_Pairing_choose_20 rfl ?_
        refine A_iastorek (KR := kF FCR s h) d_Pairing_choose_22 (xi_s k4.1 sf_169) (by omega) (by omega) (kF_j k4 (by decide) (ns_b rfl) (rgf_169 _) (by omega) (by omega)) (fun h8 k9 eh8 => ?_)
        have lp23 : ∀ (n : Nat) (i10 : Int) , 0 ≤ i10 → i10 ≤ 80 → (81 - i10).toNat < n → aw G (rm_R 4 0 0) m_Pairing_choose 0 0 23 [some (av_R (some 164)), some (av_R (some a1)), some (av_R (some a2)), some (av_I i10), some (av_I i2)] [] h8 (fun r h' => r = none ∧ kF FCR s h h') := by
          intro n
          induction n with
          | zero => intro i10 _ _ hm; omega
          | succ n ih23 =>
            intro i10 hl0 hl1 hm
            refine A_iload_n 3 d_Pairing_choose_23 rfl rfl ?_
            refine A_aload_n 0 d_Pairing_choose_24 rfl rfl ?_
            refine A_getIn (lo := 0) (hi := 80) T_ok d_Pairing_choose_25 f_Pairing_42 (xi_s k9.1 sf_164) (xi_g k9.1 (by decide) rgf_164_6) (fun x11 ex11 _ _ => ?_)
            refine A_icmp_ge (tgt := 59) d_Pairing_choose_28 (by decide) (fun c12 => ?_) (fun c12 => ?_)
            · refine A_iload_n 3 d_Pairing_choose_59 rfl rfl ?_
              refine A_aload_n 0 d_Pairing_choose_60 rfl rfl ?_
              refine A_getIv (z := x11) T_ok d_Pairing_choose_61 f_Pairing_42 (xi_s k9.1 sf_164) ex11.symm ?_
              refine A_icmp_ge (tgt := 90) d_Pairing_choose_64 (by decide) (fun c14 => ?_) (fun c => False.elim (by omega))
              refine A_iincv (z := (i2 + 1)) (L' := [some (av_R (some 164)), some (av_R (some a1)), some (av_R (some a2)), some (av_I i10), some (av_I (i2 + 1))]) d_Pairing_choose_90 rfl (w32_to (by omega) (by unfold i32; omega)) rfl ?_
              refine A_goto (tgt := 5) d_Pairing_choose_93 (by decide) ?_
              exact ih5 i10 (i2 + 1) h8 (by omega) (by omega) (by omega) (by omega) k9 (by omega)
            · refine A_aload_n 0 d_Pairing_choose_31 rfl rfl ?_
              refine A_aload_n 1 d_Pairing_choose_32 rfl rfl ?_
              refine A_aload_n 2 d_Pairing_choose_33 rfl rfl ?_
              refine A_iload d_Pairing_choose_34 rfl ?_
              refine A_iload_n 3 d_Pairing_choose_36 rfl rfl ?_
              refine A_pc (pc' := 37) rfl ?_
              refine A_callV4 m_Pairing_isPair T_ok d_Pairing_choose_37 l_Pairing_94 k_Pairing_isPair (xi_s k9.1 sf_164) rfl (by decide +kernel) (by decide) (Nat.le_of_ble_eq_true rfl) (s_Pairing_isPair k9.1 ha1 ha2 (by omega) (by omega) (by omega) (by omega)) (fun r h15 hq => ?_)
              obtain ⟨x17, rfl, bx17, rfl⟩ := hq
              refine A_if_ne (tgt := 59) d_Pairing_choose_40 (by decide) (fun c18 => ?_) (fun c18 => ?_)
              · refine A_iload_n 3 d_Pairing_choose_59 rfl rfl ?_
                refine A_aload_n 0 d_Pairing_choose_60 rfl rfl ?_
                refine A_getIv (z := x11) T_ok d_Pairing_choose_61 f_Pairing_42 (xi_s k9.1 sf_164) ex11.symm ?_
                refine A_icmp_ge (tgt := 90) d_Pairing_choose_64 (by decide) (fun c => False.elim (by omega)) (fun c20 => ?_)
                refine A_aload_n 0 d_Pairing_choose_67 rfl rfl ?_
                refine A_aload_n 1 d_Pairing_choose_68 rfl rfl ?_
                refine A_aload_n 2 d_Pairing_choose_69 rfl rfl ?_
                refine A_iload d_Pairing_choose_70 rfl ?_
                refine A_iload_n 3 d_Pairing_choose_72 rfl rfl ?_
                refine A_pc (pc' := 73) rfl ?_
                refine A_callV4 m_Pairing_isPair T_ok d_Pairing_choose_73 l_Pairing_94 k_Pairing_isPair (xi_s k9.1 sf_164) rfl (by decide +kernel) (by decide) (Nat.le_of_ble_eq_true rfl) (s_Pairing_isPair k9.1 ha1 ha2 (by omega) (by omega) (by omega) (by omega)) (fun r h21 hq => ?_)
                obtain ⟨x23, rfl, bx23, rfl⟩ := hq
                refine A_if_eq (tgt := 90) d_Pairing_choose_76 (by decide) (fun c24 => ?_) (fun c24 => ?_)
                · refine A_iincv (z := (i2 + 1)) (L' := [some (av_R (some 164)), some (av_R (some a1)), some (av_R (some a2)), some (av_I i10), some (av_I (i2 + 1))]) d_Pairing_choose_90 rfl (w32_to (by omega) (by unfold i32; omega)) rfl ?_
                  refine A_goto (tgt := 5) d_Pairing_choose_93 (by decide) ?_
                  exact ih5 i10 (i2 + 1) h8 (by omega) (by omega) (by omega) (by omega) k9 (by omega)
                · refine A_aload_n 0 d_Pairing_choose_79 rfl rfl ?_
                  refine A_getAv (z := some 169) T_ok d_Pairing_choose_80 f_Pairing_24 (xi_s k9.1 sf_164) (xi_r k9.1 rff_164_4) ?_
                  refine A_iload d_Pairing_choose_83 rfl ?_
                  refine A_iload_n 3 d_Pairing_choose_85 rfl rfl ?_
                  refine A_iastorek (KR := kF FCR s h) d_Pairing_choose_86 (xi_s k9.1 sf_169) (by omega) (by omega) (kF_j k9 (by decide) (ns_b rfl) (rgf_169 _) (by omega) (by omega)) (fun h26 k27 eh26 => ?_)
                  refine A_pc (pc' := 87) rfl ?_
                  refine A_iincv (z := (i10 + 1)) (L' := [some (av_R (some 164)), some (av_R (some a1)), some (av_R (some a2)), some (av_I (i10 + 1)), some (av_I i2)]) d_Pairing_choose_87 rfl (w32_to (by omega) (by unfold i32; omega)) rfl ?_
                  refine A_iincv (z := (i2 + 1)) (L' := [some (av_R (some 164)), some (av_R (some a1)), some (av_R (some a2)), some (av_I (i10 + 1)), some (av_I (i2 + 1))]) d_Pairing_choose_90 rfl (w32_to (by omega) (by unfold i32; omega)) rfl ?_
                  refine A_goto (tgt := 5) d_Pairing_choose_93 (by decide) ?_
                  exact ih5 (i10 + 1) (i2 + 1) h26 (by omega) (by omega) (by omega) (by omega) k27 (by omega)
              · refine A_aload_n 0 d_Pairing_choose_43 rfl rfl ?_
                refine A_iload d_Pairing_choose_44 rfl ?_
                refine A_iload_n 3 d_Pairing_choose_46 rfl rfl ?_
                refine A_callV2 m_Pairing_isFirstAlone T_ok d_Pairing_choose_47 l_Pairing_98 k_Pairing_isFirstAlone (xi_s k9.1 sf_164) rfl (by decide +kernel) (by decide) (Nat.le_of_ble_eq_true rfl) (s_Pairing_isFirstAlone k9.1 (by omega) (by omega) (by omega) (by omega)) (fun r h28 hq => ?_)
                obtain ⟨x30, rfl, bx30, rfl⟩ := hq
                refine A_if_ne (tgt := 59) d_Pairing_choose_50 (by decide) (fun c31 => ?_) (fun c31 => ?_)
                · refine A_iload_n 3 d_Pairing_choose_59 rfl rfl ?_
                  refine A_aload_n 0 d_Pairing_choose_60 rfl rfl ?_
                  refine A_getIv (z := x11) T_ok d_Pairing_choose_61 f_Pairing_42 (xi_s k9.1 sf_164) ex11.symm ?_
                  refine A_icmp_ge (tgt := 90) d_Pairing_choose_64 (by decide) (fun c => False.elim (by omega)) (fun c33 => ?_)
                  refine A_aload_n 0 d_Pairing_choose_67 rfl rfl ?_
                  refine A_aload_n 1 d_Pairing_choose_68 rfl rfl ?_
                  refine A_aload_n 2 d_Pairing_choose_69 rfl rfl ?_
                  refine A_iload d_Pairing_choose_70 rfl ?_
                  refine A_iload_n 3 d_Pairing_choose_72 rfl rfl ?_
                  refine A_pc (pc' := 73) rfl ?_
                  refine A_callV4 m_Pairing_isPair T_ok d_Pairing_choose_73 l_Pairing_94 k_Pairing_isPair (xi_s k9.1 sf_164) rfl (by decide +kernel) (by decide) (Nat.le_of_ble_eq_true rfl) (s_Pairing_isPair k9.1 ha1 ha2 (by omega) (by omega) (by omega) (by omega)) (fun r h34 hq => ?_)
                  obtain ⟨x36, rfl, bx36, rfl⟩ := hq
                  refine A_if_eq (tgt := 90) d_Pairing_choose_76 (by decide) (fun c37 => ?_) (fun c37 => ?_)
                  · refine A_iincv (z := (i2 + 1)) (L' := [some (av_R (some 164)), some (av_R (some a1)), some (av_R (some a2)), some (av_I i10), some (av_I (i2 + 1))]) d_Pairing_choose_90 rfl (w32_to (by omega) (by unfold i32; omega)) rfl ?_
                    refine A_goto (tgt := 5) d_Pairing_choose_93 (by decide) ?_
                    exact ih5 i10 (i2 + 1) h8 (by omega) (by omega) (by omega) (by omega) k9 (by omega)
                  · refine A_aload_n 0 d_Pairing_choose_79 rfl rfl ?_
                    refine A_getAv (z := some 169) T_ok d_Pairing_choose_80 f_Pairing_24 (xi_s k9.1 sf_164) (xi_r k9.1 rff_164_4) ?_
                    refine A_iload d_Pairing_choose_83 rfl ?_
                    refine A_iload_n 3 d_Pairing_choose_85 rfl rfl ?_
                    refine A_iastorek (KR := kF FCR s h) d_Pairing_choose_86 (xi_s k9.1 sf_169) (by omega) (by omega) (kF_j k9 (by decide) (ns_b rfl) (rgf_169 _) (by omega) (by omega)) (fun h39 k40 eh39 => ?_)
                    refine A_pc (pc' := 87) rfl ?_
                    refine A_iincv (z := (i10 + 1)) (L' := [some (av_R (some 164)), some (av_R (some a1)), some (av_R (some a2)), some (av_I (i10 + 1)), some (av_I i2)]) d_Pairing_choose_87 rfl (w32_to (by omega) (by unfold i32; omega)) rfl ?_
                    refine A_iincv (z := (i2 + 1)) (L' := [some (av_R (some 164)), some (av_R (some a1)), some (av_R (some a2)), some (av_I (i10 + 1)), some (av_I (i2 + 1))]) d_Pairing_choose_90 rfl (w32_to (by omega) (by unfold i32; omega)) rfl ?_
                    refine A_goto (tgt := 5) d_Pairing_choose_93 (by decide) ?_
                    exact ih5 (i10 + 1) (i2 + 1) h39 (by omega) (by omega) (by omega) (by omega) k40 (by omega)
                · refine A_iincv (z := (i10 + 1)) (L' := [some (av_R (some 164)), some (av_R (some a1)), some (av_R (some a2)), some (av_I (i10 + 1)), some (av_I i2)]) d_Pairing_choose_53 rfl (w32_to (by omega) (by unfold i32; omega)) rfl ?_
                  refine A_goto (tgt := 23) d_Pairing_choose_56 (by decide) ?_
                  exact ih23 (i10 + 1) (by omega) (by omega) (by omega)
        exact lp23 _ i1 (by omega) (by omega) (Nat.lt_succ_self _)
  exact lp5 _ 0 0 h (by omega) (by omega) (by omega) (by omega) k0 (Nat.lt_succ_self _)
theorem z_Pairing_find {G : cx_T} {s : Nat} {h : ah_T} (hx : xi s h) {a1 : Nat} {a2 : Nat} (ha1 : isV a1) (ha2 : isV a2) : con G 5 0 0 m_Pairing_find [av_R (some 164), av_R (some a1), av_R (some a2)] h (fun r h' => ∃ z, r = some (av_I z) ∧ ((-2147483648) ≤ z ∧ z ≤ 2147483647) ∧ kF FCR s h h') := by
  refine con_of (L := [some (av_R (some 164)), some (av_R (some a1)), some (av_R (some a2)), none, none]) (by decide +kernel) (Nat.le_of_ble_eq_true rfl) rfl ?_
  have hS : isS s := hx.2.1
  have hs0 : s = 17 ∨ s = 80 := hS
  have k0 : kF FCR s h h := kF_0 hx
  have ga1 := lt_V ha1
  have ga2 := lt_V ha2
  refine A_aload_n 1 d_Pairing_find_0 rfl rfl ?_
  refine A_callS1 m_Pairing_soundsOf d_Pairing_find_1 l_Pairing_34 k_Pairing_soundsOf (by decide +kernel) (by decide) (Nat.le_of_ble_eq_true rfl) (s_Pairing_soundsOf k0.1 ha1) (fun r h1 hq => ?_)
  obtain ⟨x3, rfl, ⟨_, _⟩, rfl⟩ := hq
  refine A_aload_n 2 d_Pairing_find_4 rfl rfl ?_
  refine A_callS1 m_Pairing_soundsOf d_Pairing_find_5 l_Pairing_34 k_Pairing_soundsOf (by decide +kernel) (by decide) (Nat.le_of_ble_eq_true rfl) (s_Pairing_soundsOf k0.1 ha2) (fun r h4 hq => ?_)
  obtain ⟨x6, rfl, ⟨_, _⟩, rfl⟩ := hq
  refine A_iaddw d_Pairing_find_8 (fun x7 _ _ _ => ?_)
  refine A_bipush d_Pairing_find_9 rfl ?_
  refine A_icmp_le (tgt := 17) d_Pairing_find_11 (by decide) (fun c8 => ?_) (fun c8 => ?_)
  · refine A_aload_n 0 d_Pairing_find_17 rfl rfl ?_
    refine A_aload_n 1 d_Pairing_find_18 rfl rfl ?_
    refine A_aload_n 0 d_Pairing_find_19 rfl rfl ?_
    refine A_getAv (z := some 165) T_ok d_Pairing_find_20 f_Pairing_11 (xi_s k0.1 sf_164) (xi_r k0.1 rff_164_0) ?_
    refine A_callS2 m_Pairing_gather d_Pairing_find_23 l_Pairing_38 k_Pairing_gather (by decide +kernel) (by decide) (Nat.le_of_ble_eq_true rfl) (z_Pairing_gather_a k0.1 ha1) (fun r h10 hq => ?_)
    obtain ⟨x12, rfl, ⟨_, _⟩, k11⟩ := hq
    have k13 := kF_t k0 k11 (fun _ q => q)
    refine A_putIk (KR := kF FCR s h) T_ok d_Pairing_find_26 f_Pairing_27 (xi_s k13.1 sf_164) fin_f (kF_j k13 (by decide) (ns_b rfl) rgf_164_5 (by omega) (by omega)) (fun h14 k15 eh14 => ?_)
    refine A_aload_n 0 d_Pairing_find_29 rfl rfl ?_
    refine A_aload_n 2 d_Pairing_find_30 rfl rfl ?_
    refine A_aload_n 0 d_Pairing_find_31 rfl rfl ?_
    refine A_getAv (z := some 166) T_ok d_Pairing_find_32 f_Pairing_15 (xi_s k15.1 sf_164) (xi_r k15.1 rff_164_1) ?_
    refine A_pc (pc' := 35) rfl ?_
    refine A_callS2 m_Pairing_gather d_Pairing_find_35 l_Pairing_38 k_Pairing_gather (by decide +kernel) (by decide) (Nat.le_of_ble_eq_true rfl) (z_Pairing_gather_b k15.1 ha2) (fun r h17 hq => ?_)
    obtain ⟨x19, rfl, ⟨_, _⟩, k18⟩ := hq
    have k20 := kF_t k15 k18 (fun _ q => q)
    refine A_putIk (KR := kF FCR s h) T_ok d_Pairing_find_38 f_Pairing_42 (xi_s k20.1 sf_164) fin_f (kF_j k20 (by decide) (ns_b rfl) rgf_164_6 (by omega) (by omega)) (fun h21 k22 eh21 => ?_)
    refine A_aload_n 0 d_Pairing_find_41 rfl rfl ?_
    refine A_getIn (lo := 0) (hi := 80) T_ok d_Pairing_find_42 f_Pairing_27 (xi_s k22.1 sf_164) (xi_g k22.1 (by decide) rgf_164_5) (fun x23 ex23 _ _ => ?_)
    refine A_istore_n 3 (L' := [some (av_R (some 164)), some (av_R (some a1)), some (av_R (some a2)), some (av_I x23), none]) d_Pairing_find_45 rfl (Nat.le_of_ble_eq_true rfl) rfl ?_
    have lp46 : ∀ (n : Nat) (i24 : Int) (h25 : ah_T) , (-1) ≤ i24 → i24 ≤ 80 → kF FCR s h h25 → (i24 + 2).toNat < n → aw G (rm_R 5 0 0) m_Pairing_find 0 0 46 [some (av_R (some 164)), some (av_R (some a1)), some (av_R (some a2)), some (av_I i24), none] [] h25 (fun r h' => ∃ z, r = some (av_I z) ∧ ((-2147483648) ≤ z ∧ z ≤ 2147483647) ∧ kF FCR s h h') := by
      intro n
      induction n with
      | zero => intro i24 h25 _ _ _ hm; omega
      | succ n ih46 =>
        intro i24 h25 hl0 hl1 k26 hm
        refine A_iload_n 3 d_Pairing_find_46 rfl rfl ?_
        refine A_if_lt (tgt := 82) d_Pairing_find_47 (by decide) (fun c27 => ?_) (fun c27 => ?_)
        · refine A_aload_n 0 d_Pairing_find_82 rfl rfl ?_
          refine A_aload_n 1 d_Pairing_find_83 rfl rfl ?_
          refine A_aload_n 2 d_Pairing_find_84 rfl rfl ?_
          refine A_callV2 m_Pairing_choose T_ok d_Pairing_find_85 l_Pairing_49 k_Pairing_choose (xi_s k26.1 sf_164) rfl (by decide +kernel) (by decide) (Nat.le_of_ble_eq_true rfl) (z_Pairing_choose k26.1 ha1 ha2) (fun r h28 hq => ?_)
          obtain ⟨rfl, k29⟩ := hq
          have k30 := kF_t k26 k29 (fun _ q => q)
          refine A_aload_n 0 d_Pairing_find_88 rfl rfl ?_
          refine A_aload_n 0 d_Pairing_find_89 rfl rfl ?_
          refine A_getAv (z := some 168) T_ok d_Pairing_find_90 f_Pairing_21 (xi_s k30.1 sf_164) (xi_r k30.1 rff_164_3) ?_
          refine A_iconst d_Pairing_find_93 rfl ?_
          refine A_ialoadf d_Pairing_find_94 (xi_s k30.1 sf_168) (by decide) (by decide) (fun x32 ex32 _ _ => ?_)
          refine A_pc (pc' := 95) rfl ?_
          refine A_putIk (KR := kF FCR s h) T_ok d_Pairing_find_95 f_Pairing_31 (xi_s k30.1 sf_164) fin_f (kF_j k30 (by decide) (ns_b rfl) rgf_164_7 (by omega) (by omega)) (fun h33 k34 eh33 => ?_)
          refine A_aload_n 0 d_Pairing_find_98 rfl rfl ?_
          refine A_getAv (z := some 167) T_ok d_Pairing_find_99 f_Pairing_18 (xi_s k34.1 sf_164) (xi_r k34.1 rff_164_2) ?_
          refine A_iconst d_Pairing_find_102 rfl ?_
          refine A_ialoadf d_Pairing_find_103 (xi_s k34.1 sf_167) (by decide) (by decide) (fun x36 ex36 _ _ => ?_)
          exact A_iret d_Pairing_find_104 (by decide) rfl ⟨_, rfl, ⟨by omega, by omega⟩, k34⟩
        · refine A_aload_n 0 d_Pairing_find_50 rfl rfl ?_
          refine A_getIn (lo := 0) (hi := 80) T_ok d_Pairing_find_51 f_Pairing_42 (xi_s k26.1 sf_164) (xi_g k26.1 (by decide) rgf_164_6) (fun x37 ex37 _ _ => ?_)
          refine A_istore (L' := [some (av_R (some 164)), some (av_R (some a1)), some (av_R (some a2)), some (av_I i24), some (av_I x37)]) d_Pairing_find_54 (Nat.le_of_ble_eq_true rfl) rfl ?_
          have lp56 : ∀ (n : Nat) (i38 : Int) (h39 : ah_T) , (-1) ≤ i38 → i38 ≤ 80 → kF FCR s h h39 → (i38 + 2).toNat < n → aw G (rm_R 5 0 0) m_Pairing_find 0 0 56 [some (av_R (some 164)), some (av_R (some a1)), some (av_R (some a2)), some (av_I i24), some (av_I i38)] [] h39 (fun r h' => ∃ z, r = some (av_I z) ∧ ((-2147483648) ≤ z ∧ z ≤ 2147483647) ∧ kF FCR s h h') := by
            intro n
            induction n with
            | zero => intro i38 h39 _ _ _ hm; omega
            | succ n ih56 =>
              intro i38 h39 hl0 hl1 k40 hm
              refine A_iload d_Pairing_find_56 rfl ?_
              refine A_if_lt (tgt := 76) d_Pairing_find_58 (by decide) (fun c41 => ?_) (fun c41 => ?_)
              · refine A_iincv (z := (i24 - 1)) (L' := [some (av_R (some 164)), some (av_R (some a1)), some (av_R (some a2)), some (av_I (i24 - 1)), some (av_I i38)]) d_Pairing_find_76 rfl (w32_to (by omega) (by unfold i32; omega)) rfl ?_
                refine A_goto (tgt := 46) d_Pairing_find_79 (by decide) ?_
                refine A_free (L' := [some (av_R (some 164)), some (av_R (some a1)), some (av_R (some a2)), some (av_I (i24 - 1)), none]) (And.intro rfl (And.intro rfl (And.intro rfl (And.intro rfl trivial)))) ?_
                exact ih46 (i24 - 1) h39 (by omega) (by omega) k40 (by omega)
              · refine A_aload_n 0 d_Pairing_find_61 rfl rfl ?_
                refine A_aload_n 1 d_Pairing_find_62 rfl rfl ?_
                refine A_aload_n 2 d_Pairing_find_63 rfl rfl ?_
                refine A_iload_n 3 d_Pairing_find_64 rfl rfl ?_
                refine A_iload d_Pairing_find_65 rfl ?_
                refine A_pc (pc' := 67) rfl ?_
                refine A_callV4 m_Pairing_weigh T_ok d_Pairing_find_67 l_Pairing_45 k_Pairing_weigh (xi_s k40.1 sf_164) rfl (by decide +kernel) (by decide) (Nat.le_of_ble_eq_true rfl) (z_Pairing_weigh k40.1 ha1 ha2 (by omega) (by omega) (by omega) (by omega)) (fun r h42 hq => ?_)
                obtain ⟨rfl, k43⟩ := hq
                have k44 := kF_t k40 k43 (fun _ q => q)
                refine A_iincv (z := (i38 - 1)) (L' := [some (av_R (some 164)), some (av_R (some a1)), some (av_R (some a2)), some (av_I i24), some (av_I (i38 - 1))]) d_Pairing_find_70 rfl (w32_to (by omega) (by unfold i32; omega)) rfl ?_
                refine A_goto (tgt := 56) d_Pairing_find_73 (by decide) ?_
                exact ih56 (i38 - 1) h42 (by omega) (by omega) k44 (by omega)
          exact lp56 _ x37 h25 (by omega) (by omega) k26 (Nat.lt_succ_self _)
    exact lp46 _ x23 h21 (by omega) (by omega) k22 (Nat.lt_succ_self _)
  · refine A_bipush d_Pairing_find_14 rfl ?_
    exact A_iret d_Pairing_find_16 (by decide) rfl ⟨_, rfl, ⟨by omega, by omega⟩, k0⟩
theorem z_PM_beside {G : cx_T} {s : Nat} {h : ah_T} (hx : xi s h) {a1 : Int} {a2 : Int}  : con G 6 0 0 m_PM_beside [av_R (some 0), av_I a1, av_I a2] h (fun r h' => ∃ z, r = some (av_I z) ∧ ((-2147483648) ≤ z ∧ z ≤ 2147483647) ∧ kF FCR s h h') := by
  refine con_of (L := [some (av_R (some 0)), some (av_I a1), some (av_I a2), none, none]) (by decide +kernel) (Nat.le_of_ble_eq_true rfl) rfl ?_
  have hS : isS s := hx.2.1
  have hs0 : s = 17 ∨ s = 80 := hS
  have k0 : kF FCR s h h := kF_0 hx
  refine A_locI 1 rfl (fun ra => ?_)
  obtain ⟨_, _⟩ := ra
  refine A_locI 2 rfl (fun ra => ?_)
  obtain ⟨_, _⟩ := ra
  refine A_aload_n 0 d_PM_beside_0 rfl rfl ?_
  refine A_getOv (z := some (97 - s)) T_ok d_PM_beside_1 f_PM_27 (xi_s k0.1 sf_0) k0.1.2.2.1 ?_
  refine A_iload_n 1 d_PM_beside_4 rfl rfl ?_
  refine A_callV1 m_Score_voiceAt T_ok d_PM_beside_5 l_PM_125 k_Score_voiceAt (xs_S k0.1 (isS_o hS)) rfl (by decide +kernel) (by decide) (Nat.le_of_ble_eq_true rfl) (s_Score_voiceAt k0.1 (isS_o hS)) (fun r h2 hq => ?_)
  obtain ⟨ox4, rfl, qx4, rfl⟩ := hq
  rcases qx4 with rfl | ⟨x4, rfl, tx4⟩
  · refine A_astore_n 3 (L' := [some (av_R (some 0)), some (av_I a1), some (av_I a2), some (av_R none), none]) d_PM_beside_8 rfl (Nat.le_of_ble_eq_true rfl) rfl ?_
    refine A_aload_n 0 d_PM_beside_9 rfl rfl ?_
    refine A_getOv (z := some (97 - s)) T_ok d_PM_beside_10 f_PM_27 (xi_s k0.1 sf_0) k0.1.2.2.1 ?_
    refine A_iload_n 2 d_PM_beside_13 rfl rfl ?_
    refine A_callV1 m_Score_voiceAt T_ok d_PM_beside_14 l_PM_125 k_Score_voiceAt (xs_S k0.1 (isS_o hS)) rfl (by decide +kernel) (by decide) (Nat.le_of_ble_eq_true rfl) (s_Score_voiceAt k0.1 (isS_o hS)) (fun r h6 hq => ?_)
    obtain ⟨ox8, rfl, qx8, rfl⟩ := hq
    rcases qx8 with rfl | ⟨x8, rfl, tx8⟩
    · refine A_astore (L' := [some (av_R (some 0)), some (av_I a1), some (av_I a2), some (av_R none), some (av_R none)]) d_PM_beside_17 (Nat.le_of_ble_eq_true rfl) rfl ?_
      refine A_aload_n 3 d_PM_beside_19 rfl rfl ?_
      refine A_ifnull (tgt := 28) d_PM_beside_20 (by decide) (fun _ => ?_) (fun a q => by cases q)
      refine A_iconst d_PM_beside_28 rfl ?_
      exact A_iret d_PM_beside_29 (by decide) rfl ⟨_, rfl, ⟨by omega, by omega⟩, k0⟩
    · refine A_astore (L' := [some (av_R (some 0)), some (av_I a1), some (av_I a2), some (av_R none), some (av_R (some x8))]) d_PM_beside_17 (Nat.le_of_ble_eq_true rfl) rfl ?_
      refine A_aload_n 3 d_PM_beside_19 rfl rfl ?_
      refine A_ifnull (tgt := 28) d_PM_beside_20 (by decide) (fun _ => ?_) (fun a q => by cases q)
      refine A_iconst d_PM_beside_28 rfl ?_
      exact A_iret d_PM_beside_29 (by decide) rfl ⟨_, rfl, ⟨by omega, by omega⟩, k0⟩
  · refine A_astore_n 3 (L' := [some (av_R (some 0)), some (av_I a1), some (av_I a2), some (av_R (some x4)), none]) d_PM_beside_8 rfl (Nat.le_of_ble_eq_true rfl) rfl ?_
    refine A_aload_n 0 d_PM_beside_9 rfl rfl ?_
    refine A_getOv (z := some (97 - s)) T_ok d_PM_beside_10 f_PM_27 (xi_s k0.1 sf_0) k0.1.2.2.1 ?_
    refine A_iload_n 2 d_PM_beside_13 rfl rfl ?_
    refine A_callV1 m_Score_voiceAt T_ok d_PM_beside_14 l_PM_125 k_Score_voiceAt (xs_S k0.1 (isS_o hS)) rfl (by decide +kernel) (by decide) (Nat.le_of_ble_eq_true rfl) (s_Score_voiceAt k0.1 (isS_o hS)) (fun r h10 hq => ?_)
    obtain ⟨ox12, rfl, qx12, rfl⟩ := hq
    rcases qx12 with rfl | ⟨x12, rfl, tx12⟩
    · refine A_astore (L' := [some (av_R (some 0)), some (av_I a1), some (av_I a2), some (av_R (some x4)), some (av_R none)]) d_PM_beside_17 (Nat.le_of_ble_eq_true rfl) rfl ?_
      refine A_aload_n 3 d_PM_beside_19 rfl rfl ?_
      refine A_ifnull (tgt := 28) d_PM_beside_20 (by decide) (fun q => by cases q) (fun _ _ => ?_)
      refine A_aload d_PM_beside_23 rfl ?_
      refine A_ifnonnull (tgt := 30) d_PM_beside_25 (by decide) (fun a q => by cases q) (fun _ => ?_)
      refine A_iconst d_PM_beside_28 rfl ?_
      exact A_iret d_PM_beside_29 (by decide) rfl ⟨_, rfl, ⟨by omega, by omega⟩, k0⟩
    · refine A_astore (L' := [some (av_R (some 0)), some (av_I a1), some (av_I a2), some (av_R (some x4)), some (av_R (some x12))]) d_PM_beside_17 (Nat.le_of_ble_eq_true rfl) rfl ?_
      refine A_aload_n 3 d_PM_beside_19 rfl rfl ?_
      refine A_ifnull (tgt := 28) d_PM_beside_20 (by decide) (fun q => by cases q) (fun _ _ => ?_)
      refine A_aload d_PM_beside_23 rfl ?_
      refine A_ifnonnull (tgt := 30) d_PM_beside_25 (by decide) (fun _ _ => ?_) (fun q => by cases q)
      refine A_aload_n 0 d_PM_beside_30 rfl rfl ?_
      refine A_getOv (z := some 164) T_ok d_PM_beside_31 f_PM_72 (xi_s k0.1 sf_0) (xi_r k0.1 rff_0_10) ?_
      refine A_aload_n 3 d_PM_beside_34 rfl rfl ?_
      refine A_aload d_PM_beside_35 rfl ?_
      refine A_callV2 m_Pairing_find T_ok d_PM_beside_37 l_PM_192 k_Pairing_find (xi_s k0.1 sf_164) rfl (by decide +kernel) (by decide) (Nat.le_of_ble_eq_true rfl) (z_Pairing_find k0.1 (tV_V (isS_o hS) tx4) (tV_V (isS_o hS) tx12)) (fun r h14 hq => ?_)
      obtain ⟨x16, rfl, ⟨_, _⟩, k15⟩ := hq
      have k17 := kF_t k0 k15 (fun _ q => q)
      exact A_iret d_PM_beside_40 (by decide) rfl ⟨_, rfl, ⟨by omega, by omega⟩, k17⟩

/-! ===== feed and cut: what they leave as it was ===== -/
abbrev FCF : Nat → Prop := fun a => 2 ≤ a
theorem kF_w {F F' : Nat → Prop} {s : Nat} {h h' : ah_T} (k : kF F' s h h') (hF : ∀ a, F a → F' a) : kF F s h h' := ⟨k.1, fun a ha => k.2 a (hF a ha)⟩
theorem z_PM_putBytes {G : cx_T} {s : Nat} {h : ah_T} (hx : xi s h) {a1 : Int}  : con G 0 0 0 m_PM_putBytes [av_R (some 0), av_I a1] h (fun r h' => r = none ∧ (h.2.1 0 1 ≤ 1996 → h'.2.1 0 1 = h.2.1 0 1 + 4) ∧ kF FCF s h h') := by
  refine con_of (L := [some (av_R (some 0)), some (av_I a1), none]) (by decide +kernel) (Nat.le_of_ble_eq_true rfl) rfl ?_
  have hS : isS s := hx.2.1
  have hs0 : s = 17 ∨ s = 80 := hS
  have k0 : kF FCF s h h := kF_0 hx
  obtain ⟨sd1, esd1⟩ : ∃ x, x = h.2.1 0 1 := ⟨_, rfl⟩
  have rsd1 : 0 ≤ sd1 ∧ sd1 ≤ 2000 := (by rw [esd1]; exact xi_g k0.1 (by decide) rgf_0_1)
  refine A_locI 1 rfl (fun ra => ?_)
  obtain ⟨_, _⟩ := ra
  refine A_bipush d_PM_putBytes_0 rfl ?_
  refine A_istore_n 2 (L' := [some (av_R (some 0)), some (av_I a1), some (av_I 24)]) d_PM_putBytes_2 rfl (Nat.le_of_ble_eq_true rfl) rfl ?_
  have lp3 : ∀ (n : Nat) (i2 : Int) (h3 : ah_T) , (-8) ≤ i2 → i2 ≤ 24 → (h.2.1 0 1 ≤ 1996 → h3.2.1 0 1 * 8 = h.2.1 0 1 * 8 + 24 - i2) → kF FCF s h h3 → (i2 + 9).toNat < n → aw G (rm_R 0 0 0) m_PM_putBytes 0 0 3 [some (av_R (some 0)), some (av_I a1), some (av_I i2)] [] h3 (fun r h' => r = none ∧ (h.2.1 0 1 ≤ 1996 → h'.2.1 0 1 = h.2.1 0 1 + 4) ∧ kF FCF s h h') := by
    intro n
    induction n with
    | zero => intro i2 h3 _ _ _ _ hm; omega
    | succ n ih3 =>
      intro i2 h3 hl0 hl1 hinv k4 hm
      obtain ⟨sd5, esd5⟩ : ∃ x, x = h3.2.1 0 1 := ⟨_, rfl⟩
      have rsd5 : 0 ≤ sd5 ∧ sd5 ≤ 2000 := (by rw [esd5]; exact xi_g k4.1 (by decide) rgf_0_1)
      refine A_iload_n 2 d_PM_putBytes_3 rfl rfl ?_
      refine A_if_lt (tgt := 51) d_PM_putBytes_4 (by decide) (fun c6 => ?_) (fun c6 => ?_)
      · exact A_vret d_PM_putBytes_51 (by decide) rfl ⟨rfl, (fun p => by have qq0 := esd5.symm; have q9 := hinv p; omega), k4⟩
      · refine A_aload_n 0 d_PM_putBytes_7 rfl rfl ?_
        refine A_getIv (z := sd5) T_ok d_PM_putBytes_8 f_PM_13 (xi_s k4.1 sf_0) esd5.symm ?_
        refine A_aload_n 0 d_PM_putBytes_11 rfl rfl ?_
        refine A_getAv (z := some 1) T_ok d_PM_putBytes_12 f_PM_9 (xi_s k4.1 sf_0) (xi_r k4.1 rff_0_0) ?_
        refine A_alenN d_PM_putBytes_15 (xi_s k4.1 sf_1) (by decide) (by decide) ?_
        refine A_pc (pc' := 16) rfl ?_
        refine A_icmp_ge (tgt := 45) d_PM_putBytes_16 (by decide) (fun c9 => ?_) (fun c9 => ?_)
        · refine A_iincv (z := (i2 - 8)) (L' := [some (av_R (some 0)), some (av_I a1), some (av_I (i2 - 8))]) d_PM_putBytes_45 rfl (w32_to (by omega) (by unfold i32; omega)) rfl ?_
          refine A_goto (tgt := 3) d_PM_putBytes_48 (by decide) ?_
          exact ih3 (i2 - 8) h3 (by omega) (by omega) (fun p => by have qq0 := esd5.symm; have q9 := hinv p; omega) k4 (by omega)
        · refine A_aload_n 0 d_PM_putBytes_19 rfl rfl ?_
          refine A_getAv (z := some 1) T_ok d_PM_putBytes_20 f_PM_9 (xi_s k4.1 sf_0) (xi_r k4.1 rff_0_0) ?_
          refine A_aload_n 0 d_PM_putBytes_23 rfl rfl ?_
          refine A_getIv (z := sd5) T_ok d_PM_putBytes_24 f_PM_13 (xi_s k4.1 sf_0) esd5.symm ?_
          refine A_iload_n 1 d_PM_putBytes_27 rfl rfl ?_
          refine A_pc (pc' := 28) rfl ?_
          refine A_iload_n 2 d_PM_putBytes_28 rfl rfl ?_
          refine A_iushr d_PM_putBytes_29 ?_
          refine A_nrI (fun x12 ex12 _ _ => ?_)
          refine A_sipush d_PM_putBytes_30 rfl ?_
          refine A_iand d_PM_putBytes_33 ?_
          refine A_nrI (fun x13 ex13 _ _ => ?_)
          have bx13 := and_r (m := 255) 8 ex13 (by decide) (by decide) (by decide)
          refine A_iastorek (KR := kF FCF s h) d_PM_putBytes_34 (xi_s k4.1 sf_1) (by omega) (by omega) (kF_j k4 (by decide) (ns_b rfl) (rgf_1 _) (by omega) (by omega)) (fun h14 k15 eh14 => ?_)
          refine A_aload_n 0 d_PM_putBytes_35 rfl rfl ?_
          refine A_pc (pc' := 36) rfl ?_
          refine A_dupR d_PM_putBytes_36 ?_
          refine A_getIv (z := sd5) T_ok d_PM_putBytes_37 f_PM_13 (xi_s k15.1 sf_0) ((eh14.1 _ _ (fun q => absurd q (by decide))).trans esd5.symm) ?_
          refine A_iconst d_PM_putBytes_40 rfl ?_
          refine A_iaddv (z := (sd5 + 1)) d_PM_putBytes_41 (w32_to (by omega) (by unfold i32; omega)) ?_
          refine A_putIk (KR := kF FCF s h) T_ok d_PM_putBytes_42 f_PM_13 (xi_s k15.1 sf_0) fin_f (kF_j k15 (by decide) (ns_b rfl) rgf_0_1 (by omega) (by omega)) (fun h17 k18 eh17 => ?_)
          refine A_iincv (z := (i2 - 8)) (L' := [some (av_R (some 0)), some (av_I a1), some (av_I (i2 - 8))]) d_PM_putBytes_45 rfl (w32_to (by omega) (by unfold i32; omega)) rfl ?_
          refine A_pc (pc' := 48) rfl ?_
          refine A_goto (tgt := 3) d_PM_putBytes_48 (by decide) ?_
          exact ih3 (i2 - 8) h17 (by omega) (by omega) (fun p => by have qq0 := eh17.2.1; have q9 := hinv p; omega) k18 (by omega)
  exact lp3 _ 24 h (by omega) (by omega) (fun p => by have qq0 := esd1.symm; omega) k0 (Nat.lt_succ_self _)
theorem z_PM_feed {G : cx_T} {s : Nat} {h : ah_T} (hx : xi s h) {a1 : Int} {a2 : Int} {a3 : Int} {a4 : Int} {a5 : Int}  : con G 1 0 0 m_PM_feed [av_R (some 0), av_I a1, av_I a2, av_I a3, av_I a4, av_I a5] h (fun r h' => ∃ z, r = some (av_I z) ∧ ((-3) ≤ z ∧ z ≤ 2000) ∧ ((h.2.1 0 1 ≤ 1980 → z = h.2.1 0 1 + 20 ∧ h'.2.1 0 1 = h.2.1 0 1 + 20) ∧ (1980 < h.2.1 0 1 → z = -3 ∧ h'.2.1 0 1 = h.2.1 0 1)) ∧ kF FCF s h h') := by
  refine con_of (L := [some (av_R (some 0)), some (av_I a1), some (av_I a2), some (av_I a3), some (av_I a4), some (av_I a5)]) (by decide +kernel) (Nat.le_of_ble_eq_true rfl) rfl ?_
  have hS : isS s := hx.2.1
  have hs0 : s = 17 ∨ s = 80 := hS
  have k0 : kF FCF s h h := kF_0 hx
  obtain ⟨sd1, esd1⟩ : ∃ x, x = h.2.1 0 1 := ⟨_, rfl⟩
  have rsd1 : 0 ≤ sd1 ∧ sd1 ≤ 2000 := (by rw [esd1]; exact xi_g k0.1 (by decide) rgf_0_1)
  refine A_locI 1 rfl (fun ra => ?_)
  obtain ⟨_, _⟩ := ra
  refine A_locI 2 rfl (fun ra => ?_)
  obtain ⟨_, _⟩ := ra
  refine A_locI 3 rfl (fun ra => ?_)
  obtain ⟨_, _⟩ := ra
  refine A_locI 4 rfl (fun ra => ?_)
  obtain ⟨_, _⟩ := ra
  refine A_locI 5 rfl (fun ra => ?_)
  obtain ⟨_, _⟩ := ra
  refine A_aload_n 0 d_PM_feed_0 rfl rfl ?_
  refine A_getIv (z := sd1) T_ok d_PM_feed_1 f_PM_13 (xi_s k0.1 sf_0) esd1.symm ?_
  refine A_bipush d_PM_feed_4 rfl ?_
  refine A_iaddv (z := (sd1 + 20)) d_PM_feed_6 (w32_to (by omega) (by unfold i32; omega)) ?_
  refine A_sipush d_PM_feed_7 rfl ?_
  refine A_pc (pc' := 10) rfl ?_
  refine A_icmp_le (tgt := 16) d_PM_feed_10 (by decide) (fun c3 => ?_) (fun c3 => ?_)
  · refine A_aload_n 0 d_PM_feed_16 rfl rfl ?_
    refine A_iload_n 1 d_PM_feed_17 rfl rfl ?_
    have zf5 := esd1.symm
    refine A_callV1 m_PM_putBytes T_ok d_PM_feed_18 l_PM_76 k_PM_putBytes (xi_s k0.1 sf_0) rfl (by decide +kernel) (by decide) (Nat.le_of_ble_eq_true rfl) (z_PM_putBytes k0.1 ) (fun r h4 hq => ?_)
    obtain ⟨rfl, xk6, k6⟩ := hq
    have k7 := kF_t k0 k6 (fun _ q => q)
    obtain ⟨sd8, esd8⟩ : ∃ x, x = h4.2.1 0 1 := ⟨_, rfl⟩
    have rsd8 : 0 ≤ sd8 ∧ sd8 ≤ 2000 := (by rw [esd8]; exact xi_g k7.1 (by decide) rgf_0_1)
    refine A_aload_n 0 d_PM_feed_21 rfl rfl ?_
    refine A_iload_n 2 d_PM_feed_22 rfl rfl ?_
    have zf10 := esd8.symm
    refine A_callV1 m_PM_putBytes T_ok d_PM_feed_23 l_PM_76 k_PM_putBytes (xi_s k7.1 sf_0) rfl (by decide +kernel) (by decide) (Nat.le_of_ble_eq_true rfl) (z_PM_putBytes k7.1 ) (fun r h9 hq => ?_)
    obtain ⟨rfl, xk11, k11⟩ := hq
    have k12 := kF_t k7 k11 (fun _ q => q)
    obtain ⟨sd13, esd13⟩ : ∃ x, x = h9.2.1 0 1 := ⟨_, rfl⟩
    have rsd13 : 0 ≤ sd13 ∧ sd13 ≤ 2000 := (by rw [esd13]; exact xi_g k12.1 (by decide) rgf_0_1)
    refine A_aload_n 0 d_PM_feed_26 rfl rfl ?_
    refine A_iload_n 3 d_PM_feed_27 rfl rfl ?_
    have zf15 := esd13.symm
    refine A_callV1 m_PM_putBytes T_ok d_PM_feed_28 l_PM_76 k_PM_putBytes (xi_s k12.1 sf_0) rfl (by decide +kernel) (by decide) (Nat.le_of_ble_eq_true rfl) (z_PM_putBytes k12.1 ) (fun r h14 hq => ?_)
    obtain ⟨rfl, xk16, k16⟩ := hq
    have k17 := kF_t k12 k16 (fun _ q => q)
    obtain ⟨sd18, esd18⟩ : ∃ x, x = h14.2.1 0 1 := ⟨_, rfl⟩
    have rsd18 : 0 ≤ sd18 ∧ sd18 ≤ 2000 := (by rw [esd18]; exact xi_g k17.1 (by decide) rgf_0_1)
    refine A_aload_n 0 d_PM_feed_31 rfl rfl ?_
    refine A_iload d_PM_feed_32 rfl ?_
    have zf20 := esd18.symm
    refine A_callV1 m_PM_putBytes T_ok d_PM_feed_34 l_PM_76 k_PM_putBytes (xi_s k17.1 sf_0) rfl (by decide +kernel) (by decide) (Nat.le_of_ble_eq_true rfl) (z_PM_putBytes k17.1 ) (fun r h19 hq => ?_)
    obtain ⟨rfl, xk21, k21⟩ := hq
    have k22 := kF_t k17 k21 (fun _ q => q)
    obtain ⟨sd23, esd23⟩ : ∃ x, x = h19.2.1 0 1 := ⟨_, rfl⟩
    have rsd23 : 0 ≤ sd23 ∧ sd23 ≤ 2000 := (by rw [esd23]; exact xi_g k22.1 (by decide) rgf_0_1)
    refine A_aload_n 0 d_PM_feed_37 rfl rfl ?_
    refine A_iload d_PM_feed_38 rfl ?_
    have zf25 := esd23.symm
    refine A_callV1 m_PM_putBytes T_ok d_PM_feed_40 l_PM_76 k_PM_putBytes (xi_s k22.1 sf_0) rfl (by decide +kernel) (by decide) (Nat.le_of_ble_eq_true rfl) (z_PM_putBytes k22.1 ) (fun r h24 hq => ?_)
    obtain ⟨rfl, xk26, k26⟩ := hq
    have k27 := kF_t k22 k26 (fun _ q => q)
    obtain ⟨sd28, esd28⟩ : ∃ x, x = h24.2.1 0 1 := ⟨_, rfl⟩
    have rsd28 : 0 ≤ sd28 ∧ sd28 ≤ 2000 := (by rw [esd28]; exact xi_g k27.1 (by decide) rgf_0_1)
    refine A_aload_n 0 d_PM_feed_43 rfl rfl ?_
    refine A_getIv (z := sd28) T_ok d_PM_feed_44 f_PM_13 (xi_s k27.1 sf_0) esd28.symm ?_
    exact A_iret d_PM_feed_47 (by decide) rfl ⟨_, rfl, ⟨by omega, by omega⟩, (by have qq0 := esd28.symm; omega), k27⟩
  · refine A_bipush d_PM_feed_13 rfl ?_
    exact A_iret d_PM_feed_15 (by decide) rfl ⟨_, rfl, ⟨by omega, by omega⟩, (by have qq0 := esd1.symm; omega), k0⟩
theorem z_PM_cut {G : cx_T} {s : Nat} {h : ah_T} (hx : xi s h) {a1 : Int}  : con G 0 0 0 m_PM_cut [av_R (some 0), av_I a1] h (fun r h' => ∃ z, r = some (av_I z) ∧ ((-1) ≤ z ∧ z ≤ 2000) ∧ ((a1 < 0 ∨ h.2.1 0 1 < a1 → z = -1 ∧ h'.2.1 0 1 = h.2.1 0 1) ∧ (0 ≤ a1 → a1 ≤ h.2.1 0 1 → z = h.2.1 0 1 - a1 ∧ h'.2.1 0 1 = h.2.1 0 1 - a1)) ∧ kF FCF s h h') := by
  refine con_of (L := [some (av_R (some 0)), some (av_I a1)]) (by decide +kernel) (Nat.le_of_ble_eq_true rfl) rfl ?_
  have hS : isS s := hx.2.1
  have hs0 : s = 17 ∨ s = 80 := hS
  have k0 : kF FCF s h h := kF_0 hx
  obtain ⟨sd1, esd1⟩ : ∃ x, x = h.2.1 0 1 := ⟨_, rfl⟩
  have rsd1 : 0 ≤ sd1 ∧ sd1 ≤ 2000 := (by rw [esd1]; exact xi_g k0.1 (by decide) rgf_0_1)
  refine A_locI 1 rfl (fun ra => ?_)
  obtain ⟨_, _⟩ := ra
  refine A_iload_n 1 d_PM_cut_0 rfl rfl ?_
  refine A_if_lt (tgt := 12) d_PM_cut_1 (by decide) (fun c2 => ?_) (fun c2 => ?_)
  · refine A_iconst d_PM_cut_12 rfl ?_
    exact A_iret d_PM_cut_13 (by decide) rfl ⟨_, rfl, ⟨by omega, by omega⟩, (by have qq0 := esd1.symm; omega), k0⟩
  · refine A_iload_n 1 d_PM_cut_4 rfl rfl ?_
    refine A_aload_n 0 d_PM_cut_5 rfl rfl ?_
    refine A_getIv (z := sd1) T_ok d_PM_cut_6 f_PM_13 (xi_s k0.1 sf_0) esd1.symm ?_
    refine A_icmp_le (tgt := 14) d_PM_cut_9 (by decide) (fun c4 => ?_) (fun c4 => ?_)
    · refine A_aload_n 0 d_PM_cut_14 rfl rfl ?_
      refine A_dupR d_PM_cut_15 ?_
      refine A_getIv (z := sd1) T_ok d_PM_cut_16 f_PM_13 (xi_s k0.1 sf_0) esd1.symm ?_
      refine A_iload_n 1 d_PM_cut_19 rfl rfl ?_
      refine A_isubv (z := (sd1 - a1)) d_PM_cut_20 (w32_to (by omega) (by unfold i32; omega)) ?_
      refine A_pc (pc' := 21) rfl ?_
      refine A_putIk (KR := kF FCF s h) T_ok d_PM_cut_21 f_PM_13 (xi_s k0.1 sf_0) fin_f (kF_j k0 (by decide) (ns_b rfl) rgf_0_1 (by omega) (by omega)) (fun h6 k7 eh6 => ?_)
      refine A_aload_n 0 d_PM_cut_24 rfl rfl ?_
      refine A_getIv (z := (sd1 - a1)) T_ok d_PM_cut_25 f_PM_13 (xi_s k7.1 sf_0) eh6.2.1 ?_
      exact A_iret d_PM_cut_28 (by decide) rfl ⟨_, rfl, ⟨by omega, by omega⟩, (by have qq0 := eh6.2.1; omega), k7⟩
    · refine A_iconst d_PM_cut_12 rfl ?_
      exact A_iret d_PM_cut_13 (by decide) rfl ⟨_, rfl, ⟨by omega, by omega⟩, (by have qq0 := esd1.symm; omega), k0⟩
theorem f_PM_feed {G : cx_T} {s : Nat} {h : ah_T} {a b c d e : Int} (hx : xi s h) (hm : mi h) (E : EX s h) : con G 1 0 0 m_PM_feed [av_R (some 0), av_I a, av_I b, av_I c, av_I d, av_I e] h (fun r h' => ∃ z, r = some (av_I z) ∧ ((-3) ≤ z ∧ z ≤ 2000) ∧ ((h.2.1 0 1 ≤ 1980 → z = h.2.1 0 1 + 20 ∧ h'.2.1 0 1 = h.2.1 0 1 + 20) ∧ (1980 < h.2.1 0 1 → z = -3 ∧ h'.2.1 0 1 = h.2.1 0 1)) ∧ kF FCF s h h' ∧ FDq s a b c d e h') := by
  obtain ⟨⟨T, n, hn, tc, tr⟩, p, μ, C, R⟩ := E
  have hb0 := hb_xm hx hm
  refine con_mono (con_conj (h2 := h) (z_PM_feed hx) (t_PM_feed hb0 tc.1 hn)) ?_
  rintro r h' ⟨⟨z, q1, q2, q3, kz⟩, r2, h2, ⟨hb2, q⟩, -, S⟩
  have kf : kF FA s h h' := kF_w kz (fun a q => by omega)
  refine ⟨z, q1, q2, q3, kz, ?_, ?_, μ, CK_s hx.2.1 C (fun a q1 q2 => kf.2 a (Or.inl ⟨q1, q2⟩)), KS_s2 R (fun a k q1 q2 => ⟨congrFun (kf.2 a (Or.inr (by omega))).1 k, congrFun (kf.2 a (Or.inr (by omega))).2.1 k⟩)⟩
  all_goals have A : agI h2 h' := agI_of hb2.1 kf.1.1 (sh_sym S)
  · have tr' : TRt T n h' := TR_e tr (congrFun (kf.2 170 (Or.inr (by decide))).1 1) (kf.2 171 (Or.inr (by decide))).1
    rcases q with ⟨w1, -, w3, w4, w5⟩ | ⟨w1, -, rfl⟩
    · refine ⟨fun j => if j < n then T j else fdb a b c d e (j - n), n, hn, ⟨tr'.1, fun j hj => ?_⟩, Or.inl ⟨w1, TC_ag w1 ⟨by rw [w4]; omega, fun j hj => ?_⟩ A, fun j hj => ?_⟩⟩
      · dsimp only
        rw [if_pos hj]
        exact tr'.2 j hj
      · dsimp only
        by_cases c : j < n
        · rw [if_pos c, fr_g w3 (by omega)]
          exact tc.2 j c
        · have := w5 (j - n) (by omega)
          rw [show n + (j - n) = j by omega] at this
          rw [if_neg c]
          exact ⟨this, fdb_b _ _ _ _ _ _⟩
      · dsimp only
        rw [if_neg (by omega), show n + j - n = j by omega]
    · exact ⟨T, n, hn, tr', Or.inr ⟨w1, TC_ag hn tc A⟩⟩
  · rw [A 0 4 (by decide +kernel), (kf.2 170 (Or.inr (by decide))).1, ← p]
    rcases q with ⟨w1, -, w3, w4, w5⟩ | ⟨w1, -, rfl⟩
    · exact fr_g w3 (by omega)
    · rfl
theorem f_PM_cut {G : cx_T} {s : Nat} {h : ah_T} {a : Int} (hx : xi s h) (hm : mi h) (E : EX s h) : con G 0 0 0 m_PM_cut [av_R (some 0), av_I a] h (fun r h' => ∃ z, r = some (av_I z) ∧ ((-1) ≤ z ∧ z ≤ 2000) ∧ ((a < 0 ∨ h.2.1 0 1 < a → z = -1 ∧ h'.2.1 0 1 = h.2.1 0 1) ∧ (0 ≤ a → a ≤ h.2.1 0 1 → z = h.2.1 0 1 - a ∧ h'.2.1 0 1 = h.2.1 0 1 - a)) ∧ kF FCF s h h' ∧ CTq s a h') := by
  obtain ⟨⟨T, n, hn, tc, tr⟩, p, μ, C, R⟩ := E
  have hb0 := hb_xm hx hm
  refine con_mono (con_conj (h2 := h) (z_PM_cut hx) (t_PM_cut hb0 tc.1 hn)) ?_
  rintro r h' ⟨⟨z, q1, q2, q3, kz⟩, r2, h2, ⟨hb2, q⟩, -, S⟩
  have kf : kF FA s h h' := kF_w kz (fun a q => by omega)
  have A : agI h2 h' := agI_of hb2.1 kf.1.1 (sh_sym S)
  refine ⟨z, q1, q2, q3, kz, ?_, ?_, μ, CK_s hx.2.1 C (fun a q1 q2 => kf.2 a (Or.inl ⟨q1, q2⟩)), KS_s2 R (fun a k q1 q2 => ⟨congrFun (kf.2 a (Or.inr (by omega))).1 k, congrFun (kf.2 a (Or.inr (by omega))).2.1 k⟩)⟩
  · have tr' : TRt T n h' := TR_e tr (congrFun (kf.2 170 (Or.inr (by decide))).1 1) (kf.2 171 (Or.inr (by decide))).1
    rcases q with ⟨w1, w2, -, w3, w4⟩ | ⟨w1, -, rfl⟩
    · refine ⟨T, n, (n - a).toNat, hn, by omega, tr', TC_ag (by omega) ⟨by rw [w4]; omega, fun j hj => ?_⟩ A, Or.inl ⟨w1, w2, by omega⟩⟩
      rw [fr_g w3 (by omega)]
      exact tc.2 j (by omega)
    · exact ⟨T, n, n, hn, Nat.le_refl _, tr', TC_ag hn tc A, Or.inr ⟨w1, rfl⟩⟩
  · rw [A 0 4 (by decide +kernel), (kf.2 170 (Or.inr (by decide))).1, ← p]
    rcases q with ⟨w1, w2, -, w3, w4⟩ | ⟨w1, -, rfl⟩
    · exact fr_g w3 (by omega)
    · rfl

/-! ===== score, and what was found: kept with a fault, forgotten with a score ===== -/
/-- the class's findings are as they were -/
def fkc (h0 h : ah_T) : Prop := (∀ a k, 143 ≤ a → a < 170 → icb a k = true → h.2.1 a k = h0.2.1 a k) ∧ ∀ a k, 143 ≤ a → a < 170 → lcb a k = true → h.2.2.1 a k = h0.2.2.1 a k
/-- how many were found, in the reference -/
def fkL : List Nat := [80, 85, 89, 91, 98, 104, 105]
def fkm (h0 h : ah_T) : Prop := ∀ k, k ∈ fkL → h.2.1 170 k = h0.2.1 170 k
/-- the reference's rules and row are as they were -/
def Rce (a k : Nat) : Prop := ((a = 177 ∨ a = 181) ∧ k = 0) ∨ ((178 ≤ a ∧ a ≤ 180) ∧ k < 24) ∨ (a = 182 ∧ k < 12)
def fkr (h0 h : ah_T) : Prop := ∀ a k, Rce a k → icb a k = true → h.2.1 a k = h0.2.1 a k
def Zer (h : ah_T) : Prop := ∀ k, k ∈ fkL → h.2.1 170 k = 0
def FQf (R : F_T ⊕ pm_T) (h0 h : ah_T) : Prop := match R with
  | .inl _ => fkc h0 h
  | .inr _ => Fgt h
def SDf (s : Nat) (z : Int) (h0 h : ah_T) : Prop := h.2.1 0 1 = 0 ∧ ∃ (T : Nat → Int) (n : Nat), n ≤ 2000 ∧ TRt T n h ∧ (∀ j, j < n → 0 ≤ T j ∧ T j ≤ 255) ∧ ∃ (t : tk_T) (m : Nat) (a b : Nat → Nat), TkA T n t m a b ∧ SRr s (sp_score t) z h ∧ FQf (sp_score t) h0 h
/-- of both, behind both scores: h0 before, h1 between, h behind -/
def FZ (h0 h1 h : ah_T) : Prop := (fkc h0 h ∧ fkm h1 h ∧ fkr h1 h) ∨ (Fgt h ∧ Zer h)
theorem SDf_q {s : Nat} {z : Int} {h0 h : ah_T} (E : SDf s z h0 h) : SDq s z h := by
  obtain ⟨q, T, n, hn, tr, hT, t, m, a, b, TK, SR, -⟩ := E
  exact ⟨q, T, n, hn, tr, hT, t, m, a, b, TK, SR⟩
theorem e_PM_score_f {G : cx_T} {s : Nat} {h : ah_T} (hx : xi s h) (hm : mi h) (E : EX s h) : con G 24 0 0 m_PM_score [av_R (some 0)] h (fun r h' => ∃ z, r = some (av_I z) ∧ ((-2147483648) ≤ z ∧ z ≤ 2147483647) ∧ ∃ s', xi s' h' ∧ h'.2.1 0 1 = 0 ∧ (∀ a, 170 ≤ a → same3 h h' a) ∧ SDf s' z h h') := by
  obtain ⟨⟨T, n, hn, tc, tr⟩, p, μ, C, R⟩ := E
  have hb0 := hb_xm hx hm
  refine con_mono (con_conj (h2 := h) (s_PM_score hx) (t_PM_score hb0 tc.1 hn tc.2)) ?_
  rintro r h' ⟨⟨z, q1, q2, s', hx', q3, f⟩, r2, h2, ⟨z2, s2, q4, hb2, -, q5, t, m, a, b, TK, PS⟩, er, S⟩
  have A : agI h2 h' := agI_of hb2.1 hx'.1 (sh_sym S)
  have L : agL h2 h' := agL_of hb2.1 hx'.1 (sh_sym S)
  obtain rfl : s' = s2 := s_eq hx' hb2 (agR_of hb2.1 hx'.1 (sh_sym S))
  subst q1
  have ez := cv_I er q4
  refine ⟨z, rfl, q2, s', hx', q3, f, q3, T, n, hn, TR_e tr (congrFun (f 170 (by decide)).1 1) (f 171 (by decide)).1, fun j hj => (tc.2 j hj).2, t, m, a, b, TK, ?_⟩
  have R' : SRq μ h' := KS_s2 R (fun a k q1 q2 => ⟨congrFun (f a (by omega)).1 k, congrFun (f a (by omega)).2.1 k⟩)
  revert PS
  generalize sp_score t = Y
  intro PS
  have h04 : h'.2.1 0 4 = h2.2.1 0 4 := A 0 4 (by decide +kernel)
  have hs := hx.2.1
  cases Y with
  | inl q =>
    obtain ⟨rfl, rfl, -, e4, fw⟩ := PS
    have nw : ∀ a k, 143 ≤ a → a < 170 → ¬ (WY s' a k ∨ (a = 0 ∧ (k = 1 ∨ k = 4))) := fun a k q1 q2 w => by
      unfold isS at hs
      rcases w with (w | w) | w <;> omega
    refine ⟨⟨ez, h04.trans e4, μ, ?_, R'⟩, fun a k q1 q2 i => (A a k i).trans (fr_g fw (nw a k q1 q2)), fun a k q1 q2 i => (L a k i).trans (fr_gl fw (nw a k q1 q2))⟩
    refine CKn_ag (by unfold isS at *; omega) (CKn_f C fw (fun a k w => ?_)) A L hx'
    unfold isS at hs
    rcases w with (w | w) | w <;> omega
  | inr ν =>
    obtain ⟨e1, rfl, e4, K, g1, g2, g3, g4, g5, g6, g7⟩ := PS
    refine ⟨⟨ez, h04.trans e4, ?_⟩, (A _ _ (by decide +kernel)).trans g1, (A _ _ (by decide +kernel)).trans g2, (A _ _ (by decide +kernel)).trans g3, (A _ _ (by decide +kernel)).trans g4, (A _ _ (by decide +kernel)).trans g5, (A _ _ (by decide +kernel)).trans g6, (A _ _ (by decide +kernel)).trans g7⟩
    have : 97 - s' = s := by unfold isS at hs; omega
    rw [this]
    exact CKn_ag hs K A L hx'
theorem WSf_z : ∀ k, k ∈ fkL → ¬ WSf 170 k := by
  intro k hk w
  simp only [fkL, List.mem_cons, List.not_mem_nil, or_false] at hk
  rcases w with ((w | w | w | w | w | w) | w | w | w | w | w) | w <;> omega
theorem WSf_r : ∀ a k, Rce a k → ¬ WSf a k := by
  intro a k q w
  unfold Rce at q
  rcases w with ((w | w | w | w | w | w) | w | w | w | w | w) | w <;> omega
theorem e_MD_score_f {G : cx_T} {s : Nat} {z : Int} {h0 h : ah_T} (hx : xi s h) (hm : mi h) (hp : PX h) (hz : (-2147483648) ≤ z ∧ z ≤ 2147483647) (E : SDf s z h0 h) : con G 8 0 0 m_MD_score [av_R (some 170)] h (fun r h' => ∃ w, r = some (av_I w) ∧ ((-2147483648) ≤ w ∧ w ≤ 2147483647) ∧ (h'.2.1 170 1 = 0 ∧ PX h') ∧ kM (pm [1, 2, 3, 4, 5, 6, 7, 8, 9, 10, 11, 12, 13, 43, 59, 60, 61, 63, 64, 65, 66, 70, 71, 72, 73, 74, 75, 76, 77, 78, 80, 85, 89, 91, 98, 104, 105] [172, 173, 174, 175, 176, 177, 178, 179, 180, 181, 182, 183, 184, 185, 186, 187, 188, 189, 190, 191, 192, 193, 194, 195, 196, 197, 198, 199, 200, 201, 202, 203, 204, 205, 206, 207, 208, 209, 210, 211, 212, 213, 214, 215, 216, 217, 218, 219, 220]) h h' ∧ z = w ∧ EX s h' ∧ FZ h0 h h') := by
  have E' := E
  obtain ⟨q0, T, n, hn, tr, hT, t, m, a, b, TK, SR, fq⟩ := E'
  have hb0 := hb_xm hx hm
  refine con_mono (con_conj (h2 := h) (e_MD_score hx hm hp hz (SDf_q E)) (t_MD_score (X := (T, n, t, m, a, b)) hb0 TK tr.1 hn (fun j hj => ⟨tr.2 j hj, hT j hj⟩))) ?_
  rintro r h' ⟨⟨w, q1, q2, q3, kn, ezw, EE⟩, r2, h2, ⟨z2, q4, hb2, -, q5, PS⟩, er, S⟩
  have A : agI h2 h' := agI_of hb2.1 kn.1.1 (sh_sym S)
  have f := kn.2.1
  refine ⟨w, q1, q2, q3, kn, ezw, EE, ?_⟩
  replace PS : PSm (sp_score t) z2 h h2 := PS
  have ic : ∀ k, k ∈ fkL → icb 170 k = true := by decide +kernel
  revert PS fq
  generalize sp_score t = Y
  intro fq PS
  cases Y with
  | inl q =>
    obtain ⟨p1, p2, p3, fw⟩ := PS
    obtain ⟨f1, f2⟩ := fq
    refine Or.inl ⟨⟨fun a k q1 q2 i => (congrFun (f a q2).1 k).trans (f1 a k q1 q2 i), fun a k q1 q2 i => (congrFun (f a q2).2.1 k).trans (f2 a k q1 q2 i)⟩, fun k hk => (A 170 k (ic k hk)).trans (fr_g fw (WSf_z k hk)), fun a k q i => (A a k i).trans (fr_g fw (WSf_r a k q))⟩
  | inr ν =>
    obtain ⟨p1, p2, K, p73, p74, z1, z2, z3, z4, z5, z6, z7⟩ := PS
    have fq : Fgt h := fq
    obtain ⟨g1, g2, g3, g4, g5, g6, g7⟩ := fq
    have cf : ∀ a k, a < 170 → h'.2.1 a k = h.2.1 a k := fun a k q => congrFun (f a q).1 k
    refine Or.inr ⟨⟨by rw [cf _ _ (by decide)]; exact g1, by rw [cf _ _ (by decide)]; exact g2, by rw [cf _ _ (by decide)]; exact g3, by rw [cf _ _ (by decide)]; exact g4, by rw [cf _ _ (by decide)]; exact g5, by rw [cf _ _ (by decide)]; exact g6, by rw [cf _ _ (by decide)]; exact g7⟩, fun k hk => ?_⟩
    rw [A 170 k (ic k hk)]
    simp only [fkL, List.mem_cons, List.not_mem_nil, or_false] at hk
    rcases hk with rfl | rfl | rfl | rfl | rfl | rfl | rfl <;> assumption

/-! ===== ints as words of bits ===== -/
theorem i3_n {a : Nat} (h : a < 2147483648) : (Int32.ofInt (a : Int)).toBitVec.toNat = a := by
  rw [i32_mem (by omega) (by omega), Int.toNat_natCast]
theorem i3_ti {x : Int32} {a : Nat} (h : x.toBitVec.toNat = a) (h2 : a < 2147483648) : x.toInt = (a : Int) := by
  have e : x.toInt = x.toBitVec.toInt := rfl
  rw [e, BitVec.toInt_eq_toNat_of_lt (by omega), h]
theorem i3_or {x y : Int32} {a b k : Nat} (hx : x.toBitVec.toNat = a) (hy : y.toBitVec.toNat = b * 2 ^ k) (ha : a < 2 ^ k) : (x ||| y).toBitVec.toNat = a + b * 2 ^ k := by
  rw [Int32.toBitVec_or, BitVec.toNat_or, hx, hy, Nat.or_comm, Nat.mul_comm, ← Nat.two_pow_add_eq_or_of_lt ha, Nat.add_comm]
theorem i3_shl {b k : Nat} {s : Int32} (hs : (s.toBitVec.smod 32).toNat = k) (hb : b < 2147483648) (h : b * 2 ^ k < 2 ^ 32) : (Int32.ofInt (b : Int) <<< s).toBitVec.toNat = b * 2 ^ k := by
  rw [pk_shl _ _ k hs, i3_n hb, Nat.mod_eq_of_lt h]
theorem un_and {n m k : Nat} (hn : n < 2147483648) (hm : (Int32.ofInt (m : Int)).toBitVec.toNat = 2 ^ k - 1) (hk : k ≤ 30) : (Int32.ofInt (n : Int) &&& Int32.ofInt (m : Int)).toInt = ((n % 2 ^ k : Nat) : Int) := by
  have h2 : 2 ^ k ≤ 2 ^ 30 := Nat.pow_le_pow_right (by decide) hk
  have h1 : n % 2 ^ k < 2 ^ k := Nat.mod_lt _ (Nat.two_pow_pos k)
  rw [pk_and _ k hm, i3_n hn, nI_toInt (by omega)]
theorem un_shr {n k : Nat} {s : Int32} (hn : n < 2147483648) (hs : (s.toBitVec.smod 32).toNat = k) : (Int32.ofInt (n : Int) >>> s).toInt = ((n / 2 ^ k : Nat) : Int) := by
  rw [pk_shr _ _ k hs, i3_ti (i3_n hn) hn]
  show ((n >>> k : Nat) : Int) = _
  rw [Nat.shiftRight_eq_div_pow]
