/-! ===== feed and cut: what they leave as it was ===== -/
abbrev FCF : Nat → Prop := fun a => 2 ≤ a
theorem kF_w {F F' : Nat → Prop} {s : Nat} {h h' : ah_T} (k : kF F' s h h') (hF : ∀ a, F a → F' a) : kF F s h h' := ⟨k.1, fun a ha => k.2 a (hF a ha)⟩
theorem z_PM_putBytes {G : cx_T} {s : Nat} {h : ah_T} (hx : xi s h) {a1 : Int}  : con G 0 0 0 m_PM_putBytes [av_R (some 0), av_I a1] h (fun r h' => r = none ∧ (h.2.1 0 1 ≤ 1996 → h'.2.1 0 1 = h.2.1 0 1 + 4) ∧ kF FCF s h h') := by
  refine con_of (L := [some (av_R (some 0)), some (av_I a1), none]) (by decide +kernel) (Nat.le_of_ble_eq_true rfl) rfl ?_
  have hS : isS s := hx.2.1
  have hs0 : s = 17 ∨ s = 80 := hS
  have k0 : kF FCF s h h := kF_0 hx
  obtain ⟨sd1, esd1⟩ : ∃ x, x = h.2.1 0 1 := ⟨_, rfl⟩
  have rsd1 : 0 ≤ sd1 ∧ sd1 ≤ 2000 := (by rw [esd1]; exact xi_g k0.1 (by decide) rgf_0_1)
  refine A_locI 1 rfl (fun ra => ?_)
  obtain ⟨_, _⟩ := ra
  refine A_bipush d_PM_putBytes_0 rfl ?_
  refine A_istore_n 2 (L' := [some (av_R (some 0)), some (av_I a1), some (av_I 24)]) d_PM_putBytes_2 rfl (Nat.le_of_ble_eq_true rfl) rfl ?_
  have lp3 : ∀ (n : Nat) (i2 : Int) (h3 : ah_T) , (-8) ≤ i2 → i2 ≤ 24 → (h.2.1 0 1 ≤ 1996 → h3.2.1 0 1 * 8 = h.2.1 0 1 * 8 + 24 - i2) → kF FCF s h h3 → (i2 + 9).toNat < n → aw G (rm_R 0 0 0) m_PM_putBytes 0 0 3 [some (av_R (some 0)), some (av_I a1), some (av_I i2)] [] h3 (fun r h' => r = none ∧ (h.2.1 0 1 ≤ 1996 → h'.2.1 0 1 = h.2.1 0 1 + 4) ∧ kF FCF s h h') := by
    intro n
    induction n with
    | zero => intro i2 h3 _ _ _ _ hm; omega
    | succ n ih3 =>
      intro i2 h3 hl0 hl1 hinv k4 hm
      obtain ⟨sd5, esd5⟩ : ∃ x, x = h3.2.1 0 1 := ⟨_, rfl⟩
      have rsd5 : 0 ≤ sd5 ∧ sd5 ≤ 2000 := (by rw [esd5]; exact xi_g k4.1 (by decide) rgf_0_1)
      refine A_iload_n 2 d_PM_putBytes_3 rfl rfl ?_
      refine A_if_lt (tgt := 51) d_PM_putBytes_4 (by decide) (fun c6 => ?_) (fun c6 => ?_)
      · exact A_vret d_PM_putBytes_51 (by decide) rfl ⟨rfl, (fun p => by have qq0 := esd5.symm; have q9 := hinv p; omega), k4⟩
      · refine A_aload_n 0 d_PM_putBytes_7 rfl rfl ?_
        refine A_getIv (z := sd5) T_ok d_PM_putBytes_8 f_PM_13 (xi_s k4.1 sf_0) esd5.symm ?_
        refine A_aload_n 0 d_PM_putBytes_11 rfl rfl ?_
        refine A_getAv (z := some 1) T_ok d_PM_putBytes_12 f_PM_9 (xi_s k4.1 sf_0) (xi_r k4.1 rff_0_0) ?_
        refine A_alenN d_PM_putBytes_15 (xi_s k4.1 sf_1) (by decide) (by decide) ?_
        refine A_pc (pc' := 16) rfl ?_
        refine A_icmp_ge (tgt := 45) d_PM_putBytes_16 (by decide) (fun c9 => ?_) (fun c9 => ?_)
        · refine A_iincv (z := (i2 - 8)) (L' := [some (av_R (some 0)), some (av_I a1), some (av_I (i2 - 8))]) d_PM_putBytes_45 rfl (w32_to (by omega) (by unfold i32; omega)) rfl ?_
          refine A_goto (tgt := 3) d_PM_putBytes_48 (by decide) ?_
          exact ih3 (i2 - 8) h3 (by omega) (by omega) (fun p => by have qq0 := esd5.symm; have q9 := hinv p; omega) k4 (by omega)
        · refine A_aload_n 0 d_PM_putBytes_19 rfl rfl ?_
          refine A_getAv (z := some 1) T_ok d_PM_putBytes_20 f_PM_9 (xi_s k4.1 sf_0) (xi_r k4.1 rff_0_0) ?_
          refine A_aload_n 0 d_PM_putBytes_23 rfl rfl ?_
          refine A_getIv (z := sd5) T_ok d_PM_putBytes_24 f_PM_13 (xi_s k4.1 sf_0) esd5.symm ?_
          refine A_iload_n 1 d_PM_putBytes_27 rfl rfl ?_
          refine A_pc (pc' := 28) rfl ?_
          refine A_iload_n 2 d_PM_putBytes_28 rfl rfl ?_
          refine A_iushr d_PM_putBytes_29 ?_
          refine A_nrI (fun x12 ex12 _ _ => ?_)
          refine A_sipush d_PM_putBytes_30 rfl ?_
          refine A_iand d_PM_putBytes_33 ?_
          refine A_nrI (fun x13 ex13 _ _ => ?_)
          have bx13 := and_r (m := 255) 8 ex13 (by decide) (by decide) (by decide)
          refine A_iastorek (KR := kF FCF s h) d_PM_putBytes_34 (xi_s k4.1 sf_1) (by omega) (by omega) (kF_j k4 (by decide) (ns_b rfl) (rgf_1 _) (by omega) (by omega)) (fun h14 k15 eh14 => ?_)
          refine A_aload_n 0 d_PM_putBytes_35 rfl rfl ?_
          refine A_pc (pc' := 36) rfl ?_
          refine A_dupR d_PM_putBytes_36 ?_
          refine A_getIv (z := sd5) T_ok d_PM_putBytes_37 f_PM_13 (xi_s k15.1 sf_0) ((eh14.1 _ _ (fun q => absurd q (by decide))).trans esd5.symm) ?_
          refine A_iconst d_PM_putBytes_40 rfl ?_
          refine A_iaddv (z := (sd5 + 1)) d_PM_putBytes_41 (w32_to (by omega) (by unfold i32; omega)) ?_
          refine A_putIk (KR := kF FCF s h) T_ok d_PM_putBytes_42 f_PM_13 (xi_s k15.1 sf_0) fin_f (kF_j k15 (by decide) (ns_b rfl) rgf_0_1 (by omega) (by omega)) (fun h17 k18 eh17 => ?_)
          refine A_iincv (z := (i2 - 8)) (L' := [some (av_R (some 0)), some (av_I a1), some (av_I (i2 - 8))]) d_PM_putBytes_45 rfl (w32_to (by omega) (by unfold i32; omega)) rfl ?_
          refine A_pc (pc' := 48) rfl ?_
          refine A_goto (tgt := 3) d_PM_putBytes_48 (by decide) ?_
          exact ih3 (i2 - 8) h17 (by omega) (by omega) (fun p => by have qq0 := eh17.2.1; have q9 := hinv p; omega) k18 (by omega)
  exact lp3 _ 24 h (by omega) (by omega) (fun p => by have qq0 := esd1.symm; omega) k0 (Nat.lt_succ_self _)
theorem z_PM_feed {G : cx_T} {s : Nat} {h : ah_T} (hx : xi s h) {a1 : Int} {a2 : Int} {a3 : Int} {a4 : Int} {a5 : Int}  : con G 1 0 0 m_PM_feed [av_R (some 0), av_I a1, av_I a2, av_I a3, av_I a4, av_I a5] h (fun r h' => ∃ z, r = some (av_I z) ∧ ((-3) ≤ z ∧ z ≤ 2000) ∧ ((h.2.1 0 1 ≤ 1980 → z = h.2.1 0 1 + 20 ∧ h'.2.1 0 1 = h.2.1 0 1 + 20) ∧ (1980 < h.2.1 0 1 → z = -3 ∧ h'.2.1 0 1 = h.2.1 0 1)) ∧ kF FCF s h h') := by
  refine con_of (L := [some (av_R (some 0)), some (av_I a1), some (av_I a2), some (av_I a3), some (av_I a4), some (av_I a5)]) (by decide +kernel) (Nat.le_of_ble_eq_true rfl) rfl ?_
  have hS : isS s := hx.2.1
  have hs0 : s = 17 ∨ s = 80 := hS
  have k0 : kF FCF s h h := kF_0 hx
  obtain ⟨sd1, esd1⟩ : ∃ x, x = h.2.1 0 1 := ⟨_, rfl⟩
  have rsd1 : 0 ≤ sd1 ∧ sd1 ≤ 2000 := (by rw [esd1]; exact xi_g k0.1 (by decide) rgf_0_1)
  refine A_locI 1 rfl (fun ra => ?_)
  obtain ⟨_, _⟩ := ra
  refine A_locI 2 rfl (fun ra => ?_)
  obtain ⟨_, _⟩ := ra
  refine A_locI 3 rfl (fun ra => ?_)
  obtain ⟨_, _⟩ := ra
  refine A_locI 4 rfl (fun ra => ?_)
  obtain ⟨_, _⟩ := ra
  refine A_locI 5 rfl (fun ra => ?_)
  obtain ⟨_, _⟩ := ra
  refine A_aload_n 0 d_PM_feed_0 rfl rfl ?_
  refine A_getIv (z := sd1) T_ok d_PM_feed_1 f_PM_13 (xi_s k0.1 sf_0) esd1.symm ?_
  refine A_bipush d_PM_feed_4 rfl ?_
  refine A_iaddv (z := (sd1 + 20)) d_PM_feed_6 (w32_to (by omega) (by unfold i32; omega)) ?_
  refine A_sipush d_PM_feed_7 rfl ?_
  refine A_pc (pc' := 10) rfl ?_
  refine A_icmp_le (tgt := 16) d_PM_feed_10 (by decide) (fun c3 => ?_) (fun c3 => ?_)
  · refine A_aload_n 0 d_PM_feed_16 rfl rfl ?_
    refine A_iload_n 1 d_PM_feed_17 rfl rfl ?_
    have zf5 := esd1.symm
    refine A_callV1 m_PM_putBytes T_ok d_PM_feed_18 l_PM_76 k_PM_putBytes (xi_s k0.1 sf_0) rfl (by decide +kernel) (by decide) (Nat.le_of_ble_eq_true rfl) (z_PM_putBytes k0.1 ) (fun r h4 hq => ?_)
    obtain ⟨rfl, xk6, k6⟩ := hq
    have k7 := kF_t k0 k6 (fun _ q => q)
    obtain ⟨sd8, esd8⟩ : ∃ x, x = h4.2.1 0 1 := ⟨_, rfl⟩
    have rsd8 : 0 ≤ sd8 ∧ sd8 ≤ 2000 := (by rw [esd8]; exact xi_g k7.1 (by decide) rgf_0_1)
    refine A_aload_n 0 d_PM_feed_21 rfl rfl ?_
    refine A_iload_n 2 d_PM_feed_22 rfl rfl ?_
    have zf10 := esd8.symm
    refine A_callV1 m_PM_putBytes T_ok d_PM_feed_23 l_PM_76 k_PM_putBytes (xi_s k7.1 sf_0) rfl (by decide +kernel) (by decide) (Nat.le_of_ble_eq_true rfl) (z_PM_putBytes k7.1 ) (fun r h9 hq => ?_)
    obtain ⟨rfl, xk11, k11⟩ := hq
    have k12 := kF_t k7 k11 (fun _ q => q)
    obtain ⟨sd13, esd13⟩ : ∃ x, x = h9.2.1 0 1 := ⟨_, rfl⟩
    have rsd13 : 0 ≤ sd13 ∧ sd13 ≤ 2000 := (by rw [esd13]; exact xi_g k12.1 (by decide) rgf_0_1)
    refine A_aload_n 0 d_PM_feed_26 rfl rfl ?_
    refine A_iload_n 3 d_PM_feed_27 rfl rfl ?_
    have zf15 := esd13.symm
    refine A_callV1 m_PM_putBytes T_ok d_PM_feed_28 l_PM_76 k_PM_putBytes (xi_s k12.1 sf_0) rfl (by decide +kernel) (by decide) (Nat.le_of_ble_eq_true rfl) (z_PM_putBytes k12.1 ) (fun r h14 hq => ?_)
    obtain ⟨rfl, xk16, k16⟩ := hq
    have k17 := kF_t k12 k16 (fun _ q => q)
    obtain ⟨sd18, esd18⟩ : ∃ x, x = h14.2.1 0 1 := ⟨_, rfl⟩
    have rsd18 : 0 ≤ sd18 ∧ sd18 ≤ 2000 := (by rw [esd18]; exact xi_g k17.1 (by decide) rgf_0_1)
    refine A_aload_n 0 d_PM_feed_31 rfl rfl ?_
    refine A_iload d_PM_feed_32 rfl ?_
    have zf20 := esd18.symm
    refine A_callV1 m_PM_putBytes T_ok d_PM_feed_34 l_PM_76 k_PM_putBytes (xi_s k17.1 sf_0) rfl (by decide +kernel) (by decide) (Nat.le_of_ble_eq_true rfl) (z_PM_putBytes k17.1 ) (fun r h19 hq => ?_)
    obtain ⟨rfl, xk21, k21⟩ := hq
    have k22 := kF_t k17 k21 (fun _ q => q)
    obtain ⟨sd23, esd23⟩ : ∃ x, x = h19.2.1 0 1 := ⟨_, rfl⟩
    have rsd23 : 0 ≤ sd23 ∧ sd23 ≤ 2000 := (by rw [esd23]; exact xi_g k22.1 (by decide) rgf_0_1)
    refine A_aload_n 0 d_PM_feed_37 rfl rfl ?_
    refine A_iload d_PM_feed_38 rfl ?_
    have zf25 := esd23.symm
    refine A_callV1 m_PM_putBytes T_ok d_PM_feed_40 l_PM_76 k_PM_putBytes (xi_s k22.1 sf_0) rfl (by decide +kernel) (by decide) (Nat.le_of_ble_eq_true rfl) (z_PM_putBytes k22.1 ) (fun r h24 hq => ?_)
    obtain ⟨rfl, xk26, k26⟩ := hq
    have k27 := kF_t k22 k26 (fun _ q => q)
    obtain ⟨sd28, esd28⟩ : ∃ x, x = h24.2.1 0 1 := ⟨_, rfl⟩
    have rsd28 : 0 ≤ sd28 ∧ sd28 ≤ 2000 := (by rw [esd28]; exact xi_g k27.1 (by decide) rgf_0_1)
    refine A_aload_n 0 d_PM_feed_43 rfl rfl ?_
    refine A_getIv (z := sd28) T_ok d_PM_feed_44 f_PM_13 (xi_s k27.1 sf_0) esd28.symm ?_
    exact A_iret d_PM_feed_47 (by decide) rfl ⟨_, rfl, ⟨by omega, by omega⟩, (by have qq0 := esd28.symm; omega), k27⟩
  · refine A_bipush d_PM_feed_13 rfl ?_
    exact A_iret d_PM_feed_15 (by decide) rfl ⟨_, rfl, ⟨by omega, by omega⟩, (by have qq0 := esd1.symm; omega), k0⟩
theorem z_PM_cut {G : cx_T} {s : Nat} {h : ah_T} (hx : xi s h) {a1 : Int}  : con G 0 0 0 m_PM_cut [av_R (some 0), av_I a1] h (fun r h' => ∃ z, r = some (av_I z) ∧ ((-1) ≤ z ∧ z ≤ 2000) ∧ ((a1 < 0 ∨ h.2.1 0 1 < a1 → z = -1 ∧ h'.2.1 0 1 = h.2.1 0 1) ∧ (0 ≤ a1 → a1 ≤ h.2.1 0 1 → z = h.2.1 0 1 - a1 ∧ h'.2.1 0 1 = h.2.1 0 1 - a1)) ∧ kF FCF s h h') := by
  refine con_of (L := [some (av_R (some 0)), some (av_I a1)]) (by decide +kernel) (Nat.le_of_ble_eq_true rfl) rfl ?_
  have hS : isS s := hx.2.1
  have hs0 : s = 17 ∨ s = 80 := hS
  have k0 : kF FCF s h h := kF_0 hx
  obtain ⟨sd1, esd1⟩ : ∃ x, x = h.2.1 0 1 := ⟨_, rfl⟩
  have rsd1 : 0 ≤ sd1 ∧ sd1 ≤ 2000 := (by rw [esd1]; exact xi_g k0.1 (by decide) rgf_0_1)
  refine A_locI 1 rfl (fun ra => ?_)
  obtain ⟨_, _⟩ := ra
  refine A_iload_n 1 d_PM_cut_0 rfl rfl ?_
  refine A_if_lt (tgt := 12) d_PM_cut_1 (by decide) (fun c2 => ?_) (fun c2 => ?_)
  · refine A_iconst d_PM_cut_12 rfl ?_
    exact A_iret d_PM_cut_13 (by decide) rfl ⟨_, rfl, ⟨by omega, by omega⟩, (by have qq0 := esd1.symm; omega), k0⟩
  · refine A_iload_n 1 d_PM_cut_4 rfl rfl ?_
    refine A_aload_n 0 d_PM_cut_5 rfl rfl ?_
    refine A_getIv (z := sd1) T_ok d_PM_cut_6 f_PM_13 (xi_s k0.1 sf_0) esd1.symm ?_
    refine A_icmp_le (tgt := 14) d_PM_cut_9 (by decide) (fun c4 => ?_) (fun c4 => ?_)
    · refine A_aload_n 0 d_PM_cut_14 rfl rfl ?_
      refine A_dupR d_PM_cut_15 ?_
      refine A_getIv (z := sd1) T_ok d_PM_cut_16 f_PM_13 (xi_s k0.1 sf_0) esd1.symm ?_
      refine A_iload_n 1 d_PM_cut_19 rfl rfl ?_
      refine A_isubv (z := (sd1 - a1)) d_PM_cut_20 (w32_to (by omega) (by unfold i32; omega)) ?_
      refine A_pc (pc' := 21) rfl ?_
      refine A_putIk (KR := kF FCF s h) T_ok d_PM_cut_21 f_PM_13 (xi_s k0.1 sf_0) fin_f (kF_j k0 (by decide) (ns_b rfl) rgf_0_1 (by omega) (by omega)) (fun h6 k7 eh6 => ?_)
      refine A_aload_n 0 d_PM_cut_24 rfl rfl ?_
      refine A_getIv (z := (sd1 - a1)) T_ok d_PM_cut_25 f_PM_13 (xi_s k7.1 sf_0) eh6.2.1 ?_
      exact A_iret d_PM_cut_28 (by decide) rfl ⟨_, rfl, ⟨by omega, by omega⟩, (by have qq0 := eh6.2.1; omega), k7⟩
    · refine A_iconst d_PM_cut_12 rfl ?_
      exact A_iret d_PM_cut_13 (by decide) rfl ⟨_, rfl, ⟨by omega, by omega⟩, (by have qq0 := esd1.symm; omega), k0⟩
theorem f_PM_feed {G : cx_T} {s : Nat} {h : ah_T} {a b c d e : Int} (hx : xi s h) (hm : mi h) (E : EX s h) : con G 1 0 0 m_PM_feed [av_R (some 0), av_I a, av_I b, av_I c, av_I d, av_I e] h (fun r h' => ∃ z, r = some (av_I z) ∧ ((-3) ≤ z ∧ z ≤ 2000) ∧ ((h.2.1 0 1 ≤ 1980 → z = h.2.1 0 1 + 20 ∧ h'.2.1 0 1 = h.2.1 0 1 + 20) ∧ (1980 < h.2.1 0 1 → z = -3 ∧ h'.2.1 0 1 = h.2.1 0 1)) ∧ kF FCF s h h' ∧ FDq s a b c d e h') := by
  obtain ⟨⟨T, n, hn, tc, tr⟩, p, μ, C, R⟩ := E
  have hb0 := hb_xm hx hm
  refine con_mono (con_conj (h2 := h) (z_PM_feed hx) (t_PM_feed hb0 tc.1 hn)) ?_
  rintro r h' ⟨⟨z, q1, q2, q3, kz⟩, r2, h2, ⟨hb2, q⟩, -, S⟩
  have kf : kF FA s h h' := kF_w kz (fun a q => by omega)
  refine ⟨z, q1, q2, q3, kz, ?_, ?_, μ, CK_s hx.2.1 C (fun a q1 q2 => kf.2 a (Or.inl ⟨q1, q2⟩)), KS_s2 R (fun a k q1 q2 => ⟨congrFun (kf.2 a (Or.inr (by omega))).1 k, congrFun (kf.2 a (Or.inr (by omega))).2.1 k⟩)⟩
  all_goals have A : agI h2 h' := agI_of hb2.1 kf.1.1 (sh_sym S)
  · have tr' : TRt T n h' := TR_e tr (congrFun (kf.2 170 (Or.inr (by decide))).1 1) (kf.2 171 (Or.inr (by decide))).1
    rcases q with ⟨w1, -, w3, w4, w5⟩ | ⟨w1, -, rfl⟩
    · refine ⟨fun j => if j < n then T j else fdb a b c d e (j - n), n, hn, ⟨tr'.1, fun j hj => ?_⟩, Or.inl ⟨w1, TC_ag w1 ⟨by rw [w4]; omega, fun j hj => ?_⟩ A, fun j hj => ?_⟩⟩
      · dsimp only
        rw [if_pos hj]
        exact tr'.2 j hj
      · dsimp only
        by_cases c : j < n
        · rw [if_pos c, fr_g w3 (by omega)]
          exact tc.2 j c
        · have := w5 (j - n) (by omega)
          rw [show n + (j - n) = j by omega] at this
          rw [if_neg c]
          exact ⟨this, fdb_b _ _ _ _ _ _⟩
      · dsimp only
        rw [if_neg (by omega), show n + j - n = j by omega]
    · exact ⟨T, n, hn, tr', Or.inr ⟨w1, TC_ag hn tc A⟩⟩
  · rw [A 0 4 (by decide +kernel), (kf.2 170 (Or.inr (by decide))).1, ← p]
    rcases q with ⟨w1, -, w3, w4, w5⟩ | ⟨w1, -, rfl⟩
    · exact fr_g w3 (by omega)
    · rfl
theorem f_PM_cut {G : cx_T} {s : Nat} {h : ah_T} {a : Int} (hx : xi s h) (hm : mi h) (E : EX s h) : con G 0 0 0 m_PM_cut [av_R (some 0), av_I a] h (fun r h' => ∃ z, r = some (av_I z) ∧ ((-1) ≤ z ∧ z ≤ 2000) ∧ ((a < 0 ∨ h.2.1 0 1 < a → z = -1 ∧ h'.2.1 0 1 = h.2.1 0 1) ∧ (0 ≤ a → a ≤ h.2.1 0 1 → z = h.2.1 0 1 - a ∧ h'.2.1 0 1 = h.2.1 0 1 - a)) ∧ kF FCF s h h' ∧ CTq s a h') := by
  obtain ⟨⟨T, n, hn, tc, tr⟩, p, μ, C, R⟩ := E
  have hb0 := hb_xm hx hm
  refine con_mono (con_conj (h2 := h) (z_PM_cut hx) (t_PM_cut hb0 tc.1 hn)) ?_
  rintro r h' ⟨⟨z, q1, q2, q3, kz⟩, r2, h2, ⟨hb2, q⟩, -, S⟩
  have kf : kF FA s h h' := kF_w kz (fun a q => by omega)
  have A : agI h2 h' := agI_of hb2.1 kf.1.1 (sh_sym S)
  refine ⟨z, q1, q2, q3, kz, ?_, ?_, μ, CK_s hx.2.1 C (fun a q1 q2 => kf.2 a (Or.inl ⟨q1, q2⟩)), KS_s2 R (fun a k q1 q2 => ⟨congrFun (kf.2 a (Or.inr (by omega))).1 k, congrFun (kf.2 a (Or.inr (by omega))).2.1 k⟩)⟩
  · have tr' : TRt T n h' := TR_e tr (congrFun (kf.2 170 (Or.inr (by decide))).1 1) (kf.2 171 (Or.inr (by decide))).1
    rcases q with ⟨w1, w2, -, w3, w4⟩ | ⟨w1, -, rfl⟩
    · refine ⟨T, n, (n - a).toNat, hn, by omega, tr', TC_ag (by omega) ⟨by rw [w4]; omega, fun j hj => ?_⟩ A, Or.inl ⟨w1, w2, by omega⟩⟩
      rw [fr_g w3 (by omega)]
      exact tc.2 j (by omega)
    · exact ⟨T, n, n, hn, Nat.le_refl _, tr', TC_ag hn tc A, Or.inr ⟨w1, rfl⟩⟩
  · rw [A 0 4 (by decide +kernel), (kf.2 170 (Or.inr (by decide))).1, ← p]
    rcases q with ⟨w1, w2, -, w3, w4⟩ | ⟨w1, -, rfl⟩
    · exact fr_g w3 (by omega)
    · rfl
