/-! ===== verification conditions, 515 ===== -/
def B_Voice_signsOf_4 (G : cx_T) (s : Nat) (a0 : Nat) (a1 : Int) (v2 : Int) (v3 : Int) (h : ah_T) (Q : Option av_T → ah_T → Prop) (X4 : Int → Int → ah_T → Prop) : Prop :=
 con G 0 0 0 m_Voice_pitchesOf [av_R (some a0), av_I a1] h (fun r h1 => ∃ z3 : Int, r = some (av_I z3) ∧ hb s h1 ∧ ((z3 ≤ v3 → Q (some (av_I v2)) h1) ∧ (¬ z3 ≤ v3 → con G 0 0 0 m_Voice_stepOf [av_R (some a0), av_I a1, av_I v3] h1 (fun r h4 => ∃ z6 : Int, r = some (av_I z6) ∧ hb s h4 ∧ con G 0 0 0 m_JMath_floorDiv [av_I z6, av_I 7] h4 (fun r h7 => ∃ z9 : Int, r = some (av_I z9) ∧ hb s h7 ∧ ((-2147483648) ≤ (12 * z9) ∧ (12 * z9) ≤ 2147483647) ∧ con G 0 0 0 m_JMath_floorMod [av_I z6, av_I 7] h7 (fun r h11 => ∃ z13 : Int, r = some (av_I z13) ∧ hb s h11 ∧ (0 ≤ z13 ∧ z13 < 7) ∧ ∀ x14 : Int, x14 = ([0, 2, 4, 5, 7, 9, 11] : List Int).getD (z13).toNat 0 → ((-2147483648) ≤ (12 * z9 + x14) ∧ (12 * z9 + x14) ≤ 2147483647) ∧ con G 0 0 0 m_Voice_keyOf [av_R (some a0), av_I a1, av_I v3] h11 (fun r h16 => ∃ z18 : Int, r = some (av_I z18) ∧ hb s h16 ∧ ((-2147483648) ≤ (z18 - 12 * z9 - x14) ∧ (z18 - 12 * z9 - x14) ≤ 2147483647) ∧ ∀ x20 : Int, x20 = (if 0 ≤ (z18 - 12 * z9 - x14) then (z18 - 12 * z9 - x14) else w32 (0 - (z18 - 12 * z9 - x14))) → -2147483648 ≤ x20 → x20 ≤ 2147483647 → ((-2147483648) ≤ (v2 + x20) ∧ (v2 + x20) ≤ 2147483647) ∧ ((-2147483648) ≤ (v3 + 1) ∧ (v3 + 1) ≤ 2147483647) ∧ X4 ((v2 + x20)) ((v3 + 1)) h16)))))))
theorem b_Voice_signsOf_4 {G : cx_T} {s : Nat} {a0 : Nat} {a1 : Int} (ha0 : isV a0) {v2 : Int} {v3 : Int} {h : ah_T} {Q : Option av_T → ah_T → Prop} {X4 : Int → Int → ah_T → Prop} (hX4 : ∀ (v2 : Int) (v3 : Int) (h : ah_T), hb s h → X4 v2 v3 h → aw G (rm_R 1 0 0) m_Voice_signsOf 0 0 4 [some (av_R (some a0)), some (av_I a1), some (av_I v2), some (av_I v3), none, none] [] h Q) (hb0 : hb s h) (H : B_Voice_signsOf_4 G s a0 a1 v2 v3 h Q X4) : aw G (rm_R 1 0 0) m_Voice_signsOf 0 0 4 [some (av_R (some a0)), some (av_I a1), some (av_I v2), some (av_I v3), none, none] [] h Q := by
  unfold B_Voice_signsOf_4 at H
  have hS : isS s := hb0.2.1
  refine A_iload_n 3 d_Voice_signsOf_4 rfl rfl ?_
  refine A_aload_n 0 d_Voice_signsOf_5 rfl rfl ?_
  refine A_iload_n 1 d_Voice_signsOf_6 rfl rfl ?_
  refine A_callV1 m_Voice_pitchesOf T_ok d_Voice_signsOf_7 l_Voice_80 k_Voice_pitchesOf (hs_V hb0 ha0) rfl (by decide +kernel) (by decide) (Nat.le_of_ble_eq_true rfl) H (fun r h1 hq => ?_)
  clear H
  obtain ⟨z3, rfl, hb2, H⟩ := hq
  refine A_icmp_ge (tgt := 66) d_Voice_signsOf_10 (by decide) (fun c => ?_) (fun c => ?_)
  · replace H := H.1 c
    refine A_iload_n 2 d_Voice_signsOf_66 rfl rfl ?_
    exact A_iret d_Voice_signsOf_67 (by decide) rfl H
  · replace H := H.2 c
    refine A_aload_n 0 d_Voice_signsOf_13 rfl rfl ?_
    refine A_iload_n 1 d_Voice_signsOf_14 rfl rfl ?_
    refine A_iload_n 3 d_Voice_signsOf_15 rfl rfl ?_
    refine A_callV2 m_Voice_stepOf T_ok d_Voice_signsOf_16 l_Voice_98 k_Voice_stepOf (hs_V hb2 ha0) rfl (by decide +kernel) (by decide) (Nat.le_of_ble_eq_true rfl) H (fun r h4 hq => ?_)
    clear H
    obtain ⟨z6, rfl, hb5, H⟩ := hq
    refine A_istore (L' := [some (av_R (some a0)), some (av_I a1), some (av_I v2), some (av_I v3), some (av_I z6), none]) d_Voice_signsOf_19 (Nat.le_of_ble_eq_true rfl) rfl ?_
    refine A_bipush d_Voice_signsOf_21 rfl ?_
    refine A_iload d_Voice_signsOf_23 rfl ?_
    refine A_bipush d_Voice_signsOf_25 rfl ?_
    refine A_callS2 m_JMath_floorDiv d_Voice_signsOf_27 l_Voice_101 k_JMath_floorDiv (by decide +kernel) (by decide) (Nat.le_of_ble_eq_true rfl) H (fun r h7 hq => ?_)
    clear H
    obtain ⟨z9, rfl, hb8, H⟩ := hq
    have g10 := H.1
    replace H := H.2
    refine A_imulv (z := (12 * z9)) d_Voice_signsOf_30 (w32_to (by omega) (by unfold i32; omega)) ?_
    refine A_getsA (q := ("NATURALS", 1, [0, 2, 4, 5, 7, 9, 11])) (by decide) gs_Voice_106 d_Voice_signsOf_31 ?_
    refine A_iload d_Voice_signsOf_34 rfl ?_
    refine A_bipush d_Voice_signsOf_36 rfl ?_
    refine A_callS2 m_JMath_floorMod d_Voice_signsOf_38 l_Voice_109 k_JMath_floorMod (by decide +kernel) (by decide) (Nat.le_of_ble_eq_true rfl) H (fun r h11 hq => ?_)
    clear H
    obtain ⟨z13, rfl, hb12, H⟩ := hq
    have H0 := H.1
    replace H := H.2
    refine A_ialoadT (q := ("NATURALS", 1, [0, 2, 4, 5, 7, 9, 11])) d_Voice_signsOf_41 (by decide) (by decide) (by omega) (by simp only [List.length_cons, List.length_nil]; omega) (fun x14 ex14 => ?_)
    replace H := H x14 ex14
    have g15 := H.1
    replace H := H.2
    refine A_iaddv (z := (12 * z9 + x14)) d_Voice_signsOf_42 (w32_to (by omega) (by unfold i32; omega)) ?_
    refine A_istore (L' := [some (av_R (some a0)), some (av_I a1), some (av_I v2), some (av_I v3), some (av_I z6), some (av_I (12 * z9 + x14))]) d_Voice_signsOf_43 (Nat.le_of_ble_eq_true rfl) rfl ?_
    refine A_iload_n 2 d_Voice_signsOf_45 rfl rfl ?_
    refine A_aload_n 0 d_Voice_signsOf_46 rfl rfl ?_
    refine A_pc (pc' := 47) rfl ?_
    refine A_iload_n 1 d_Voice_signsOf_47 rfl rfl ?_
    refine A_iload_n 3 d_Voice_signsOf_48 rfl rfl ?_
    refine A_callV2 m_Voice_keyOf T_ok d_Voice_signsOf_49 l_Voice_91 k_Voice_keyOf (hs_V hb12 ha0) rfl (by decide +kernel) (by decide) (Nat.le_of_ble_eq_true rfl) H (fun r h16 hq => ?_)
    clear H
    obtain ⟨z18, rfl, hb17, H⟩ := hq
    refine A_iload d_Voice_signsOf_52 rfl ?_
    have g19 := H.1
    replace H := H.2
    refine A_isubv (z := (z18 - 12 * z9 - x14)) d_Voice_signsOf_54 (w32_to (by omega) (by unfold i32; omega)) ?_
    refine A_mabs (z := (if 0 ≤ (z18 - 12 * z9 - x14) then (z18 - 12 * z9 - x14) else w32 (0 - (z18 - 12 * z9 - x14)))) d_Voice_signsOf_55 lm_Voice_112 ma_abs (by decide) (by decide) (Nat.le_of_ble_eq_true rfl) rfl ?_
    refine A_nrI (fun x20 ex20 lx20 ux20 => ?_)
    replace H := H x20 ex20 lx20 ux20
    have g21 := H.1
    replace H := H.2
    refine A_iaddv (z := (v2 + x20)) d_Voice_signsOf_58 (w32_to (by omega) (by unfold i32; omega)) ?_
    refine A_istore_n 2 (L' := [some (av_R (some a0)), some (av_I a1), some (av_I (v2 + x20)), some (av_I v3), some (av_I z6), some (av_I (12 * z9 + x14))]) d_Voice_signsOf_59 rfl (Nat.le_of_ble_eq_true rfl) rfl ?_
    refine A_pc (pc' := 60) rfl ?_
    have g22 := H.1
    replace H := H.2
    refine A_iincv (z := (v3 + 1)) (L' := [some (av_R (some a0)), some (av_I a1), some (av_I (v2 + x20)), some (av_I (v3 + 1)), some (av_I z6), some (av_I (12 * z9 + x14))]) d_Voice_signsOf_60 rfl (w32_to (by omega) (by unfold i32; omega)) rfl ?_
    refine A_goto (tgt := 4) d_Voice_signsOf_63 (by decide) ?_
    refine A_pc (pc' := 4) rfl ?_
    refine A_free (L' := [some (av_R (some a0)), some (av_I a1), some (av_I (v2 + x20)), some (av_I (v3 + 1)), none, none]) (And.intro rfl (And.intro rfl (And.intro rfl (And.intro rfl trivial)))) ?_
    exact hX4 ((v2 + x20)) ((v3 + 1)) h16  hb17 H
theorem lp_Voice_signsOf_4 {G : cx_T} {s : Nat} {a0 : Nat} {a1 : Int} (ha0 : isV a0) {Q : Option av_T → ah_T → Prop} (I : Int → Int → ah_T → Prop) (μ : Int → Int → ah_T → Nat) (hI : ∀ (v2 : Int) (v3 : Int) (h : ah_T), hb s h → I v2 v3 h → B_Voice_signsOf_4 G s a0 a1 v2 v3 h Q (fun v2' v3' h' => I v2' v3' h' ∧ μ v2' v3' h' < μ v2 v3 h)) : ∀ (v2 : Int) (v3 : Int) (h : ah_T), hb s h → I v2 v3 h → aw G (rm_R 1 0 0) m_Voice_signsOf 0 0 4 [some (av_R (some a0)), some (av_I a1), some (av_I v2), some (av_I v3), none, none] [] h Q := by
  have key : ∀ (n : Nat) (v2 : Int) (v3 : Int) (h : ah_T), hb s h → I v2 v3 h → μ v2 v3 h < n → aw G (rm_R 1 0 0) m_Voice_signsOf 0 0 4 [some (av_R (some a0)), some (av_I a1), some (av_I v2), some (av_I v3), none, none] [] h Q := by
    intro n
    induction n with
    | zero => intro v2 v3 h  hb0 hi hm; omega
    | succ n ih => intro v2 v3 h  hb0 hi hm; exact b_Voice_signsOf_4 ha0 (fun v2' v3' h'  hb' hx => ih v2' v3' h'  hb' hx.1 (by have := hx.2; omega))  hb0 (hI v2 v3 h  hb0 hi)
  exact fun v2 v3 h  hb0 hi => key _ v2 v3 h  hb0 hi (Nat.lt_succ_self _)
def B_Voice_signsOf_0 (G : cx_T) (s : Nat) (a0 : Nat) (a1 : Int) (h : ah_T) (Q : Option av_T → ah_T → Prop) (X4 : Int → Int → ah_T → Prop) : Prop :=
 X4 (0) (0) h
theorem b_Voice_signsOf_0 {G : cx_T} {s : Nat} {a0 : Nat} {a1 : Int} (ha0 : isV a0) {h : ah_T} {Q : Option av_T → ah_T → Prop} {X4 : Int → Int → ah_T → Prop} (hX4 : ∀ (v2 : Int) (v3 : Int) (h : ah_T), hb s h → X4 v2 v3 h → aw G (rm_R 1 0 0) m_Voice_signsOf 0 0 4 [some (av_R (some a0)), some (av_I a1), some (av_I v2), some (av_I v3), none, none] [] h Q) (hb0 : hb s h) (H : B_Voice_signsOf_0 G s a0 a1 h Q X4) : aw G (rm_R 1 0 0) m_Voice_signsOf 0 0 0 [some (av_R (some a0)), some (av_I a1), none, none, none, none] [] h Q := by
  unfold B_Voice_signsOf_0 at H
  have hS : isS s := hb0.2.1
  refine A_iconst d_Voice_signsOf_0 rfl ?_
  refine A_istore_n 2 (L' := [some (av_R (some a0)), some (av_I a1), some (av_I 0), none, none, none]) d_Voice_signsOf_1 rfl (Nat.le_of_ble_eq_true rfl) rfl ?_
  refine A_iconst d_Voice_signsOf_2 rfl ?_
  refine A_istore_n 3 (L' := [some (av_R (some a0)), some (av_I a1), some (av_I 0), some (av_I 0), none, none]) d_Voice_signsOf_3 rfl (Nat.le_of_ble_eq_true rfl) rfl ?_
  refine A_pc (pc' := 4) rfl ?_
  exact hX4 (0) (0) h  hb0 H
theorem c_Voice_signsOf {G : cx_T} {s : Nat} {a0 : Nat} {a1 : Int} (ha0 : isV a0) {h : ah_T} {Q : Option av_T → ah_T → Prop} {X4 : Int → Int → ah_T → Prop} (hX4 : ∀ (v2 : Int) (v3 : Int) (h : ah_T), hb s h → X4 v2 v3 h → aw G (rm_R 1 0 0) m_Voice_signsOf 0 0 4 [some (av_R (some a0)), some (av_I a1), some (av_I v2), some (av_I v3), none, none] [] h Q) (hb0 : hb s h) (H : i32 a1 → B_Voice_signsOf_0 G s a0 a1 h Q X4) : con G 1 0 0 m_Voice_signsOf [av_R (some a0), av_I a1] h Q := by
  have hS : isS s := hb0.2.1
  refine con_of (L := [some (av_R (some a0)), some (av_I a1), none, none, none, none]) (by decide +kernel) (Nat.le_of_ble_eq_true rfl) rfl ?_
  refine A_locI 1 rfl (fun ra1 => ?_)
  exact b_Voice_signsOf_0 ha0 hX4 hb0 (H ra1)
def B_PM_compareFractions_127 (G : cx_T) (s : Nat) (a0 : Int) (a1 : Int) (a2 : Int) (a3 : Int) (h : ah_T) (Q : Option av_T → ah_T → Prop) : Prop :=
 Q (some (av_I 0)) h
theorem b_PM_compareFractions_127 {G : cx_T} {s : Nat} {a0 : Int} {a1 : Int} {a2 : Int} {a3 : Int} {h : ah_T} {Q : Option av_T → ah_T → Prop} (hb0 : hb s h) (H : B_PM_compareFractions_127 G s a0 a1 a2 a3 h Q ) : aw G (rm_R 1 0 0) m_PM_compareFractions 0 0 127 [none, none, none, none, none, none, none, none, none, none, none, none, none, none, none, none, none, none, none, none, none, none, none, none, none] [] h Q := by
  unfold B_PM_compareFractions_127 at H
  have hS : isS s := hb0.2.1
  refine A_iconst d_PM_compareFractions_127 rfl ?_
  exact A_iret d_PM_compareFractions_128 (by decide) rfl H
def B_PM_compareFractions_97 (G : cx_T) (s : Nat) (a0 : Int) (a1 : Int) (a2 : Int) (a3 : Int) (v21 : Int) (v23 : Int) (h : ah_T) (Q : Option av_T → ah_T → Prop) : Prop :=
 con G 0 0 0 m_JLong_compare [av_L v21, av_L v23] h (fun r h1 => ∃ z3 : Int, r = some (av_I z3) ∧ hb s h1 ∧ Q (some (av_I z3)) h1)
theorem b_PM_compareFractions_97 {G : cx_T} {s : Nat} {a0 : Int} {a1 : Int} {a2 : Int} {a3 : Int} {v21 : Int} {v23 : Int} {h : ah_T} {Q : Option av_T → ah_T → Prop} (hb0 : hb s h) (H : B_PM_compareFractions_97 G s a0 a1 a2 a3 v21 v23 h Q ) : aw G (rm_R 1 0 0) m_PM_compareFractions 0 0 97 [none, none, none, none, none, none, none, none, none, none, none, none, none, none, none, none, none, none, none, none, none, some (av_L v21), none, some (av_L v23), none] [] h Q := by
  unfold B_PM_compareFractions_97 at H
  have hS : isS s := hb0.2.1
  refine A_lload d_PM_compareFractions_97 rfl ?_
  refine A_lload d_PM_compareFractions_99 rfl ?_
  refine A_callS2 m_JLong_compare d_PM_compareFractions_101 l_PM_270 k_JLong_compare (by decide +kernel) (by decide) (Nat.le_of_ble_eq_true rfl) H (fun r h1 hq => ?_)
  clear H
  obtain ⟨z3, rfl, hb2, H⟩ := hq
  exact A_iret d_PM_compareFractions_104 (by decide) rfl H
def B_PM_compareFractions_17 (G : cx_T) (s : Nat) (a0 : Int) (a1 : Int) (a2 : Int) (a3 : Int) (v8 : Int) (v10 : Int) (v12 : Int) (v14 : Int) (v16 : Int) (h : ah_T) (Q : Option av_T → ah_T → Prop) (X17 : Int → Int → Int → Int → Int → ah_T → Prop) : Prop :=
 ((200 ≤ v16 → B_PM_compareFractions_127 G s a0 a1 a2 a3 h Q ) ∧ (¬ 200 ≤ v16 → ((v10 ≤ 0 → B_PM_compareFractions_127 G s a0 a1 a2 a3 h Q ) ∧ (¬ v10 ≤ 0 → ((v14 ≤ 0 → B_PM_compareFractions_127 G s a0 a1 a2 a3 h Q ) ∧ (¬ v14 ≤ 0 → (v10 ≠ 0) ∧ ∀ x3 : Int, x3 = w64 ((v8).tdiv v10) → (-9223372036854775808) ≤ x3 → x3 ≤ 9223372036854775807 → (v14 ≠ 0) ∧ ∀ x4 : Int, x4 = w64 ((v12).tdiv v14) → (-9223372036854775808) ≤ x4 → x4 ≤ 9223372036854775807 → (v10 ≠ 0) ∧ ∀ x5 : Int, x5 = (v8).tmod v10 → (-9223372036854775808) ≤ x5 → x5 ≤ 9223372036854775807 → (v14 ≠ 0) ∧ ∀ x6 : Int, x6 = (v12).tmod v14 → (-9223372036854775808) ≤ x6 → x6 ≤ 9223372036854775807 → ((x3 = x4 → ((x5 = 0 → B_PM_compareFractions_97 G s a0 a1 a2 a3 (x5) (x6) h Q ) ∧ (¬ x5 = 0 → ((x6 = 0 → B_PM_compareFractions_97 G s a0 a1 a2 a3 (x5) (x6) h Q ) ∧ (¬ x6 = 0 → ((-2147483648) ≤ (v16 + 1) ∧ (v16 + 1) ≤ 2147483647) ∧ X17 (v14) (x6) (v10) (x5) ((v16 + 1)) h))))) ∧ (¬ x3 = x4 → con G 0 0 0 m_JLong_compare [av_L x3, av_L x4] h (fun r h11 => ∃ z13 : Int, r = some (av_I z13) ∧ hb s h11 ∧ Q (some (av_I z13)) h11)))))))))
theorem b_PM_compareFractions_17 {G : cx_T} {s : Nat} {a0 : Int} {a1 : Int} {a2 : Int} {a3 : Int} {v8 : Int} {v10 : Int} {v12 : Int} {v14 : Int} {v16 : Int} {h : ah_T} {Q : Option av_T → ah_T → Prop} {X17 : Int → Int → Int → Int → Int → ah_T → Prop} (hX17 : ∀ (v8 : Int) (v10 : Int) (v12 : Int) (v14 : Int) (v16 : Int) (h : ah_T), hb s h → X17 v8 v10 v12 v14 v16 h → aw G (rm_R 1 0 0) m_PM_compareFractions 0 0 17 [none, none, none, none, none, none, none, none, some (av_L v8), none, some (av_L v10), none, some (av_L v12), none, some (av_L v14), none, some (av_I v16), none, none, none, none, none, none, none, none] [] h Q) (hb0 : hb s h) (H : B_PM_compareFractions_17 G s a0 a1 a2 a3 v8 v10 v12 v14 v16 h Q X17) : aw G (rm_R 1 0 0) m_PM_compareFractions 0 0 17 [none, none, none, none, none, none, none, none, some (av_L v8), none, some (av_L v10), none, some (av_L v12), none, some (av_L v14), none, some (av_I v16), none, none, none, none, none, none, none, none] [] h Q := by
  unfold B_PM_compareFractions_17 at H
  have hS : isS s := hb0.2.1
  refine A_iload d_PM_compareFractions_17 rfl ?_
  refine A_sipush d_PM_compareFractions_19 rfl ?_
  refine A_icmp_ge (tgt := 127) d_PM_compareFractions_22 (by decide) (fun c => ?_) (fun c => ?_)
  · replace H := H.1 c
    refine A_pc (pc' := 127) rfl ?_
    refine A_free (L' := [none, none, none, none, none, none, none, none, none, none, none, none, none, none, none, none, none, none, none, none, none, none, none, none, none]) trivial ?_
    exact b_PM_compareFractions_127    hb0 H
  · replace H := H.2 c
    refine A_lload d_PM_compareFractions_25 rfl ?_
    refine A_lconst_0 d_PM_compareFractions_27 ?_
    refine A_lcmpn d_PM_compareFractions_28 (fun x1 lx1 ex1 gx1 _ _ => ?_)
    refine A_if_le (tgt := 127) d_PM_compareFractions_29 (by decide) (fun c => ?_) (fun c => ?_)
    · replace H := H.1 (by omega)
      refine A_pc (pc' := 127) rfl ?_
      refine A_free (L' := [none, none, none, none, none, none, none, none, none, none, none, none, none, none, none, none, none, none, none, none, none, none, none, none, none]) trivial ?_
      exact b_PM_compareFractions_127    hb0 H
    · replace H := H.2 (by omega)
      refine A_lload d_PM_compareFractions_32 rfl ?_
      refine A_lconst_0 d_PM_compareFractions_34 ?_
      refine A_lcmpn d_PM_compareFractions_35 (fun x2 lx2 ex2 gx2 _ _ => ?_)
      refine A_if_le (tgt := 127) d_PM_compareFractions_36 (by decide) (fun c => ?_) (fun c => ?_)
      · replace H := H.1 (by omega)
        refine A_pc (pc' := 127) rfl ?_
        refine A_free (L' := [none, none, none, none, none, none, none, none, none, none, none, none, none, none, none, none, none, none, none, none, none, none, none, none, none]) trivial ?_
        exact b_PM_compareFractions_127    hb0 H
      · replace H := H.2 (by omega)
        refine A_lload d_PM_compareFractions_39 rfl ?_
        refine A_lload d_PM_compareFractions_41 rfl ?_
        have H0 := H.1
        replace H := H.2
        refine A_ldivc d_PM_compareFractions_43 H0 (fun x3 ex3 lx3 ux3 => ?_)
        replace H := H x3 ex3 lx3 ux3
        refine A_lstore (L' := [none, none, none, none, none, none, none, none, some (av_L v8), none, some (av_L v10), none, some (av_L v12), none, some (av_L v14), none, some (av_I v16), some (av_L x3), none, none, none, none, none, none, none]) d_PM_compareFractions_44 (Nat.le_of_ble_eq_true rfl) rfl ?_
        refine A_lload d_PM_compareFractions_46 rfl ?_
        refine A_pc (pc' := 48) rfl ?_
        refine A_lload d_PM_compareFractions_48 rfl ?_
        have H0 := H.1
        replace H := H.2
        refine A_ldivc d_PM_compareFractions_50 H0 (fun x4 ex4 lx4 ux4 => ?_)
        replace H := H x4 ex4 lx4 ux4
        refine A_lstore (L' := [none, none, none, none, none, none, none, none, some (av_L v8), none, some (av_L v10), none, some (av_L v12), none, some (av_L v14), none, some (av_I v16), some (av_L x3), none, some (av_L x4), none, none, none, none, none]) d_PM_compareFractions_51 (Nat.le_of_ble_eq_true rfl) rfl ?_
        refine A_lload d_PM_compareFractions_53 rfl ?_
        refine A_lload d_PM_compareFractions_55 rfl ?_
        have H0 := H.1
        replace H := H.2
        refine A_lremc d_PM_compareFractions_57 H0 (fun x5 ex5 lx5 ux5 => ?_)
        replace H := H x5 ex5 lx5 ux5
        refine A_pc (pc' := 58) rfl ?_
        refine A_lstore (L' := [none, none, none, none, none, none, none, none, some (av_L v8), none, some (av_L v10), none, some (av_L v12), none, some (av_L v14), none, some (av_I v16), some (av_L x3), none, some (av_L x4), none, some (av_L x5), none, none, none]) d_PM_compareFractions_58 (Nat.le_of_ble_eq_true rfl) rfl ?_
        refine A_lload d_PM_compareFractions_60 rfl ?_
        refine A_lload d_PM_compareFractions_62 rfl ?_
        have H0 := H.1
        replace H := H.2
        refine A_lremc d_PM_compareFractions_64 H0 (fun x6 ex6 lx6 ux6 => ?_)
        replace H := H x6 ex6 lx6 ux6
        refine A_lstore (L' := [none, none, none, none, none, none, none, none, some (av_L v8), none, some (av_L v10), none, some (av_L v12), none, some (av_L v14), none, some (av_I v16), some (av_L x3), none, some (av_L x4), none, some (av_L x5), none, some (av_L x6), none]) d_PM_compareFractions_65 (Nat.le_of_ble_eq_true rfl) rfl ?_
        refine A_lload d_PM_compareFractions_67 rfl ?_
        refine A_pc (pc' := 69) rfl ?_
        refine A_lload d_PM_compareFractions_69 rfl ?_
        refine A_lcmpn d_PM_compareFractions_71 (fun x7 lx7 ex7 gx7 _ _ => ?_)
        refine A_if_eq (tgt := 83) d_PM_compareFractions_72 (by decide) (fun c => ?_) (fun c => ?_)
        · replace H := H.1 (by omega)
          refine A_lload d_PM_compareFractions_83 rfl ?_
          refine A_lconst_0 d_PM_compareFractions_85 ?_
          refine A_lcmpn d_PM_compareFractions_86 (fun x8 lx8 ex8 gx8 _ _ => ?_)
          refine A_if_eq (tgt := 97) d_PM_compareFractions_87 (by decide) (fun c => ?_) (fun c => ?_)
          · replace H := H.1 (by omega)
            refine A_pc (pc' := 97) rfl ?_
            refine A_free (L' := [none, none, none, none, none, none, none, none, none, none, none, none, none, none, none, none, none, none, none, none, none, some (av_L x5), none, some (av_L x6), none]) (And.intro rfl (And.intro rfl trivial)) ?_
            exact b_PM_compareFractions_97    hb0 H
          · replace H := H.2 (by omega)
            refine A_lload d_PM_compareFractions_90 rfl ?_
            refine A_lconst_0 d_PM_compareFractions_92 ?_
            refine A_lcmpn d_PM_compareFractions_93 (fun x9 lx9 ex9 gx9 _ _ => ?_)
            refine A_if_ne (tgt := 105) d_PM_compareFractions_94 (by decide) (fun c => ?_) (fun c => ?_)
            · replace H := H.2 (by omega)
              refine A_lload d_PM_compareFractions_105 rfl ?_
              refine A_lstore (L' := [none, none, none, none, none, none, none, none, some (av_L v14), none, some (av_L v10), none, some (av_L v12), none, some (av_L v14), none, some (av_I v16), some (av_L x3), none, some (av_L x4), none, some (av_L x5), none, some (av_L x6), none]) d_PM_compareFractions_107 (Nat.le_of_ble_eq_true rfl) rfl ?_
              refine A_lload d_PM_compareFractions_109 rfl ?_
              refine A_lstore (L' := [none, none, none, none, none, none, none, none, some (av_L v14), none, some (av_L v10), none, some (av_L v10), none, some (av_L v14), none, some (av_I v16), some (av_L x3), none, some (av_L x4), none, some (av_L x5), none, some (av_L x6), none]) d_PM_compareFractions_111 (Nat.le_of_ble_eq_true rfl) rfl ?_
              refine A_lload d_PM_compareFractions_113 rfl ?_
              refine A_pc (pc' := 115) rfl ?_
              refine A_lstore (L' := [none, none, none, none, none, none, none, none, some (av_L v14), none, some (av_L x6), none, some (av_L v10), none, some (av_L v14), none, some (av_I v16), some (av_L x3), none, some (av_L x4), none, some (av_L x5), none, some (av_L x6), none]) d_PM_compareFractions_115 (Nat.le_of_ble_eq_true rfl) rfl ?_
              refine A_lload d_PM_compareFractions_117 rfl ?_
              refine A_lstore (L' := [none, none, none, none, none, none, none, none, some (av_L v14), none, some (av_L x6), none, some (av_L v10), none, some (av_L x5), none, some (av_I v16), some (av_L x3), none, some (av_L x4), none, some (av_L x5), none, some (av_L x6), none]) d_PM_compareFractions_119 (Nat.le_of_ble_eq_true rfl) rfl ?_
              have g10 := H.1
              replace H := H.2
              refine A_iincv (z := (v16 + 1)) (L' := [none, none, none, none, none, none, none, none, some (av_L v14), none, some (av_L x6), none, some (av_L v10), none, some (av_L x5), none, some (av_I (v16 + 1)), some (av_L x3), none, some (av_L x4), none, some (av_L x5), none, some (av_L x6), none]) d_PM_compareFractions_121 rfl (w32_to (by omega) (by unfold i32; omega)) rfl ?_
              refine A_goto (tgt := 17) d_PM_compareFractions_124 (by decide) ?_
              refine A_pc (pc' := 17) rfl ?_
              refine A_free (L' := [none, none, none, none, none, none, none, none, some (av_L v14), none, some (av_L x6), none, some (av_L v10), none, some (av_L x5), none, some (av_I (v16 + 1)), none, none, none, none, none, none, none, none]) (And.intro rfl (And.intro rfl (And.intro rfl (And.intro rfl (And.intro rfl trivial))))) ?_
              exact hX17 (v14) (x6) (v10) (x5) ((v16 + 1)) h  hb0 H
            · replace H := H.1 (by omega)
              refine A_pc (pc' := 97) rfl ?_
              refine A_free (L' := [none, none, none, none, none, none, none, none, none, none, none, none, none, none, none, none, none, none, none, none, none, some (av_L x5), none, some (av_L x6), none]) (And.intro rfl (And.intro rfl trivial)) ?_
              exact b_PM_compareFractions_97    hb0 H
        · replace H := H.2 (by omega)
          refine A_lload d_PM_compareFractions_75 rfl ?_
          refine A_lload d_PM_compareFractions_77 rfl ?_
          refine A_callS2 m_JLong_compare d_PM_compareFractions_79 l_PM_270 k_JLong_compare (by decide +kernel) (by decide) (Nat.le_of_ble_eq_true rfl) H (fun r h11 hq => ?_)
          clear H
          obtain ⟨z13, rfl, hb12, H⟩ := hq
          exact A_iret d_PM_compareFractions_82 (by decide) rfl H
theorem lp_PM_compareFractions_17 {G : cx_T} {s : Nat} {a0 : Int} {a1 : Int} {a2 : Int} {a3 : Int} {Q : Option av_T → ah_T → Prop} (I : Int → Int → Int → Int → Int → ah_T → Prop) (μ : Int → Int → Int → Int → Int → ah_T → Nat) (hI : ∀ (v8 : Int) (v10 : Int) (v12 : Int) (v14 : Int) (v16 : Int) (h : ah_T), hb s h → I v8 v10 v12 v14 v16 h → B_PM_compareFractions_17 G s a0 a1 a2 a3 v8 v10 v12 v14 v16 h Q (fun v8' v10' v12' v14' v16' h' => I v8' v10' v12' v14' v16' h' ∧ μ v8' v10' v12' v14' v16' h' < μ v8 v10 v12 v14 v16 h)) : ∀ (v8 : Int) (v10 : Int) (v12 : Int) (v14 : Int) (v16 : Int) (h : ah_T), hb s h → I v8 v10 v12 v14 v16 h → aw G (rm_R 1 0 0) m_PM_compareFractions 0 0 17 [none, none, none, none, none, none, none, none, some (av_L v8), none, some (av_L v10), none, some (av_L v12), none, some (av_L v14), none, some (av_I v16), none, none, none, none, none, none, none, none] [] h Q := by
  have key : ∀ (n : Nat) (v8 : Int) (v10 : Int) (v12 : Int) (v14 : Int) (v16 : Int) (h : ah_T), hb s h → I v8 v10 v12 v14 v16 h → μ v8 v10 v12 v14 v16 h < n → aw G (rm_R 1 0 0) m_PM_compareFractions 0 0 17 [none, none, none, none, none, none, none, none, some (av_L v8), none, some (av_L v10), none, some (av_L v12), none, some (av_L v14), none, some (av_I v16), none, none, none, none, none, none, none, none] [] h Q := by
    intro n
    induction n with
    | zero => intro v8 v10 v12 v14 v16 h  hb0 hi hm; omega
    | succ n ih => intro v8 v10 v12 v14 v16 h  hb0 hi hm; exact b_PM_compareFractions_17  (fun v8' v10' v12' v14' v16' h'  hb' hx => ih v8' v10' v12' v14' v16' h'  hb' hx.1 (by have := hx.2; omega))  hb0 (hI v8 v10 v12 v14 v16 h  hb0 hi)
  exact fun v8 v10 v12 v14 v16 h  hb0 hi => key _ v8 v10 v12 v14 v16 h  hb0 hi (Nat.lt_succ_self _)
def B_PM_compareFractions_0 (G : cx_T) (s : Nat) (a0 : Int) (a1 : Int) (a2 : Int) (a3 : Int) (h : ah_T) (Q : Option av_T → ah_T → Prop) (X17 : Int → Int → Int → Int → Int → ah_T → Prop) : Prop :=
 X17 (a0) (a1) (a2) (a3) (0) h
theorem b_PM_compareFractions_0 {G : cx_T} {s : Nat} {a0 : Int} {a1 : Int} {a2 : Int} {a3 : Int} {h : ah_T} {Q : Option av_T → ah_T → Prop} {X17 : Int → Int → Int → Int → Int → ah_T → Prop} (hX17 : ∀ (v8 : Int) (v10 : Int) (v12 : Int) (v14 : Int) (v16 : Int) (h : ah_T), hb s h → X17 v8 v10 v12 v14 v16 h → aw G (rm_R 1 0 0) m_PM_compareFractions 0 0 17 [none, none, none, none, none, none, none, none, some (av_L v8), none, some (av_L v10), none, some (av_L v12), none, some (av_L v14), none, some (av_I v16), none, none, none, none, none, none, none, none] [] h Q) (hb0 : hb s h) (H : B_PM_compareFractions_0 G s a0 a1 a2 a3 h Q X17) : aw G (rm_R 1 0 0) m_PM_compareFractions 0 0 0 [some (av_L a0), none, some (av_L a1), none, some (av_L a2), none, some (av_L a3), none, none, none, none, none, none, none, none, none, none, none, none, none, none, none, none, none, none] [] h Q := by
  unfold B_PM_compareFractions_0 at H
  have hS : isS s := hb0.2.1
  refine A_lload_n 0 d_PM_compareFractions_0 rfl rfl ?_
  refine A_lstore (L' := [some (av_L a0), none, some (av_L a1), none, some (av_L a2), none, some (av_L a3), none, some (av_L a0), none, none, none, none, none, none, none, none, none, none, none, none, none, none, none, none]) d_PM_compareFractions_1 (Nat.le_of_ble_eq_true rfl) rfl ?_
  refine A_lload_n 2 d_PM_compareFractions_3 rfl rfl ?_
  refine A_lstore (L' := [some (av_L a0), none, some (av_L a1), none, some (av_L a2), none, some (av_L a3), none, some (av_L a0), none, some (av_L a1), none, none, none, none, none, none, none, none, none, none, none, none, none, none]) d_PM_compareFractions_4 (Nat.le_of_ble_eq_true rfl) rfl ?_
  refine A_lload d_PM_compareFractions_6 rfl ?_
  refine A_pc (pc' := 8) rfl ?_
  refine A_lstore (L' := [some (av_L a0), none, some (av_L a1), none, some (av_L a2), none, some (av_L a3), none, some (av_L a0), none, some (av_L a1), none, some (av_L a2), none, none, none, none, none, none, none, none, none, none, none, none]) d_PM_compareFractions_8 (Nat.le_of_ble_eq_true rfl) rfl ?_
  refine A_lload d_PM_compareFractions_10 rfl ?_
  refine A_lstore (L' := [some (av_L a0), none, some (av_L a1), none, some (av_L a2), none, some (av_L a3), none, some (av_L a0), none, some (av_L a1), none, some (av_L a2), none, some (av_L a3), none, none, none, none, none, none, none, none, none, none]) d_PM_compareFractions_12 (Nat.le_of_ble_eq_true rfl) rfl ?_
  refine A_iconst d_PM_compareFractions_14 rfl ?_
  refine A_istore (L' := [some (av_L a0), none, some (av_L a1), none, some (av_L a2), none, some (av_L a3), none, some (av_L a0), none, some (av_L a1), none, some (av_L a2), none, some (av_L a3), none, some (av_I 0), none, none, none, none, none, none, none, none]) d_PM_compareFractions_15 (Nat.le_of_ble_eq_true rfl) rfl ?_
  refine A_pc (pc' := 17) rfl ?_
  refine A_free (L' := [none, none, none, none, none, none, none, none, some (av_L a0), none, some (av_L a1), none, some (av_L a2), none, some (av_L a3), none, some (av_I 0), none, none, none, none, none, none, none, none]) (And.intro rfl (And.intro rfl (And.intro rfl (And.intro rfl (And.intro rfl trivial))))) ?_
  exact hX17 (a0) (a1) (a2) (a3) (0) h  hb0 H
theorem c_PM_compareFractions {G : cx_T} {s : Nat} {a0 : Int} {a1 : Int} {a2 : Int} {a3 : Int} {h : ah_T} {Q : Option av_T → ah_T → Prop} {X17 : Int → Int → Int → Int → Int → ah_T → Prop} (hX17 : ∀ (v8 : Int) (v10 : Int) (v12 : Int) (v14 : Int) (v16 : Int) (h : ah_T), hb s h → X17 v8 v10 v12 v14 v16 h → aw G (rm_R 1 0 0) m_PM_compareFractions 0 0 17 [none, none, none, none, none, none, none, none, some (av_L v8), none, some (av_L v10), none, some (av_L v12), none, some (av_L v14), none, some (av_I v16), none, none, none, none, none, none, none, none] [] h Q) (hb0 : hb s h) (H : i64 a0 → i64 a1 → i64 a2 → i64 a3 → B_PM_compareFractions_0 G s a0 a1 a2 a3 h Q X17) : con G 1 0 0 m_PM_compareFractions [av_L a0, av_L a1, av_L a2, av_L a3] h Q := by
  have hS : isS s := hb0.2.1
  refine con_of (L := [some (av_L a0), none, some (av_L a1), none, some (av_L a2), none, some (av_L a3), none, none, none, none, none, none, none, none, none, none, none, none, none, none, none, none, none, none]) (by decide +kernel) (Nat.le_of_ble_eq_true rfl) rfl ?_
  refine A_locL 0 rfl (fun ra0 => ?_)
  refine A_locL 2 rfl (fun ra2 => ?_)
  refine A_locL 4 rfl (fun ra4 => ?_)
  refine A_locL 6 rfl (fun ra6 => ?_)
  exact b_PM_compareFractions_0  hX17 hb0 (H ra0 ra2 ra4 ra6)
def B_Page_lineCost_25 (G : cx_T) (s : Nat) (a0 : Int) (a1 : Int) (t0 : Int) (h : ah_T) (Q : Option av_T → ah_T → Prop) : Prop :=
 Q (some (av_L t0)) h
theorem b_Page_lineCost_25 {G : cx_T} {s : Nat} {a0 : Int} {a1 : Int} {t0 : Int} {h : ah_T} {Q : Option av_T → ah_T → Prop} (hb0 : hb s h) (H : B_Page_lineCost_25 G s a0 a1 t0 h Q ) : aw G (rm_R 0 0 0) m_Page_lineCost 0 0 25 [none, none, none] [av_L t0] h Q := by
  unfold B_Page_lineCost_25 at H
  have hS : isS s := hb0.2.1
  exact A_lret d_Page_lineCost_25 (by decide) rfl H
def B_Page_lineCost_0 (G : cx_T) (s : Nat) (a0 : Int) (a1 : Int) (h : ah_T) (Q : Option av_T → ah_T → Prop) : Prop :=
 ((0 ≤ a0 → ((a1 = 0 → ∀ x2 : Int, x2 = a0 * a0 → ((-9223372036854775808) ≤ x2 ∧ x2 ≤ 9223372036854775807) ∧ B_Page_lineCost_25 G s a0 a1 (x2) h Q ) ∧ (¬ a1 = 0 → B_Page_lineCost_25 G s a0 a1 (0) h Q ))) ∧ (¬ 0 ≤ a0 → ∀ x4 : Int, x4 = a0 * a0 → ((-9223372036854775808) ≤ x4 ∧ x4 ≤ 9223372036854775807) ∧ ((-9223372036854775808) ≤ (x4 + 10000) ∧ (x4 + 10000) ≤ 9223372036854775807) ∧ Q (some (av_L (x4 + 10000))) h))
theorem b_Page_lineCost_0 {G : cx_T} {s : Nat} {a0 : Int} {a1 : Int} {h : ah_T} {Q : Option av_T → ah_T → Prop} (hb0 : hb s h) (H : B_Page_lineCost_0 G s a0 a1 h Q ) : aw G (rm_R 0 0 0) m_Page_lineCost 0 0 0 [some (av_L a0), none, some (av_I a1)] [] h Q := by
  unfold B_Page_lineCost_0 at H
  have hS : isS s := hb0.2.1
  refine A_lload_n 0 d_Page_lineCost_0 rfl rfl ?_
  refine A_lconst_0 d_Page_lineCost_1 ?_
  refine A_lcmpn d_Page_lineCost_2 (fun x1 lx1 ex1 gx1 _ _ => ?_)
  refine A_if_ge (tgt := 14) d_Page_lineCost_3 (by decide) (fun c => ?_) (fun c => ?_)
  · replace H := H.1 (by omega)
    refine A_iload_n 2 d_Page_lineCost_14 rfl rfl ?_
    refine A_if_eq (tgt := 22) d_Page_lineCost_15 (by decide) (fun c => ?_) (fun c => ?_)
    · replace H := H.1 c
      refine A_lload_n 0 d_Page_lineCost_22 rfl rfl ?_
      refine A_lload_n 0 d_Page_lineCost_23 rfl rfl ?_
      obtain ⟨x2, ex2⟩ : ∃ z : Int, z = a0 * a0 := ⟨_, rfl⟩
      replace H := H x2 ex2
      have g3 := H.1
      replace H := H.2
      refine A_lmulv (z := x2) d_Page_lineCost_24 (w64_to ex2.symm (by unfold i64; omega)) ?_
      refine A_pc (pc' := 25) rfl ?_
      refine A_free (L' := [none, none, none]) trivial ?_
      exact b_Page_lineCost_25    hb0 H
    · replace H := H.2 c
      refine A_lconst_0 d_Page_lineCost_18 ?_
      refine A_goto (tgt := 25) d_Page_lineCost_19 (by decide) ?_
      refine A_pc (pc' := 25) rfl ?_
      refine A_free (L' := [none, none, none]) trivial ?_
      exact b_Page_lineCost_25    hb0 H
  · replace H := H.2 (by omega)
    refine A_ldc2 (z := 10000) d_Page_lineCost_6 cst_Page_56 rfl ?_
    refine A_lload_n 0 d_Page_lineCost_9 rfl rfl ?_
    refine A_lload_n 0 d_Page_lineCost_10 rfl rfl ?_
    obtain ⟨x4, ex4⟩ : ∃ z : Int, z = a0 * a0 := ⟨_, rfl⟩
    replace H := H x4 ex4
    have g5 := H.1
    replace H := H.2
    refine A_lmulv (z := x4) d_Page_lineCost_11 (w64_to ex4.symm (by unfold i64; omega)) ?_
    have g6 := H.1
    replace H := H.2
    refine A_laddv (z := (x4 + 10000)) d_Page_lineCost_12 (w64_to (by omega) (by unfold i64; omega)) ?_
    refine A_pc (pc' := 13) rfl ?_
    exact A_lret d_Page_lineCost_13 (by decide) rfl H
theorem c_Page_lineCost {G : cx_T} {s : Nat} {a0 : Int} {a1 : Int} {h : ah_T} {Q : Option av_T → ah_T → Prop} (hb0 : hb s h) (H : i64 a0 → i32 a1 → B_Page_lineCost_0 G s a0 a1 h Q ) : con G 0 0 0 m_Page_lineCost [av_L a0, av_I a1] h Q := by
  have hS : isS s := hb0.2.1
  refine con_of (L := [some (av_L a0), none, some (av_I a1)]) (by decide +kernel) (Nat.le_of_ble_eq_true rfl) rfl ?_
  refine A_locL 0 rfl (fun ra0 => ?_)
  refine A_locI 2 rfl (fun ra2 => ?_)
  exact b_Page_lineCost_0   hb0 (H ra0 ra2)
def B_Page_setNext_n_33 (G : cx_T) (s : Nat) (a2 : Int) (a3 : Int) (h : ah_T) (Q : Option av_T → ah_T → Prop) : Prop :=
 (0 ≤ a2 ∧ a2 < 4) ∧ ∀ h3 : ah_T, h3 = st_l h 156 (a2).toNat (-1) → Q none h3
theorem b_Page_setNext_n_33 {G : cx_T} {s : Nat} {a2 : Int} {a3 : Int} {h : ah_T} {Q : Option av_T → ah_T → Prop} (hb0 : hb s h) (H : B_Page_setNext_n_33 G s a2 a3 h Q ) : aw G (rm_R 1 0 0) m_Page_setNext 0 0 33 [some (av_R (some 150)), none, some (av_I a2), none, none, none, none, none, none, none, none] [] h Q := by
  unfold B_Page_setNext_n_33 at H
  have hS : isS s := hb0.2.1
  refine A_aload_n 0 d_Page_setNext_33 rfl rfl ?_
  refine A_getAv (z := some 156) T_ok d_Page_setNext_34 f_Page_28 (hb_s hb0 sf_150) (hb_r hb0 rff_150_6) ?_
  refine A_iload_n 2 d_Page_setNext_37 rfl rfl ?_
  refine A_ldc2 (z := (-1)) d_Page_setNext_38 cst_Page_91 rfl ?_
  have g2 := H.1
  replace H := H.2
  refine A_lastoreN d_Page_setNext_41 (hb_s hb0 sf_156) g2.1 g2.2 ?_
  refine A_hn (fun h3 eh3 => ?_)
  have hb4 := hb_l hb0 eh3
  replace H := H h3 eh3
  refine A_pc (pc' := 42) rfl ?_
  exact A_vret d_Page_setNext_42 (by decide) rfl H
def B_Page_setNext_n_0 (G : cx_T) (s : Nat) (a2 : Int) (a3 : Int) (h : ah_T) (Q : Option av_T → ah_T → Prop) : Prop :=
 (0 ≤ a2 ∧ a2 < 4) ∧ ∀ x2 : Int, x2 = h.2.1 155 (a2).toNat → -2147483648 ≤ x2 → x2 ≤ 2147483647 → B_Page_setNext_n_33 G s a2 a3 h Q 
theorem b_Page_setNext_n_0 {G : cx_T} {s : Nat} {a2 : Int} {a3 : Int} {h : ah_T} {Q : Option av_T → ah_T → Prop} (hb0 : hb s h) (H : B_Page_setNext_n_0 G s a2 a3 h Q ) : aw G (rm_R 1 0 0) m_Page_setNext 0 0 0 [some (av_R (some 150)), some (av_R none), some (av_I a2), some (av_I a3), none, none, none, none, none, none, none] [] h Q := by
  unfold B_Page_setNext_n_0 at H
  have hS : isS s := hb0.2.1
  refine A_aload_n 0 d_Page_setNext_0 rfl rfl ?_
  refine A_getAv (z := some 155) T_ok d_Page_setNext_1 f_Page_25 (hb_s hb0 sf_150) (hb_r hb0 rff_150_5) ?_
  refine A_iload_n 2 d_Page_setNext_4 rfl rfl ?_
  have g3 := H.1
  replace H := H.2
  refine A_ialoadf d_Page_setNext_5 (hb_s hb0 sf_155) g3.1 g3.2 (fun x2 ex2 lx2 ux2 => ?_)
  replace H := H x2 ex2 lx2 ux2
  refine A_istore (L' := [some (av_R (some 150)), some (av_R none), some (av_I a2), some (av_I a3), some (av_I x2), none, none, none, none, none, none]) d_Page_setNext_6 (Nat.le_of_ble_eq_true rfl) rfl ?_
  refine A_pc (pc' := 8) rfl ?_
  refine A_aload_n 1 d_Page_setNext_8 rfl rfl ?_
  refine A_ifnull (tgt := 33) d_Page_setNext_9 (by decide) (fun _ => ?_) (fun a q => by cases q)
  refine A_pc (pc' := 33) rfl ?_
  refine A_free (L' := [some (av_R (some 150)), none, some (av_I a2), none, none, none, none, none, none, none, none]) (And.intro rfl (And.intro rfl trivial)) ?_
  exact b_Page_setNext_n_33    hb0 H
theorem c_Page_setNext_n {G : cx_T} {s : Nat} {a2 : Int} {a3 : Int} {h : ah_T} {Q : Option av_T → ah_T → Prop} (hb0 : hb s h) (H : i32 a2 → i32 a3 → B_Page_setNext_n_0 G s a2 a3 h Q ) : con G 1 0 0 m_Page_setNext [av_R (some 150), av_R none, av_I a2, av_I a3] h Q := by
  have hS : isS s := hb0.2.1
  refine con_of (L := [some (av_R (some 150)), some (av_R none), some (av_I a2), some (av_I a3), none, none, none, none, none, none, none]) (by decide +kernel) (Nat.le_of_ble_eq_true rfl) rfl ?_
  refine A_locI 2 rfl (fun ra2 => ?_)
  refine A_locI 3 rfl (fun ra3 => ?_)
  exact b_Page_setNext_n_0   hb0 (H ra2 ra3)
def B_Page_setNext_v_33 (G : cx_T) (s : Nat) (a1 : Nat) (a2 : Int) (a3 : Int) (h : ah_T) (Q : Option av_T → ah_T → Prop) : Prop :=
 (0 ≤ a2 ∧ a2 < 4) ∧ ∀ h3 : ah_T, h3 = st_l h 156 (a2).toNat (-1) → Q none h3
theorem b_Page_setNext_v_33 {G : cx_T} {s : Nat} {a1 : Nat} {a2 : Int} {a3 : Int} (ha1 : isV a1) {h : ah_T} {Q : Option av_T → ah_T → Prop} (hb0 : hb s h) (H : B_Page_setNext_v_33 G s a1 a2 a3 h Q ) : aw G (rm_R 1 0 0) m_Page_setNext 0 0 33 [some (av_R (some 150)), none, some (av_I a2), none, none, none, none, none, none, none, none] [] h Q := by
  unfold B_Page_setNext_v_33 at H
  have hS : isS s := hb0.2.1
  refine A_aload_n 0 d_Page_setNext_33 rfl rfl ?_
  refine A_getAv (z := some 156) T_ok d_Page_setNext_34 f_Page_28 (hb_s hb0 sf_150) (hb_r hb0 rff_150_6) ?_
  refine A_iload_n 2 d_Page_setNext_37 rfl rfl ?_
  refine A_ldc2 (z := (-1)) d_Page_setNext_38 cst_Page_91 rfl ?_
  have g2 := H.1
  replace H := H.2
  refine A_lastoreN d_Page_setNext_41 (hb_s hb0 sf_156) g2.1 g2.2 ?_
  refine A_hn (fun h3 eh3 => ?_)
  have hb4 := hb_l hb0 eh3
  replace H := H h3 eh3
  refine A_pc (pc' := 42) rfl ?_
  exact A_vret d_Page_setNext_42 (by decide) rfl H
def B_Page_setNext_v_0 (G : cx_T) (s : Nat) (a1 : Nat) (a2 : Int) (a3 : Int) (h : ah_T) (Q : Option av_T → ah_T → Prop) : Prop :=
 (0 ≤ a2 ∧ a2 < 4) ∧ ∀ x2 : Int, x2 = h.2.1 155 (a2).toNat → -2147483648 ≤ x2 → x2 ≤ 2147483647 → ∀ x4 : Int, x4 = h.2.1 a1 16 → -2147483648 ≤ x4 → x4 ≤ 2147483647 → ((x4 ≤ a3 → B_Page_setNext_v_33 G s a1 a2 a3 h Q ) ∧ (¬ x4 ≤ a3 → ((-2147483648) ≤ (a3 + 1) ∧ (a3 + 1) ≤ 2147483647) ∧ (0 ≤ (a3 + 1) ∧ (a3 + 1) < 102) ∧ ∀ x7 : Int, x7 = h.2.1 (a1 + 13) ((a3 + 1)).toNat → -2147483648 ≤ x7 → x7 ≤ 2147483647 → ((x2 < x7 → con G 0 0 0 m_Voice_sinceBarTop [av_R (some a1), av_I a3, av_I x2] h (fun r h9 => ∃ z11 : Int, r = some (av_L z11) ∧ hb s h9 ∧ con G 0 0 0 m_Voice_sinceBarBottom [av_R (some a1), av_I a3, av_I x2] h9 (fun r h12 => ∃ z14 : Int, r = some (av_L z14) ∧ hb s h12 ∧ con G 0 0 0 m_PM_greatestDivisor [av_L z11, av_L z14] h12 (fun r h15 => ∃ z17 : Int, r = some (av_L z17) ∧ hb s h15 ∧ (z17 ≠ 0) ∧ ∀ x19 : Int, x19 = w64 ((z11).tdiv z17) → (-9223372036854775808) ≤ x19 → x19 ≤ 9223372036854775807 → ∀ h20 : ah_T, h20 = st_l h15 156 (a2).toNat x19 → (z17 ≠ 0) ∧ ∀ x23 : Int, x23 = w64 ((z14).tdiv z17) → (-9223372036854775808) ≤ x23 → x23 ≤ 9223372036854775807 → ∀ h24 : ah_T, h24 = st_l h20 157 (a2).toNat x23 → Q none h24)))) ∧ (¬ x2 < x7 → B_Page_setNext_v_33 G s a1 a2 a3 h Q ))))
theorem b_Page_setNext_v_0 {G : cx_T} {s : Nat} {a1 : Nat} {a2 : Int} {a3 : Int} (ha1 : isV a1) {h : ah_T} {Q : Option av_T → ah_T → Prop} (hb0 : hb s h) (H : B_Page_setNext_v_0 G s a1 a2 a3 h Q ) : aw G (rm_R 1 0 0) m_Page_setNext 0 0 0 [some (av_R (some 150)), some (av_R (some a1)), some (av_I a2), some (av_I a3), none, none, none, none, none, none, none] [] h Q := by
  unfold B_Page_setNext_v_0 at H
  have hS : isS s := hb0.2.1
  refine A_aload_n 0 d_Page_setNext_0 rfl rfl ?_
  refine A_getAv (z := some 155) T_ok d_Page_setNext_1 f_Page_25 (hb_s hb0 sf_150) (hb_r hb0 rff_150_5) ?_
  refine A_iload_n 2 d_Page_setNext_4 rfl rfl ?_
  have g3 := H.1
  replace H := H.2
  refine A_ialoadf d_Page_setNext_5 (hb_s hb0 sf_155) g3.1 g3.2 (fun x2 ex2 lx2 ux2 => ?_)
  replace H := H x2 ex2 lx2 ux2
  refine A_istore (L' := [some (av_R (some 150)), some (av_R (some a1)), some (av_I a2), some (av_I a3), some (av_I x2), none, none, none, none, none, none]) d_Page_setNext_6 (Nat.le_of_ble_eq_true rfl) rfl ?_
  refine A_pc (pc' := 8) rfl ?_
  refine A_aload_n 1 d_Page_setNext_8 rfl rfl ?_
  refine A_ifnull (tgt := 33) d_Page_setNext_9 (by decide) (fun q => by cases q) (fun _ _ => ?_)
  refine A_iload_n 3 d_Page_setNext_12 rfl rfl ?_
  refine A_aload_n 1 d_Page_setNext_13 rfl rfl ?_
  refine A_getIf T_ok d_Page_setNext_14 f_Page_65 (hs_V hb0 ha1) (fun x4 ex4 lx4 ux4 => ?_)
  replace H := H x4 ex4 lx4 ux4
  refine A_icmp_ge (tgt := 33) d_Page_setNext_17 (by decide) (fun c => ?_) (fun c => ?_)
  · replace H := H.1 c
    refine A_pc (pc' := 33) rfl ?_
    refine A_free (L' := [some (av_R (some 150)), none, some (av_I a2), none, none, none, none, none, none, none, none]) (And.intro rfl (And.intro rfl trivial)) ?_
    exact b_Page_setNext_v_33 ha1   hb0 H
  · replace H := H.2 c
    refine A_iload d_Page_setNext_20 rfl ?_
    refine A_aload_n 1 d_Page_setNext_22 rfl rfl ?_
    refine A_getAv (z := some (a1 + 13)) T_ok d_Page_setNext_23 f_Page_70 (hs_V hb0 ha1) (hr_V_15 hb0 ha1) ?_
    refine A_iload_n 3 d_Page_setNext_26 rfl rfl ?_
    refine A_iconst d_Page_setNext_27 rfl ?_
    refine A_pc (pc' := 28) rfl ?_
    have g6 := H.1
    replace H := H.2
    refine A_iaddv (z := (a3 + 1)) d_Page_setNext_28 (w32_to (by omega) (by unfold i32; omega)) ?_
    have g8 := H.1
    replace H := H.2
    refine A_ialoadf d_Page_setNext_29 (hs_V_15 hb0 ha1) g8.1 g8.2 (fun x7 ex7 lx7 ux7 => ?_)
    replace H := H x7 ex7 lx7 ux7
    refine A_icmp_lt (tgt := 43) d_Page_setNext_30 (by decide) (fun c => ?_) (fun c => ?_)
    · replace H := H.1 c
      refine A_aload_n 1 d_Page_setNext_43 rfl rfl ?_
      refine A_iload_n 3 d_Page_setNext_44 rfl rfl ?_
      refine A_iload d_Page_setNext_45 rfl ?_
      refine A_callV2 m_Voice_sinceBarTop T_ok d_Page_setNext_47 l_Page_93 k_Voice_sinceBarTop (hs_V hb0 ha1) rfl (by decide +kernel) (by decide) (Nat.le_of_ble_eq_true rfl) H (fun r h9 hq => ?_)
      clear H
      obtain ⟨z11, rfl, hb10, H⟩ := hq
      refine A_lstore (L' := [some (av_R (some 150)), some (av_R (some a1)), some (av_I a2), some (av_I a3), some (av_I x2), some (av_L z11), none, none, none, none, none]) d_Page_setNext_50 (Nat.le_of_ble_eq_true rfl) rfl ?_
      refine A_aload_n 1 d_Page_setNext_52 rfl rfl ?_
      refine A_iload_n 3 d_Page_setNext_53 rfl rfl ?_
      refine A_iload d_Page_setNext_54 rfl ?_
      refine A_callV2 m_Voice_sinceBarBottom T_ok d_Page_setNext_56 l_Page_97 k_Voice_sinceBarBottom (hs_V hb10 ha1) rfl (by decide +kernel) (by decide) (Nat.le_of_ble_eq_true rfl) H (fun r h12 hq => ?_)
      clear H
      obtain ⟨z14, rfl, hb13, H⟩ := hq
      refine A_lstore (L' := [some (av_R (some 150)), some (av_R (some a1)), some (av_I a2), some (av_I a3), some (av_I x2), some (av_L z11), none, some (av_L z14), none, none, none]) d_Page_setNext_59 (Nat.le_of_ble_eq_true rfl) rfl ?_
      refine A_lload d_Page_setNext_61 rfl ?_
      refine A_lload d_Page_setNext_63 rfl ?_
      refine A_callS2 m_PM_greatestDivisor d_Page_setNext_65 l_Page_100 k_PM_greatestDivisor (by decide +kernel) (by decide) (Nat.le_of_ble_eq_true rfl) H (fun r h15 hq => ?_)
      clear H
      obtain ⟨z17, rfl, hb16, H⟩ := hq
      refine A_lstore (L' := [some (av_R (some 150)), some (av_R (some a1)), some (av_I a2), some (av_I a3), some (av_I x2), some (av_L z11), none, some (av_L z14), none, some (av_L z17), none]) d_Page_setNext_68 (Nat.le_of_ble_eq_true rfl) rfl ?_
      refine A_aload_n 0 d_Page_setNext_70 rfl rfl ?_
      refine A_getAv (z := some 156) T_ok d_Page_setNext_71 f_Page_28 (hb_s hb16 sf_150) (hb_r hb16 rff_150_6) ?_
      refine A_iload_n 2 d_Page_setNext_74 rfl rfl ?_
      refine A_lload d_Page_setNext_75 rfl ?_
      refine A_pc (pc' := 77) rfl ?_
      refine A_lload d_Page_setNext_77 rfl ?_
      have H0 := H.1
      replace H := H.2
      refine A_ldivc d_Page_setNext_79 H0 (fun x19 ex19 lx19 ux19 => ?_)
      replace H := H x19 ex19 lx19 ux19
      refine A_lastoreN d_Page_setNext_80 (hb_s hb16 sf_156) g3.1 g3.2 ?_
      refine A_hn (fun h20 eh20 => ?_)
      have hb21 := hb_l hb16 eh20
      replace H := H h20 eh20
      refine A_aload_n 0 d_Page_setNext_81 rfl rfl ?_
      refine A_getAv (z := some 157) T_ok d_Page_setNext_82 f_Page_31 (hb_s hb21 sf_150) (hb_r hb21 rff_150_7) ?_
      refine A_iload_n 2 d_Page_setNext_85 rfl rfl ?_
      refine A_pc (pc' := 86) rfl ?_
      refine A_lload d_Page_setNext_86 rfl ?_
      refine A_lload d_Page_setNext_88 rfl ?_
      have H0 := H.1
      replace H := H.2
      refine A_ldivc d_Page_setNext_90 H0 (fun x23 ex23 lx23 ux23 => ?_)
      replace H := H x23 ex23 lx23 ux23
      refine A_lastoreN d_Page_setNext_91 (hb_s hb21 sf_157) g3.1 g3.2 ?_
      refine A_hn (fun h24 eh24 => ?_)
      have hb25 := hb_l hb21 eh24
      replace H := H h24 eh24
      exact A_vret d_Page_setNext_92 (by decide) rfl H
    · replace H := H.2 c
      refine A_pc (pc' := 33) rfl ?_
      refine A_free (L' := [some (av_R (some 150)), none, some (av_I a2), none, none, none, none, none, none, none, none]) (And.intro rfl (And.intro rfl trivial)) ?_
      exact b_Page_setNext_v_33 ha1   hb0 H
theorem c_Page_setNext_v {G : cx_T} {s : Nat} {a1 : Nat} {a2 : Int} {a3 : Int} (ha1 : isV a1) {h : ah_T} {Q : Option av_T → ah_T → Prop} (hb0 : hb s h) (H : i32 a2 → i32 a3 → B_Page_setNext_v_0 G s a1 a2 a3 h Q ) : con G 1 0 0 m_Page_setNext [av_R (some 150), av_R (some a1), av_I a2, av_I a3] h Q := by
  have hS : isS s := hb0.2.1
  refine con_of (L := [some (av_R (some 150)), some (av_R (some a1)), some (av_I a2), some (av_I a3), none, none, none, none, none, none, none]) (by decide +kernel) (Nat.le_of_ble_eq_true rfl) rfl ?_
  refine A_locI 2 rfl (fun ra2 => ?_)
  refine A_locI 3 rfl (fun ra3 => ?_)
  exact b_Page_setNext_v_0 ha1  hb0 (H ra2 ra3)
def B_Page_earliest_63 (G : cx_T) (s : Nat) (v1 : Int) (v2 : Int) (h : ah_T) (Q : Option av_T → ah_T → Prop) (X4 : Int → Int → ah_T → Prop) : Prop :=
 ((-2147483648) ≤ (v2 + 1) ∧ (v2 + 1) ≤ 2147483647) ∧ X4 (v1) ((v2 + 1)) h
theorem b_Page_earliest_63 {G : cx_T} {s : Nat} {v1 : Int} {v2 : Int} {h : ah_T} {Q : Option av_T → ah_T → Prop} {X4 : Int → Int → ah_T → Prop} (hX4 : ∀ (v1 : Int) (v2 : Int) (h : ah_T), hb s h → X4 v1 v2 h → aw G (rm_R 2 0 0) m_Page_earliest 0 0 4 [some (av_R (some 150)), some (av_I v1), some (av_I v2)] [] h Q) (hb0 : hb s h) (H : B_Page_earliest_63 G s v1 v2 h Q X4) : aw G (rm_R 2 0 0) m_Page_earliest 0 0 63 [some (av_R (some 150)), some (av_I v1), some (av_I v2)] [] h Q := by
  unfold B_Page_earliest_63 at H
  have hS : isS s := hb0.2.1
  have g1 := H.1
  replace H := H.2
  refine A_iincv (z := (v2 + 1)) (L' := [some (av_R (some 150)), some (av_I v1), some (av_I (v2 + 1))]) d_Page_earliest_63 rfl (w32_to (by omega) (by unfold i32; omega)) rfl ?_
  refine A_goto (tgt := 4) d_Page_earliest_66 (by decide) ?_
  refine A_pc (pc' := 4) rfl ?_
  exact hX4 (v1) ((v2 + 1)) h  hb0 H
def B_Page_earliest_61 (G : cx_T) (s : Nat) (v2 : Int) (h : ah_T) (Q : Option av_T → ah_T → Prop) (X4 : Int → Int → ah_T → Prop) : Prop :=
 B_Page_earliest_63 G s (v2) (v2) h Q X4
theorem b_Page_earliest_61 {G : cx_T} {s : Nat} {v2 : Int} {h : ah_T} {Q : Option av_T → ah_T → Prop} {X4 : Int → Int → ah_T → Prop} (hX4 : ∀ (v1 : Int) (v2 : Int) (h : ah_T), hb s h → X4 v1 v2 h → aw G (rm_R 2 0 0) m_Page_earliest 0 0 4 [some (av_R (some 150)), some (av_I v1), some (av_I v2)] [] h Q) (hb0 : hb s h) (H : B_Page_earliest_61 G s v2 h Q X4) : aw G (rm_R 2 0 0) m_Page_earliest 0 0 61 [some (av_R (some 150)), none, some (av_I v2)] [] h Q := by
  unfold B_Page_earliest_61 at H
  have hS : isS s := hb0.2.1
  refine A_iload_n 2 d_Page_earliest_61 rfl rfl ?_
  refine A_istore_n 1 (L' := [some (av_R (some 150)), some (av_I v2), some (av_I v2)]) d_Page_earliest_62 rfl (Nat.le_of_ble_eq_true rfl) rfl ?_
  refine A_pc (pc' := 63) rfl ?_
  exact b_Page_earliest_63  hX4  hb0 H
def B_Page_earliest_4 (G : cx_T) (s : Nat) (v1 : Int) (v2 : Int) (h : ah_T) (Q : Option av_T → ah_T → Prop) (X4 : Int → Int → ah_T → Prop) : Prop :=
 ((4 ≤ v2 → Q (some (av_I v1)) h) ∧ (¬ 4 ≤ v2 → (0 ≤ v2 ∧ v2 < 4) ∧ ∀ x2 : Int, x2 = h.2.2.1 156 (v2).toNat → -9223372036854775808 ≤ x2 → x2 ≤ 9223372036854775807 → ((x2 < 0 → B_Page_earliest_63 G s (v1) (v2) h Q X4) ∧ (¬ x2 < 0 → (0 ≤ v1 ∧ v1 < 4) ∧ ∀ x6 : Int, x6 = h.2.2.1 156 (v1).toNat → -9223372036854775808 ≤ x6 → x6 ≤ 9223372036854775807 → ((x6 < 0 → B_Page_earliest_61 G s (v2) h Q X4) ∧ (¬ x6 < 0 → ∀ x12 : Int, x12 = h.2.2.1 157 (v2).toNat → -9223372036854775808 ≤ x12 → x12 ≤ 9223372036854775807 → ∀ x16 : Int, x16 = h.2.2.1 157 (v1).toNat → -9223372036854775808 ≤ x16 → x16 ≤ 9223372036854775807 → con G 1 0 0 m_PM_compareFractions [av_L x2, av_L x12, av_L x6, av_L x16] h (fun r h17 => ∃ z19 : Int, r = some (av_I z19) ∧ hb s h17 ∧ ((0 ≤ z19 → B_Page_earliest_63 G s (v1) (v2) h17 Q X4) ∧ (¬ 0 ≤ z19 → B_Page_earliest_61 G s (v2) h17 Q X4)))))))))
theorem b_Page_earliest_4 {G : cx_T} {s : Nat} {v1 : Int} {v2 : Int} {h : ah_T} {Q : Option av_T → ah_T → Prop} {X4 : Int → Int → ah_T → Prop} (hX4 : ∀ (v1 : Int) (v2 : Int) (h : ah_T), hb s h → X4 v1 v2 h → aw G (rm_R 2 0 0) m_Page_earliest 0 0 4 [some (av_R (some 150)), some (av_I v1), some (av_I v2)] [] h Q) (hb0 : hb s h) (H : B_Page_earliest_4 G s v1 v2 h Q X4) : aw G (rm_R 2 0 0) m_Page_earliest 0 0 4 [some (av_R (some 150)), some (av_I v1), some (av_I v2)] [] h Q := by
  unfold B_Page_earliest_4 at H
  have hS : isS s := hb0.2.1
  refine A_iload_n 2 d_Page_earliest_4 rfl rfl ?_
  refine A_iconst d_Page_earliest_5 rfl ?_
  refine A_icmp_ge (tgt := 69) d_Page_earliest_6 (by decide) (fun c => ?_) (fun c => ?_)
  · replace H := H.1 c
    refine A_iload_n 1 d_Page_earliest_69 rfl rfl ?_
    exact A_iret d_Page_earliest_70 (by decide) rfl H
  · replace H := H.2 c
    refine A_aload_n 0 d_Page_earliest_9 rfl rfl ?_
    refine A_getAv (z := some 156) T_ok d_Page_earliest_10 f_Page_28 (hb_s hb0 sf_150) (hb_r hb0 rff_150_6) ?_
    refine A_iload_n 2 d_Page_earliest_13 rfl rfl ?_
    have g3 := H.1
    replace H := H.2
    refine A_laloadf d_Page_earliest_14 (hb_s hb0 sf_156) g3.1 g3.2 (fun x2 ex2 lx2 ux2 => ?_)
    replace H := H x2 ex2 lx2 ux2
    refine A_lconst_0 d_Page_earliest_15 ?_
    refine A_pc (pc' := 16) rfl ?_
    refine A_lcmpn d_Page_earliest_16 (fun x4 lx4 ex4 gx4 _ _ => ?_)
    refine A_if_lt (tgt := 63) d_Page_earliest_17 (by decide) (fun c => ?_) (fun c => ?_)
    · replace H := H.1 (by omega)
      refine A_pc (pc' := 63) rfl ?_
      exact b_Page_earliest_63  hX4  hb0 H
    · replace H := H.2 (by omega)
      refine A_aload_n 0 d_Page_earliest_20 rfl rfl ?_
      refine A_getAv (z := some 156) T_ok d_Page_earliest_21 f_Page_28 (hb_s hb0 sf_150) (hb_r hb0 rff_150_6) ?_
      refine A_iload_n 1 d_Page_earliest_24 rfl rfl ?_
      have g7 := H.1
      replace H := H.2
      refine A_laloadf d_Page_earliest_25 (hb_s hb0 sf_156) g7.1 g7.2 (fun x6 ex6 lx6 ux6 => ?_)
      replace H := H x6 ex6 lx6 ux6
      refine A_lconst_0 d_Page_earliest_26 ?_
      refine A_pc (pc' := 27) rfl ?_
      refine A_lcmpn d_Page_earliest_27 (fun x8 lx8 ex8 gx8 _ _ => ?_)
      refine A_if_lt (tgt := 61) d_Page_earliest_28 (by decide) (fun c => ?_) (fun c => ?_)
      · replace H := H.1 (by omega)
        refine A_pc (pc' := 61) rfl ?_
        refine A_free (L' := [some (av_R (some 150)), none, some (av_I v2)]) (And.intro rfl (And.intro rfl trivial)) ?_
        exact b_Page_earliest_61  hX4  hb0 H
      · replace H := H.2 (by omega)
        refine A_aload_n 0 d_Page_earliest_31 rfl rfl ?_
        refine A_getAv (z := some 156) T_ok d_Page_earliest_32 f_Page_28 (hb_s hb0 sf_150) (hb_r hb0 rff_150_6) ?_
        refine A_iload_n 2 d_Page_earliest_35 rfl rfl ?_
        refine A_laloadv (z := x2) d_Page_earliest_36 (hb_s hb0 sf_156) (by omega) (by omega) ex2.symm ?_
        refine A_aload_n 0 d_Page_earliest_37 rfl rfl ?_
        refine A_pc (pc' := 38) rfl ?_
        refine A_getAv (z := some 157) T_ok d_Page_earliest_38 f_Page_31 (hb_s hb0 sf_150) (hb_r hb0 rff_150_7) ?_
        refine A_iload_n 2 d_Page_earliest_41 rfl rfl ?_
        refine A_laloadf d_Page_earliest_42 (hb_s hb0 sf_157) g3.1 g3.2 (fun x12 ex12 lx12 ux12 => ?_)
        replace H := H x12 ex12 lx12 ux12
        refine A_aload_n 0 d_Page_earliest_43 rfl rfl ?_
        refine A_getAv (z := some 156) T_ok d_Page_earliest_44 f_Page_28 (hb_s hb0 sf_150) (hb_r hb0 rff_150_6) ?_
        refine A_iload_n 1 d_Page_earliest_47 rfl rfl ?_
        refine A_pc (pc' := 48) rfl ?_
        refine A_laloadv (z := x6) d_Page_earliest_48 (hb_s hb0 sf_156) (by omega) (by omega) ex6.symm ?_
        refine A_aload_n 0 d_Page_earliest_49 rfl rfl ?_
        refine A_getAv (z := some 157) T_ok d_Page_earliest_50 f_Page_31 (hb_s hb0 sf_150) (hb_r hb0 rff_150_7) ?_
        refine A_iload_n 1 d_Page_earliest_53 rfl rfl ?_
        refine A_laloadf d_Page_earliest_54 (hb_s hb0 sf_157) g7.1 g7.2 (fun x16 ex16 lx16 ux16 => ?_)
        replace H := H x16 ex16 lx16 ux16
        refine A_callS4 m_PM_compareFractions d_Page_earliest_55 l_Page_104 k_PM_compareFractions (by decide +kernel) (by decide) (Nat.le_of_ble_eq_true rfl) H (fun r h17 hq => ?_)
        clear H
        obtain ⟨z19, rfl, hb18, H⟩ := hq
        refine A_if_ge (tgt := 63) d_Page_earliest_58 (by decide) (fun c => ?_) (fun c => ?_)
        · replace H := H.1 c
          refine A_pc (pc' := 63) rfl ?_
          exact b_Page_earliest_63  hX4  hb18 H
        · replace H := H.2 c
          refine A_pc (pc' := 61) rfl ?_
          refine A_free (L' := [some (av_R (some 150)), none, some (av_I v2)]) (And.intro rfl (And.intro rfl trivial)) ?_
          exact b_Page_earliest_61  hX4  hb18 H
theorem lp_Page_earliest_4 {G : cx_T} {s : Nat} {Q : Option av_T → ah_T → Prop} (I : Int → Int → ah_T → Prop) (μ : Int → Int → ah_T → Nat) (hI : ∀ (v1 : Int) (v2 : Int) (h : ah_T), hb s h → I v1 v2 h → B_Page_earliest_4 G s v1 v2 h Q (fun v1' v2' h' => I v1' v2' h' ∧ μ v1' v2' h' < μ v1 v2 h)) : ∀ (v1 : Int) (v2 : Int) (h : ah_T), hb s h → I v1 v2 h → aw G (rm_R 2 0 0) m_Page_earliest 0 0 4 [some (av_R (some 150)), some (av_I v1), some (av_I v2)] [] h Q := by
  have key : ∀ (n : Nat) (v1 : Int) (v2 : Int) (h : ah_T), hb s h → I v1 v2 h → μ v1 v2 h < n → aw G (rm_R 2 0 0) m_Page_earliest 0 0 4 [some (av_R (some 150)), some (av_I v1), some (av_I v2)] [] h Q := by
    intro n
    induction n with
    | zero => intro v1 v2 h  hb0 hi hm; omega
    | succ n ih => intro v1 v2 h  hb0 hi hm; exact b_Page_earliest_4  (fun v1' v2' h'  hb' hx => ih v1' v2' h'  hb' hx.1 (by have := hx.2; omega))  hb0 (hI v1 v2 h  hb0 hi)
  exact fun v1 v2 h  hb0 hi => key _ v1 v2 h  hb0 hi (Nat.lt_succ_self _)
def B_Page_earliest_0 (G : cx_T) (s : Nat) (h : ah_T) (Q : Option av_T → ah_T → Prop) (X4 : Int → Int → ah_T → Prop) : Prop :=
 X4 (0) (1) h
theorem b_Page_earliest_0 {G : cx_T} {s : Nat} {h : ah_T} {Q : Option av_T → ah_T → Prop} {X4 : Int → Int → ah_T → Prop} (hX4 : ∀ (v1 : Int) (v2 : Int) (h : ah_T), hb s h → X4 v1 v2 h → aw G (rm_R 2 0 0) m_Page_earliest 0 0 4 [some (av_R (some 150)), some (av_I v1), some (av_I v2)] [] h Q) (hb0 : hb s h) (H : B_Page_earliest_0 G s h Q X4) : aw G (rm_R 2 0 0) m_Page_earliest 0 0 0 [some (av_R (some 150)), none, none] [] h Q := by
  unfold B_Page_earliest_0 at H
  have hS : isS s := hb0.2.1
  refine A_iconst d_Page_earliest_0 rfl ?_
  refine A_istore_n 1 (L' := [some (av_R (some 150)), some (av_I 0), none]) d_Page_earliest_1 rfl (Nat.le_of_ble_eq_true rfl) rfl ?_
  refine A_iconst d_Page_earliest_2 rfl ?_
  refine A_istore_n 2 (L' := [some (av_R (some 150)), some (av_I 0), some (av_I 1)]) d_Page_earliest_3 rfl (Nat.le_of_ble_eq_true rfl) rfl ?_
  refine A_pc (pc' := 4) rfl ?_
  exact hX4 (0) (1) h  hb0 H
theorem c_Page_earliest {G : cx_T} {s : Nat} {h : ah_T} {Q : Option av_T → ah_T → Prop} {X4 : Int → Int → ah_T → Prop} (hX4 : ∀ (v1 : Int) (v2 : Int) (h : ah_T), hb s h → X4 v1 v2 h → aw G (rm_R 2 0 0) m_Page_earliest 0 0 4 [some (av_R (some 150)), some (av_I v1), some (av_I v2)] [] h Q) (hb0 : hb s h) (H : B_Page_earliest_0 G s h Q X4) : con G 2 0 0 m_Page_earliest [av_R (some 150)] h Q := by
  have hS : isS s := hb0.2.1
  refine con_of (L := [some (av_R (some 150)), none, none]) (by decide +kernel) (Nat.le_of_ble_eq_true rfl) rfl ?_
  exact b_Page_earliest_0  hX4 hb0 (H )
def B_Page_passTime_58 (G : cx_T) (s : Nat) (a1 : Nat) (a2 : Int) (a3 : Int) (a4 : Int) (v7 : Int) (h : ah_T) (Q : Option av_T → ah_T → Prop) (X3 : Int → ah_T → Prop) : Prop :=
 ((-2147483648) ≤ (v7 + 1) ∧ (v7 + 1) ≤ 2147483647) ∧ X3 ((v7 + 1)) h
theorem b_Page_passTime_58 {G : cx_T} {s : Nat} {a1 : Nat} {a2 : Int} {a3 : Int} {a4 : Int} (ha1 : isS a1) {v7 : Int} {h : ah_T} {Q : Option av_T → ah_T → Prop} {X3 : Int → ah_T → Prop} (hX3 : ∀ (v7 : Int) (h : ah_T), hb s h → X3 v7 h → aw G (rm_R 2 0 0) m_Page_passTime 0 0 3 [some (av_R (some 150)), some (av_R (some a1)), some (av_I a2), some (av_L a3), none, some (av_L a4), none, some (av_I v7)] [] h Q) (hb0 : hb s h) (H : B_Page_passTime_58 G s a1 a2 a3 a4 v7 h Q X3) : aw G (rm_R 2 0 0) m_Page_passTime 0 0 58 [some (av_R (some 150)), some (av_R (some a1)), some (av_I a2), some (av_L a3), none, some (av_L a4), none, some (av_I v7)] [] h Q := by
  unfold B_Page_passTime_58 at H
  have hS : isS s := hb0.2.1
  have g1 := H.1
  replace H := H.2
  refine A_iincv (z := (v7 + 1)) (L' := [some (av_R (some 150)), some (av_R (some a1)), some (av_I a2), some (av_L a3), none, some (av_L a4), none, some (av_I (v7 + 1))]) d_Page_passTime_58 rfl (w32_to (by omega) (by unfold i32; omega)) rfl ?_
  refine A_goto (tgt := 3) d_Page_passTime_61 (by decide) ?_
  refine A_pc (pc' := 3) rfl ?_
  exact hX3 ((v7 + 1)) h  hb0 H
def B_Page_passTime_3 (G : cx_T) (s : Nat) (a1 : Nat) (a2 : Int) (a3 : Int) (a4 : Int) (v7 : Int) (h : ah_T) (Q : Option av_T → ah_T → Prop) (X3 : Int → ah_T → Prop) : Prop :=
 ((4 ≤ v7 → Q none h) ∧ (¬ 4 ≤ v7 → (0 ≤ v7 ∧ v7 < 4) ∧ ∀ x2 : Int, x2 = h.2.2.1 156 (v7).toNat → -9223372036854775808 ≤ x2 → x2 ≤ 9223372036854775807 → ((x2 = a3 → ∀ x6 : Int, x6 = h.2.2.1 157 (v7).toNat → -9223372036854775808 ≤ x6 → x6 ≤ 9223372036854775807 → ((x6 = a4 → ∀ x9 : Int, x9 = h.2.1 155 (v7).toNat → -2147483648 ≤ x9 → x9 ≤ 2147483647 → ((-2147483648) ≤ (x9 + 1) ∧ (x9 + 1) ≤ 2147483647) ∧ ∀ h11 : ah_T, h11 = st_i h 155 (v7).toNat (x9 + 1) → con G 0 0 0 m_Score_voiceAt [av_R (some a1), av_I v7] h11 (fun r h13 => ∃ oz15 : Option Nat, r = some (av_R oz15) ∧ hb s h13 ∧ ((oz15 = none ∧ con G 1 0 0 m_Page_setNext [av_R (some 150), av_R none, av_I v7, av_I a2] h13 (fun r h16 => r = none ∧ hb s h16 ∧ B_Page_passTime_58 G s a1 a2 a3 a4 (v7) h16 Q X3)) ∨ ∃ z15 : Nat, oz15 = some z15 ∧ isV z15 ∧ con G 1 0 0 m_Page_setNext [av_R (some 150), av_R (some z15), av_I v7, av_I a2] h13 (fun r h19 => r = none ∧ hb s h19 ∧ B_Page_passTime_58 G s a1 a2 a3 a4 (v7) h19 Q X3)))) ∧ (¬ x6 = a4 → B_Page_passTime_58 G s a1 a2 a3 a4 (v7) h Q X3))) ∧ (¬ x2 = a3 → B_Page_passTime_58 G s a1 a2 a3 a4 (v7) h Q X3))))
theorem b_Page_passTime_3 {G : cx_T} {s : Nat} {a1 : Nat} {a2 : Int} {a3 : Int} {a4 : Int} (ha1 : isS a1) {v7 : Int} {h : ah_T} {Q : Option av_T → ah_T → Prop} {X3 : Int → ah_T → Prop} (hX3 : ∀ (v7 : Int) (h : ah_T), hb s h → X3 v7 h → aw G (rm_R 2 0 0) m_Page_passTime 0 0 3 [some (av_R (some 150)), some (av_R (some a1)), some (av_I a2), some (av_L a3), none, some (av_L a4), none, some (av_I v7)] [] h Q) (hb0 : hb s h) (H : B_Page_passTime_3 G s a1 a2 a3 a4 v7 h Q X3) : aw G (rm_R 2 0 0) m_Page_passTime 0 0 3 [some (av_R (some 150)), some (av_R (some a1)), some (av_I a2), some (av_L a3), none, some (av_L a4), none, some (av_I v7)] [] h Q := by
  unfold B_Page_passTime_3 at H
  have hS : isS s := hb0.2.1
  refine A_iload d_Page_passTime_3 rfl ?_
  refine A_iconst d_Page_passTime_5 rfl ?_
  refine A_icmp_ge (tgt := 64) d_Page_passTime_6 (by decide) (fun c => ?_) (fun c => ?_)
  · replace H := H.1 c
    exact A_vret d_Page_passTime_64 (by decide) rfl H
  · replace H := H.2 c
    refine A_aload_n 0 d_Page_passTime_9 rfl rfl ?_
    refine A_getAv (z := some 156) T_ok d_Page_passTime_10 f_Page_28 (hb_s hb0 sf_150) (hb_r hb0 rff_150_6) ?_
    refine A_iload d_Page_passTime_13 rfl ?_
    have g3 := H.1
    replace H := H.2
    refine A_laloadf d_Page_passTime_15 (hb_s hb0 sf_156) g3.1 g3.2 (fun x2 ex2 lx2 ux2 => ?_)
    replace H := H x2 ex2 lx2 ux2
    refine A_lload_n 3 d_Page_passTime_16 rfl rfl ?_
    refine A_pc (pc' := 17) rfl ?_
    refine A_lcmpn d_Page_passTime_17 (fun x4 lx4 ex4 gx4 _ _ => ?_)
    refine A_if_ne (tgt := 58) d_Page_passTime_18 (by decide) (fun c => ?_) (fun c => ?_)
    · replace H := H.2 (by omega)
      refine A_pc (pc' := 58) rfl ?_
      exact b_Page_passTime_58 ha1 hX3  hb0 H
    · replace H := H.1 (by omega)
      refine A_aload_n 0 d_Page_passTime_21 rfl rfl ?_
      refine A_getAv (z := some 157) T_ok d_Page_passTime_22 f_Page_31 (hb_s hb0 sf_150) (hb_r hb0 rff_150_7) ?_
      refine A_iload d_Page_passTime_25 rfl ?_
      refine A_laloadf d_Page_passTime_27 (hb_s hb0 sf_157) g3.1 g3.2 (fun x6 ex6 lx6 ux6 => ?_)
      replace H := H x6 ex6 lx6 ux6
      refine A_lload d_Page_passTime_28 rfl ?_
      refine A_pc (pc' := 30) rfl ?_
      refine A_lcmpn d_Page_passTime_30 (fun x7 lx7 ex7 gx7 _ _ => ?_)
      refine A_if_ne (tgt := 58) d_Page_passTime_31 (by decide) (fun c => ?_) (fun c => ?_)
      · replace H := H.2 (by omega)
        refine A_pc (pc' := 58) rfl ?_
        exact b_Page_passTime_58 ha1 hX3  hb0 H
      · replace H := H.1 (by omega)
        refine A_aload_n 0 d_Page_passTime_34 rfl rfl ?_
        refine A_getAv (z := some 155) T_ok d_Page_passTime_35 f_Page_25 (hb_s hb0 sf_150) (hb_r hb0 rff_150_5) ?_
        refine A_iload d_Page_passTime_38 rfl ?_
        refine A_dup2RI d_Page_passTime_40 ?_
        refine A_ialoadf d_Page_passTime_41 (hb_s hb0 sf_155) g3.1 g3.2 (fun x9 ex9 lx9 ux9 => ?_)
        replace H := H x9 ex9 lx9 ux9
        refine A_pc (pc' := 42) rfl ?_
        refine A_iconst d_Page_passTime_42 rfl ?_
        have g10 := H.1
        replace H := H.2
        refine A_iaddv (z := (x9 + 1)) d_Page_passTime_43 (w32_to (by omega) (by unfold i32; omega)) ?_
        refine A_iastoreN d_Page_passTime_44 (hb_s hb0 sf_155) g3.1 g3.2 ?_
        refine A_hn (fun h11 eh11 => ?_)
        have hb12 := hb_i hb0 eh11
        replace H := H h11 eh11
        refine A_aload_n 0 d_Page_passTime_45 rfl rfl ?_
        refine A_aload_n 1 d_Page_passTime_46 rfl rfl ?_
        refine A_iload d_Page_passTime_47 rfl ?_
        refine A_pc (pc' := 49) rfl ?_
        refine A_callV1 m_Score_voiceAt T_ok d_Page_passTime_49 l_Page_61 k_Score_voiceAt (hs_S hb12 ha1) rfl (by decide +kernel) (by decide) (Nat.le_of_ble_eq_true rfl) H (fun r h13 hq => ?_)
        clear H
        obtain ⟨oz15, rfl, hb14, H⟩ := hq
        rcases H with ⟨H1, H⟩ | ⟨z15, H1, tz15, H⟩
        · subst H1
          refine A_iload d_Page_passTime_52 rfl ?_
          refine A_iload_n 2 d_Page_passTime_54 rfl rfl ?_
          refine A_callV3 m_Page_setNext T_ok d_Page_passTime_55 l_Page_80 k_Page_setNext (hb_s hb14 sf_150) rfl (by decide +kernel) (by decide) (Nat.le_of_ble_eq_true rfl) H (fun r h16 hq => ?_)
          clear H
          obtain ⟨rfl, hb17, H⟩ := hq
          refine A_pc (pc' := 58) rfl ?_
          exact b_Page_passTime_58 ha1 hX3  hb17 H
        · subst H1
          refine A_iload d_Page_passTime_52 rfl ?_
          refine A_iload_n 2 d_Page_passTime_54 rfl rfl ?_
          refine A_callV3 m_Page_setNext T_ok d_Page_passTime_55 l_Page_80 k_Page_setNext (hb_s hb14 sf_150) rfl (by decide +kernel) (by decide) (Nat.le_of_ble_eq_true rfl) H (fun r h19 hq => ?_)
          clear H
          obtain ⟨rfl, hb20, H⟩ := hq
          refine A_pc (pc' := 58) rfl ?_
          exact b_Page_passTime_58 ha1 hX3  hb20 H
theorem lp_Page_passTime_3 {G : cx_T} {s : Nat} {a1 : Nat} {a2 : Int} {a3 : Int} {a4 : Int} (ha1 : isS a1) {Q : Option av_T → ah_T → Prop} (I : Int → ah_T → Prop) (μ : Int → ah_T → Nat) (hI : ∀ (v7 : Int) (h : ah_T), hb s h → I v7 h → B_Page_passTime_3 G s a1 a2 a3 a4 v7 h Q (fun v7' h' => I v7' h' ∧ μ v7' h' < μ v7 h)) : ∀ (v7 : Int) (h : ah_T), hb s h → I v7 h → aw G (rm_R 2 0 0) m_Page_passTime 0 0 3 [some (av_R (some 150)), some (av_R (some a1)), some (av_I a2), some (av_L a3), none, some (av_L a4), none, some (av_I v7)] [] h Q := by
  have key : ∀ (n : Nat) (v7 : Int) (h : ah_T), hb s h → I v7 h → μ v7 h < n → aw G (rm_R 2 0 0) m_Page_passTime 0 0 3 [some (av_R (some 150)), some (av_R (some a1)), some (av_I a2), some (av_L a3), none, some (av_L a4), none, some (av_I v7)] [] h Q := by
    intro n
    induction n with
    | zero => intro v7 h  hb0 hi hm; omega
    | succ n ih => intro v7 h  hb0 hi hm; exact b_Page_passTime_3 ha1 (fun v7' h'  hb' hx => ih v7' h'  hb' hx.1 (by have := hx.2; omega))  hb0 (hI v7 h  hb0 hi)
  exact fun v7 h  hb0 hi => key _ v7 h  hb0 hi (Nat.lt_succ_self _)
def B_Page_passTime_0 (G : cx_T) (s : Nat) (a1 : Nat) (a2 : Int) (a3 : Int) (a4 : Int) (h : ah_T) (Q : Option av_T → ah_T → Prop) (X3 : Int → ah_T → Prop) : Prop :=
 X3 (0) h
theorem b_Page_passTime_0 {G : cx_T} {s : Nat} {a1 : Nat} {a2 : Int} {a3 : Int} {a4 : Int} (ha1 : isS a1) {h : ah_T} {Q : Option av_T → ah_T → Prop} {X3 : Int → ah_T → Prop} (hX3 : ∀ (v7 : Int) (h : ah_T), hb s h → X3 v7 h → aw G (rm_R 2 0 0) m_Page_passTime 0 0 3 [some (av_R (some 150)), some (av_R (some a1)), some (av_I a2), some (av_L a3), none, some (av_L a4), none, some (av_I v7)] [] h Q) (hb0 : hb s h) (H : B_Page_passTime_0 G s a1 a2 a3 a4 h Q X3) : aw G (rm_R 2 0 0) m_Page_passTime 0 0 0 [some (av_R (some 150)), some (av_R (some a1)), some (av_I a2), some (av_L a3), none, some (av_L a4), none, none] [] h Q := by
  unfold B_Page_passTime_0 at H
  have hS : isS s := hb0.2.1
  refine A_iconst d_Page_passTime_0 rfl ?_
  refine A_istore (L' := [some (av_R (some 150)), some (av_R (some a1)), some (av_I a2), some (av_L a3), none, some (av_L a4), none, some (av_I 0)]) d_Page_passTime_1 (Nat.le_of_ble_eq_true rfl) rfl ?_
  refine A_pc (pc' := 3) rfl ?_
  exact hX3 (0) h  hb0 H
theorem c_Page_passTime {G : cx_T} {s : Nat} {a1 : Nat} {a2 : Int} {a3 : Int} {a4 : Int} (ha1 : isS a1) {h : ah_T} {Q : Option av_T → ah_T → Prop} {X3 : Int → ah_T → Prop} (hX3 : ∀ (v7 : Int) (h : ah_T), hb s h → X3 v7 h → aw G (rm_R 2 0 0) m_Page_passTime 0 0 3 [some (av_R (some 150)), some (av_R (some a1)), some (av_I a2), some (av_L a3), none, some (av_L a4), none, some (av_I v7)] [] h Q) (hb0 : hb s h) (H : i32 a2 → i64 a3 → i64 a4 → B_Page_passTime_0 G s a1 a2 a3 a4 h Q X3) : con G 2 0 0 m_Page_passTime [av_R (some 150), av_R (some a1), av_I a2, av_L a3, av_L a4] h Q := by
  have hS : isS s := hb0.2.1
  refine con_of (L := [some (av_R (some 150)), some (av_R (some a1)), some (av_I a2), some (av_L a3), none, some (av_L a4), none, none]) (by decide +kernel) (Nat.le_of_ble_eq_true rfl) rfl ?_
  refine A_locI 2 rfl (fun ra2 => ?_)
  refine A_locL 3 rfl (fun ra3 => ?_)
  refine A_locL 5 rfl (fun ra5 => ?_)
  exact b_Page_passTime_0 ha1 hX3 hb0 (H ra2 ra3 ra5)
def B_Page_timesIn_64 (G : cx_T) (s : Nat) (a1 : Nat) (a2 : Int) (v3 : Int) (v4 : Int) (h : ah_T) (Q : Option av_T → ah_T → Prop) (X64 : Int → Int → ah_T → Prop) : Prop :=
 ((1200 ≤ v4 → Q (some (av_I v3)) h) ∧ (¬ 1200 ≤ v4 → con G 2 0 0 m_Page_earliest [av_R (some 150)] h (fun r h1 => ∃ z3 : Int, r = some (av_I z3) ∧ hb s h1 ∧ (0 ≤ z3 ∧ z3 < 4) ∧ ∀ x5 : Int, x5 = h1.2.2.1 156 (z3).toNat → -9223372036854775808 ≤ x5 → x5 ≤ 9223372036854775807 → ((0 ≤ x5 → ((-2147483648) ≤ (v3 + 1) ∧ (v3 + 1) ≤ 2147483647) ∧ ∀ x12 : Int, x12 = h1.2.2.1 157 (z3).toNat → -9223372036854775808 ≤ x12 → x12 ≤ 9223372036854775807 → con G 2 0 0 m_Page_passTime [av_R (some 150), av_R (some a1), av_I a2, av_L x5, av_L x12] h1 (fun r h13 => r = none ∧ hb s h13 ∧ ((-2147483648) ≤ (v4 + 1) ∧ (v4 + 1) ≤ 2147483647) ∧ X64 ((v3 + 1)) ((v4 + 1)) h13)) ∧ (¬ 0 ≤ x5 → Q (some (av_I v3)) h1)))))
theorem b_Page_timesIn_64 {G : cx_T} {s : Nat} {a1 : Nat} {a2 : Int} (ha1 : isS a1) {v3 : Int} {v4 : Int} {h : ah_T} {Q : Option av_T → ah_T → Prop} {X64 : Int → Int → ah_T → Prop} (hX64 : ∀ (v3 : Int) (v4 : Int) (h : ah_T), hb s h → X64 v3 v4 h → aw G (rm_R 3 0 0) m_Page_timesIn 0 0 64 [some (av_R (some 150)), some (av_R (some a1)), some (av_I a2), some (av_I v3), some (av_I v4), none] [] h Q) (hb0 : hb s h) (H : B_Page_timesIn_64 G s a1 a2 v3 v4 h Q X64) : aw G (rm_R 3 0 0) m_Page_timesIn 0 0 64 [some (av_R (some 150)), some (av_R (some a1)), some (av_I a2), some (av_I v3), some (av_I v4), none] [] h Q := by
  unfold B_Page_timesIn_64 at H
  have hS : isS s := hb0.2.1
  refine A_iload d_Page_timesIn_64 rfl ?_
  refine A_sipush d_Page_timesIn_66 rfl ?_
  refine A_icmp_ge (tgt := 121) d_Page_timesIn_69 (by decide) (fun c => ?_) (fun c => ?_)
  · replace H := H.1 c
    refine A_iload_n 3 d_Page_timesIn_121 rfl rfl ?_
    exact A_iret d_Page_timesIn_122 (by decide) rfl H
  · replace H := H.2 c
    refine A_aload_n 0 d_Page_timesIn_72 rfl rfl ?_
    refine A_callV0 m_Page_earliest T_ok d_Page_timesIn_73 l_Page_84 k_Page_earliest (hb_s hb0 sf_150) rfl (by decide +kernel) (by decide) (Nat.le_of_ble_eq_true rfl) H (fun r h1 hq => ?_)
    clear H
    obtain ⟨z3, rfl, hb2, H⟩ := hq
    refine A_istore (L' := [some (av_R (some 150)), some (av_R (some a1)), some (av_I a2), some (av_I v3), some (av_I v4), some (av_I z3)]) d_Page_timesIn_76 (Nat.le_of_ble_eq_true rfl) rfl ?_
    refine A_aload_n 0 d_Page_timesIn_78 rfl rfl ?_
    refine A_getAv (z := some 156) T_ok d_Page_timesIn_79 f_Page_28 (hb_s hb2 sf_150) (hb_r hb2 rff_150_6) ?_
    refine A_iload d_Page_timesIn_82 rfl ?_
    have g6 := H.1
    replace H := H.2
    refine A_laloadf d_Page_timesIn_84 (hb_s hb2 sf_156) g6.1 g6.2 (fun x5 ex5 lx5 ux5 => ?_)
    replace H := H x5 ex5 lx5 ux5
    refine A_pc (pc' := 85) rfl ?_
    refine A_lconst_0 d_Page_timesIn_85 ?_
    refine A_lcmpn d_Page_timesIn_86 (fun x7 lx7 ex7 gx7 _ _ => ?_)
    refine A_if_ge (tgt := 92) d_Page_timesIn_87 (by decide) (fun c => ?_) (fun c => ?_)
    · replace H := H.1 (by omega)
      have g8 := H.1
      replace H := H.2
      refine A_iincv (z := (v3 + 1)) (L' := [some (av_R (some 150)), some (av_R (some a1)), some (av_I a2), some (av_I (v3 + 1)), some (av_I v4), some (av_I z3)]) d_Page_timesIn_92 rfl (w32_to (by omega) (by unfold i32; omega)) rfl ?_
      refine A_aload_n 0 d_Page_timesIn_95 rfl rfl ?_
      refine A_aload_n 1 d_Page_timesIn_96 rfl rfl ?_
      refine A_iload_n 2 d_Page_timesIn_97 rfl rfl ?_
      refine A_aload_n 0 d_Page_timesIn_98 rfl rfl ?_
      refine A_pc (pc' := 99) rfl ?_
      refine A_getAv (z := some 156) T_ok d_Page_timesIn_99 f_Page_28 (hb_s hb2 sf_150) (hb_r hb2 rff_150_6) ?_
      refine A_iload d_Page_timesIn_102 rfl ?_
      refine A_laloadv (z := x5) d_Page_timesIn_104 (hb_s hb2 sf_156) (by omega) (by omega) ex5.symm ?_
      refine A_aload_n 0 d_Page_timesIn_105 rfl rfl ?_
      refine A_getAv (z := some 157) T_ok d_Page_timesIn_106 f_Page_31 (hb_s hb2 sf_150) (hb_r hb2 rff_150_7) ?_
      refine A_iload d_Page_timesIn_109 rfl ?_
      refine A_pc (pc' := 111) rfl ?_
      refine A_laloadf d_Page_timesIn_111 (hb_s hb2 sf_157) g6.1 g6.2 (fun x12 ex12 lx12 ux12 => ?_)
      replace H := H x12 ex12 lx12 ux12
      refine A_callV4 m_Page_passTime T_ok d_Page_timesIn_112 l_Page_87 k_Page_passTime (hb_s hb2 sf_150) rfl (by decide +kernel) (by decide) (Nat.le_of_ble_eq_true rfl) H (fun r h13 hq => ?_)
      clear H
      obtain ⟨rfl, hb14, H⟩ := hq
      have g16 := H.1
      replace H := H.2
      refine A_iincv (z := (v4 + 1)) (L' := [some (av_R (some 150)), some (av_R (some a1)), some (av_I a2), some (av_I (v3 + 1)), some (av_I (v4 + 1)), some (av_I z3)]) d_Page_timesIn_115 rfl (w32_to (by omega) (by unfold i32; omega)) rfl ?_
      refine A_goto (tgt := 64) d_Page_timesIn_118 (by decide) ?_
      refine A_pc (pc' := 64) rfl ?_
      refine A_free (L' := [some (av_R (some 150)), some (av_R (some a1)), some (av_I a2), some (av_I (v3 + 1)), some (av_I (v4 + 1)), none]) (And.intro rfl (And.intro rfl (And.intro rfl (And.intro rfl (And.intro rfl trivial))))) ?_
      exact hX64 ((v3 + 1)) ((v4 + 1)) h13  hb14 H
    · replace H := H.2 (by omega)
      refine A_iload_n 3 d_Page_timesIn_90 rfl rfl ?_
      exact A_iret d_Page_timesIn_91 (by decide) rfl H
theorem lp_Page_timesIn_64 {G : cx_T} {s : Nat} {a1 : Nat} {a2 : Int} (ha1 : isS a1) {Q : Option av_T → ah_T → Prop} (I : Int → Int → ah_T → Prop) (μ : Int → Int → ah_T → Nat) (hI : ∀ (v3 : Int) (v4 : Int) (h : ah_T), hb s h → I v3 v4 h → B_Page_timesIn_64 G s a1 a2 v3 v4 h Q (fun v3' v4' h' => I v3' v4' h' ∧ μ v3' v4' h' < μ v3 v4 h)) : ∀ (v3 : Int) (v4 : Int) (h : ah_T), hb s h → I v3 v4 h → aw G (rm_R 3 0 0) m_Page_timesIn 0 0 64 [some (av_R (some 150)), some (av_R (some a1)), some (av_I a2), some (av_I v3), some (av_I v4), none] [] h Q := by
  have key : ∀ (n : Nat) (v3 : Int) (v4 : Int) (h : ah_T), hb s h → I v3 v4 h → μ v3 v4 h < n → aw G (rm_R 3 0 0) m_Page_timesIn 0 0 64 [some (av_R (some 150)), some (av_R (some a1)), some (av_I a2), some (av_I v3), some (av_I v4), none] [] h Q := by
    intro n
    induction n with
    | zero => intro v3 v4 h  hb0 hi hm; omega
    | succ n ih => intro v3 v4 h  hb0 hi hm; exact b_Page_timesIn_64 ha1 (fun v3' v4' h'  hb' hx => ih v3' v4' h'  hb' hx.1 (by have := hx.2; omega))  hb0 (hI v3 v4 h  hb0 hi)
  exact fun v3 v4 h  hb0 hi => key _ v3 v4 h  hb0 hi (Nat.lt_succ_self _)
def B_Page_timesIn_2 (G : cx_T) (s : Nat) (a1 : Nat) (a2 : Int) (v3 : Int) (h : ah_T) (Q : Option av_T → ah_T → Prop) (X2 : Int → ah_T → Prop) (X64 : Int → Int → ah_T → Prop) : Prop :=
 ((4 ≤ v3 → X64 (0) (0) h) ∧ (¬ 4 ≤ v3 → con G 0 0 0 m_Score_voiceAt [av_R (some a1), av_I v3] h (fun r h1 => ∃ oz3 : Option Nat, r = some (av_R oz3) ∧ hb s h1 ∧ ((oz3 = none ∧ (0 ≤ v3 ∧ v3 < 4) ∧ ∀ h6 : ah_T, h6 = st_i h1 155 (v3).toNat 0 → con G 1 0 0 m_Page_setNext [av_R (some 150), av_R none, av_I v3, av_I a2] h6 (fun r h8 => r = none ∧ hb s h8 ∧ ((-2147483648) ≤ (v3 + 1) ∧ (v3 + 1) ≤ 2147483647) ∧ X2 ((v3 + 1)) h8)) ∨ ∃ z3 : Nat, oz3 = some z3 ∧ isV z3 ∧ ∀ x13 : Int, x13 = h1.2.1 z3 16 → -2147483648 ≤ x13 → x13 ≤ 2147483647 → ((a2 < x13 → (0 ≤ a2 ∧ a2 < 102) ∧ ∀ x15 : Int, x15 = h1.2.1 (z3 + 13) (a2).toNat → -2147483648 ≤ x15 → x15 ≤ 2147483647 → (0 ≤ v3 ∧ v3 < 4) ∧ ∀ h18 : ah_T, h18 = st_i h1 155 (v3).toNat x15 → con G 1 0 0 m_Page_setNext [av_R (some 150), av_R (some z3), av_I v3, av_I a2] h18 (fun r h20 => r = none ∧ hb s h20 ∧ ((-2147483648) ≤ (v3 + 1) ∧ (v3 + 1) ≤ 2147483647) ∧ X2 ((v3 + 1)) h20)) ∧ (¬ a2 < x13 → (0 ≤ v3 ∧ v3 < 4) ∧ ∀ h25 : ah_T, h25 = st_i h1 155 (v3).toNat 0 → con G 1 0 0 m_Page_setNext [av_R (some 150), av_R (some z3), av_I v3, av_I a2] h25 (fun r h27 => r = none ∧ hb s h27 ∧ ((-2147483648) ≤ (v3 + 1) ∧ (v3 + 1) ≤ 2147483647) ∧ X2 ((v3 + 1)) h27)))))))
theorem b_Page_timesIn_2 {G : cx_T} {s : Nat} {a1 : Nat} {a2 : Int} (ha1 : isS a1) {v3 : Int} {h : ah_T} {Q : Option av_T → ah_T → Prop} {X2 : Int → ah_T → Prop} {X64 : Int → Int → ah_T → Prop} (hX2 : ∀ (v3 : Int) (h : ah_T), hb s h → X2 v3 h → aw G (rm_R 3 0 0) m_Page_timesIn 0 0 2 [some (av_R (some 150)), some (av_R (some a1)), some (av_I a2), some (av_I v3), none, none] [] h Q) (hX64 : ∀ (v3 : Int) (v4 : Int) (h : ah_T), hb s h → X64 v3 v4 h → aw G (rm_R 3 0 0) m_Page_timesIn 0 0 64 [some (av_R (some 150)), some (av_R (some a1)), some (av_I a2), some (av_I v3), some (av_I v4), none] [] h Q) (hb0 : hb s h) (H : B_Page_timesIn_2 G s a1 a2 v3 h Q X2 X64) : aw G (rm_R 3 0 0) m_Page_timesIn 0 0 2 [some (av_R (some 150)), some (av_R (some a1)), some (av_I a2), some (av_I v3), none, none] [] h Q := by
  unfold B_Page_timesIn_2 at H
  have hS : isS s := hb0.2.1
  refine A_iload_n 3 d_Page_timesIn_2 rfl rfl ?_
  refine A_iconst d_Page_timesIn_3 rfl ?_
  refine A_icmp_ge (tgt := 59) d_Page_timesIn_4 (by decide) (fun c => ?_) (fun c => ?_)
  · replace H := H.1 c
    refine A_iconst d_Page_timesIn_59 rfl ?_
    refine A_istore_n 3 (L' := [some (av_R (some 150)), some (av_R (some a1)), some (av_I a2), some (av_I 0), none, none]) d_Page_timesIn_60 rfl (Nat.le_of_ble_eq_true rfl) rfl ?_
    refine A_iconst d_Page_timesIn_61 rfl ?_
    refine A_istore (L' := [some (av_R (some 150)), some (av_R (some a1)), some (av_I a2), some (av_I 0), some (av_I 0), none]) d_Page_timesIn_62 (Nat.le_of_ble_eq_true rfl) rfl ?_
    refine A_pc (pc' := 64) rfl ?_
    exact hX64 (0) (0) h  hb0 H
  · replace H := H.2 c
    refine A_aload_n 1 d_Page_timesIn_7 rfl rfl ?_
    refine A_iload_n 3 d_Page_timesIn_8 rfl rfl ?_
    refine A_callV1 m_Score_voiceAt T_ok d_Page_timesIn_9 l_Page_61 k_Score_voiceAt (hs_S hb0 ha1) rfl (by decide +kernel) (by decide) (Nat.le_of_ble_eq_true rfl) H (fun r h1 hq => ?_)
    clear H
    obtain ⟨oz3, rfl, hb2, H⟩ := hq
    rcases H with ⟨H1, H⟩ | ⟨z3, H1, tz3, H⟩
    · subst H1
      refine A_astore (L' := [some (av_R (some 150)), some (av_R (some a1)), some (av_I a2), some (av_I v3), some (av_R none), none]) d_Page_timesIn_12 (Nat.le_of_ble_eq_true rfl) rfl ?_
      refine A_aload_n 0 d_Page_timesIn_14 rfl rfl ?_
      refine A_getAv (z := some 155) T_ok d_Page_timesIn_15 f_Page_25 (hb_s hb2 sf_150) (hb_r hb2 rff_150_5) ?_
      refine A_iload_n 3 d_Page_timesIn_18 rfl rfl ?_
      refine A_aload d_Page_timesIn_19 rfl ?_
      refine A_pc (pc' := 21) rfl ?_
      refine A_ifnull (tgt := 33) d_Page_timesIn_21 (by decide) (fun _ => ?_) (fun a q => by cases q)
      refine A_iconst d_Page_timesIn_33 rfl ?_
      refine A_goto (tgt := 44) d_Page_timesIn_34 (by decide) ?_
      have g5 := H.1
      replace H := H.2
      refine A_iastoreN d_Page_timesIn_44 (hb_s hb2 sf_155) g5.1 g5.2 ?_
      refine A_hn (fun h6 eh6 => ?_)
      have hb7 := hb_i hb2 eh6
      replace H := H h6 eh6
      refine A_aload_n 0 d_Page_timesIn_45 rfl rfl ?_
      refine A_aload d_Page_timesIn_46 rfl ?_
      refine A_iload_n 3 d_Page_timesIn_48 rfl rfl ?_
      refine A_iload_n 2 d_Page_timesIn_49 rfl rfl ?_
      refine A_pc (pc' := 50) rfl ?_
      refine A_callV3 m_Page_setNext T_ok d_Page_timesIn_50 l_Page_80 k_Page_setNext (hb_s hb7 sf_150) rfl (by decide +kernel) (by decide) (Nat.le_of_ble_eq_true rfl) H (fun r h8 hq => ?_)
      clear H
      obtain ⟨rfl, hb9, H⟩ := hq
      have g11 := H.1
      replace H := H.2
      refine A_iincv (z := (v3 + 1)) (L' := [some (av_R (some 150)), some (av_R (some a1)), some (av_I a2), some (av_I (v3 + 1)), some (av_R none), none]) d_Page_timesIn_53 rfl (w32_to (by omega) (by unfold i32; omega)) rfl ?_
      refine A_goto (tgt := 2) d_Page_timesIn_56 (by decide) ?_
      refine A_pc (pc' := 2) rfl ?_
      refine A_free (L' := [some (av_R (some 150)), some (av_R (some a1)), some (av_I a2), some (av_I (v3 + 1)), none, none]) (And.intro rfl (And.intro rfl (And.intro rfl (And.intro rfl trivial)))) ?_
      exact hX2 ((v3 + 1)) h8  hb9 H
    · subst H1
      refine A_astore (L' := [some (av_R (some 150)), some (av_R (some a1)), some (av_I a2), some (av_I v3), some (av_R (some z3)), none]) d_Page_timesIn_12 (Nat.le_of_ble_eq_true rfl) rfl ?_
      refine A_aload_n 0 d_Page_timesIn_14 rfl rfl ?_
      refine A_getAv (z := some 155) T_ok d_Page_timesIn_15 f_Page_25 (hb_s hb2 sf_150) (hb_r hb2 rff_150_5) ?_
      refine A_iload_n 3 d_Page_timesIn_18 rfl rfl ?_
      refine A_aload d_Page_timesIn_19 rfl ?_
      refine A_pc (pc' := 21) rfl ?_
      refine A_ifnull (tgt := 33) d_Page_timesIn_21 (by decide) (fun q => by cases q) (fun _ _ => ?_)
      refine A_iload_n 2 d_Page_timesIn_24 rfl rfl ?_
      refine A_aload d_Page_timesIn_25 rfl ?_
      refine A_getIf T_ok d_Page_timesIn_27 f_Page_65 (hs_V hb2 tz3) (fun x13 ex13 lx13 ux13 => ?_)
      replace H := H x13 ex13 lx13 ux13
      refine A_icmp_lt (tgt := 37) d_Page_timesIn_30 (by decide) (fun c => ?_) (fun c => ?_)
      · replace H := H.1 c
        refine A_aload d_Page_timesIn_37 rfl ?_
        refine A_getAv (z := some (z3 + 13)) T_ok d_Page_timesIn_39 f_Page_70 (hs_V hb2 tz3) (hr_V_15 hb2 tz3) ?_
        refine A_iload_n 2 d_Page_timesIn_42 rfl rfl ?_
        have g16 := H.1
        replace H := H.2
        refine A_ialoadf d_Page_timesIn_43 (hs_V_15 hb2 tz3) g16.1 g16.2 (fun x15 ex15 lx15 ux15 => ?_)
        replace H := H x15 ex15 lx15 ux15
        have g17 := H.1
        replace H := H.2
        refine A_iastoreN d_Page_timesIn_44 (hb_s hb2 sf_155) g17.1 g17.2 ?_
        refine A_hn (fun h18 eh18 => ?_)
        have hb19 := hb_i hb2 eh18
        replace H := H h18 eh18
        refine A_pc (pc' := 45) rfl ?_
        refine A_aload_n 0 d_Page_timesIn_45 rfl rfl ?_
        refine A_aload d_Page_timesIn_46 rfl ?_
        refine A_iload_n 3 d_Page_timesIn_48 rfl rfl ?_
        refine A_iload_n 2 d_Page_timesIn_49 rfl rfl ?_
        refine A_callV3 m_Page_setNext T_ok d_Page_timesIn_50 l_Page_80 k_Page_setNext (hb_s hb19 sf_150) rfl (by decide +kernel) (by decide) (Nat.le_of_ble_eq_true rfl) H (fun r h20 hq => ?_)
        clear H
        obtain ⟨rfl, hb21, H⟩ := hq
        have g23 := H.1
        replace H := H.2
        refine A_iincv (z := (v3 + 1)) (L' := [some (av_R (some 150)), some (av_R (some a1)), some (av_I a2), some (av_I (v3 + 1)), some (av_R (some z3)), none]) d_Page_timesIn_53 rfl (w32_to (by omega) (by unfold i32; omega)) rfl ?_
        refine A_goto (tgt := 2) d_Page_timesIn_56 (by decide) ?_
        refine A_pc (pc' := 2) rfl ?_
        refine A_free (L' := [some (av_R (some 150)), some (av_R (some a1)), some (av_I a2), some (av_I (v3 + 1)), none, none]) (And.intro rfl (And.intro rfl (And.intro rfl (And.intro rfl trivial)))) ?_
        exact hX2 ((v3 + 1)) h20  hb21 H
      · replace H := H.2 c
        refine A_iconst d_Page_timesIn_33 rfl ?_
        refine A_goto (tgt := 44) d_Page_timesIn_34 (by decide) ?_
        have g24 := H.1
        replace H := H.2
        refine A_iastoreN d_Page_timesIn_44 (hb_s hb2 sf_155) g24.1 g24.2 ?_
        refine A_hn (fun h25 eh25 => ?_)
        have hb26 := hb_i hb2 eh25
        replace H := H h25 eh25
        refine A_aload_n 0 d_Page_timesIn_45 rfl rfl ?_
        refine A_aload d_Page_timesIn_46 rfl ?_
        refine A_iload_n 3 d_Page_timesIn_48 rfl rfl ?_
        refine A_iload_n 2 d_Page_timesIn_49 rfl rfl ?_
        refine A_pc (pc' := 50) rfl ?_
        refine A_callV3 m_Page_setNext T_ok d_Page_timesIn_50 l_Page_80 k_Page_setNext (hb_s hb26 sf_150) rfl (by decide +kernel) (by decide) (Nat.le_of_ble_eq_true rfl) H (fun r h27 hq => ?_)
        clear H
        obtain ⟨rfl, hb28, H⟩ := hq
        have g30 := H.1
        replace H := H.2
        refine A_iincv (z := (v3 + 1)) (L' := [some (av_R (some 150)), some (av_R (some a1)), some (av_I a2), some (av_I (v3 + 1)), some (av_R (some z3)), none]) d_Page_timesIn_53 rfl (w32_to (by omega) (by unfold i32; omega)) rfl ?_
        refine A_goto (tgt := 2) d_Page_timesIn_56 (by decide) ?_
        refine A_pc (pc' := 2) rfl ?_
        refine A_free (L' := [some (av_R (some 150)), some (av_R (some a1)), some (av_I a2), some (av_I (v3 + 1)), none, none]) (And.intro rfl (And.intro rfl (And.intro rfl (And.intro rfl trivial)))) ?_
        exact hX2 ((v3 + 1)) h27  hb28 H
theorem lp_Page_timesIn_2 {G : cx_T} {s : Nat} {a1 : Nat} {a2 : Int} (ha1 : isS a1) {Q : Option av_T → ah_T → Prop} {X64 : Int → Int → ah_T → Prop} (hX64 : ∀ (v3 : Int) (v4 : Int) (h : ah_T), hb s h → X64 v3 v4 h → aw G (rm_R 3 0 0) m_Page_timesIn 0 0 64 [some (av_R (some 150)), some (av_R (some a1)), some (av_I a2), some (av_I v3), some (av_I v4), none] [] h Q) (I : Int → ah_T → Prop) (μ : Int → ah_T → Nat) (hI : ∀ (v3 : Int) (h : ah_T), hb s h → I v3 h → B_Page_timesIn_2 G s a1 a2 v3 h Q (fun v3' h' => I v3' h' ∧ μ v3' h' < μ v3 h) X64) : ∀ (v3 : Int) (h : ah_T), hb s h → I v3 h → aw G (rm_R 3 0 0) m_Page_timesIn 0 0 2 [some (av_R (some 150)), some (av_R (some a1)), some (av_I a2), some (av_I v3), none, none] [] h Q := by
  have key : ∀ (n : Nat) (v3 : Int) (h : ah_T), hb s h → I v3 h → μ v3 h < n → aw G (rm_R 3 0 0) m_Page_timesIn 0 0 2 [some (av_R (some 150)), some (av_R (some a1)), some (av_I a2), some (av_I v3), none, none] [] h Q := by
    intro n
    induction n with
    | zero => intro v3 h  hb0 hi hm; omega
    | succ n ih => intro v3 h  hb0 hi hm; exact b_Page_timesIn_2 ha1 (fun v3' h'  hb' hx => ih v3' h'  hb' hx.1 (by have := hx.2; omega)) hX64  hb0 (hI v3 h  hb0 hi)
  exact fun v3 h  hb0 hi => key _ v3 h  hb0 hi (Nat.lt_succ_self _)
def B_Page_timesIn_0 (G : cx_T) (s : Nat) (a1 : Nat) (a2 : Int) (h : ah_T) (Q : Option av_T → ah_T → Prop) (X2 : Int → ah_T → Prop) : Prop :=
 X2 (0) h
theorem b_Page_timesIn_0 {G : cx_T} {s : Nat} {a1 : Nat} {a2 : Int} (ha1 : isS a1) {h : ah_T} {Q : Option av_T → ah_T → Prop} {X2 : Int → ah_T → Prop} (hX2 : ∀ (v3 : Int) (h : ah_T), hb s h → X2 v3 h → aw G (rm_R 3 0 0) m_Page_timesIn 0 0 2 [some (av_R (some 150)), some (av_R (some a1)), some (av_I a2), some (av_I v3), none, none] [] h Q) (hb0 : hb s h) (H : B_Page_timesIn_0 G s a1 a2 h Q X2) : aw G (rm_R 3 0 0) m_Page_timesIn 0 0 0 [some (av_R (some 150)), some (av_R (some a1)), some (av_I a2), none, none, none] [] h Q := by
  unfold B_Page_timesIn_0 at H
  have hS : isS s := hb0.2.1
  refine A_iconst d_Page_timesIn_0 rfl ?_
  refine A_istore_n 3 (L' := [some (av_R (some 150)), some (av_R (some a1)), some (av_I a2), some (av_I 0), none, none]) d_Page_timesIn_1 rfl (Nat.le_of_ble_eq_true rfl) rfl ?_
  refine A_pc (pc' := 2) rfl ?_
  exact hX2 (0) h  hb0 H
theorem c_Page_timesIn {G : cx_T} {s : Nat} {a1 : Nat} {a2 : Int} (ha1 : isS a1) {h : ah_T} {Q : Option av_T → ah_T → Prop} {X2 : Int → ah_T → Prop} (hX2 : ∀ (v3 : Int) (h : ah_T), hb s h → X2 v3 h → aw G (rm_R 3 0 0) m_Page_timesIn 0 0 2 [some (av_R (some 150)), some (av_R (some a1)), some (av_I a2), some (av_I v3), none, none] [] h Q) (hb0 : hb s h) (H : i32 a2 → B_Page_timesIn_0 G s a1 a2 h Q X2) : con G 3 0 0 m_Page_timesIn [av_R (some 150), av_R (some a1), av_I a2] h Q := by
  have hS : isS s := hb0.2.1
  refine con_of (L := [some (av_R (some 150)), some (av_R (some a1)), some (av_I a2), none, none, none]) (by decide +kernel) (Nat.le_of_ble_eq_true rfl) rfl ?_
  refine A_locI 2 rfl (fun ra2 => ?_)
  exact b_Page_timesIn_0 ha1 hX2 hb0 (H ra2)
def B_Page_widthOf_75 (G : cx_T) (s : Nat) (a1 : Nat) (a2 : Int) (v3 : Int) (v4 : Int) (h : ah_T) (Q : Option av_T → ah_T → Prop) (X5 : Int → Int → ah_T → Prop) : Prop :=
 ((-2147483648) ≤ (v4 + 1) ∧ (v4 + 1) ≤ 2147483647) ∧ X5 (v3) ((v4 + 1)) h
theorem b_Page_widthOf_75 {G : cx_T} {s : Nat} {a1 : Nat} {a2 : Int} (ha1 : isS a1) {v3 : Int} {v4 : Int} {h : ah_T} {Q : Option av_T → ah_T → Prop} {X5 : Int → Int → ah_T → Prop} (hX5 : ∀ (v3 : Int) (v4 : Int) (h : ah_T), hb s h → X5 v3 v4 h → aw G (rm_R 4 0 0) m_Page_widthOf 0 0 5 [some (av_R (some 150)), some (av_R (some a1)), some (av_I a2), some (av_I v3), some (av_I v4), none, none] [] h Q) (hb0 : hb s h) (H : B_Page_widthOf_75 G s a1 a2 v3 v4 h Q X5) : aw G (rm_R 4 0 0) m_Page_widthOf 0 0 75 [some (av_R (some 150)), some (av_R (some a1)), some (av_I a2), some (av_I v3), some (av_I v4), none, none] [] h Q := by
  unfold B_Page_widthOf_75 at H
  have hS : isS s := hb0.2.1
  have g1 := H.1
  replace H := H.2
  refine A_iincv (z := (v4 + 1)) (L' := [some (av_R (some 150)), some (av_R (some a1)), some (av_I a2), some (av_I v3), some (av_I (v4 + 1)), none, none]) d_Page_widthOf_75 rfl (w32_to (by omega) (by unfold i32; omega)) rfl ?_
  refine A_goto (tgt := 5) d_Page_widthOf_78 (by decide) ?_
  refine A_pc (pc' := 5) rfl ?_
  exact hX5 (v3) ((v4 + 1)) h  hb0 H
def B_Page_widthOf_45 (G : cx_T) (s : Nat) (a1 : Nat) (a2 : Int) (v3 : Int) (v4 : Int) (v5 : Nat) (v6 : Int) (h : ah_T) (Q : Option av_T → ah_T → Prop) (X5 : Int → Int → ah_T → Prop) (X45 : Int → Int → Nat → Int → ah_T → Prop) : Prop :=
 ((-2147483648) ≤ (a2 + 1) ∧ (a2 + 1) ≤ 2147483647) ∧ (0 ≤ (a2 + 1) ∧ (a2 + 1) < 102) ∧ ∀ x3 : Int, x3 = h.2.1 (v5 + 13) ((a2 + 1)).toNat → -2147483648 ≤ x3 → x3 ≤ 2147483647 → ((x3 ≤ v6 → B_Page_widthOf_75 G s a1 a2 (v3) (v4) h Q X5) ∧ (¬ x3 ≤ v6 → con G 1 0 0 m_Voice_signsOf [av_R (some v5), av_I v6] h (fun r h5 => ∃ z7 : Int, r = some (av_I z7) ∧ hb s h5 ∧ ((-2147483648) ≤ (v3 + z7) ∧ (v3 + z7) ≤ 2147483647) ∧ ((-2147483648) ≤ (v6 + 1) ∧ (v6 + 1) ≤ 2147483647) ∧ X45 ((v3 + z7)) (v4) v5 ((v6 + 1)) h5)))
theorem b_Page_widthOf_45 {G : cx_T} {s : Nat} {a1 : Nat} {a2 : Int} (ha1 : isS a1) {v3 : Int} {v4 : Int} {v5 : Nat} {v6 : Int} {h : ah_T} {Q : Option av_T → ah_T → Prop} {X5 : Int → Int → ah_T → Prop} {X45 : Int → Int → Nat → Int → ah_T → Prop} (hX5 : ∀ (v3 : Int) (v4 : Int) (h : ah_T), hb s h → X5 v3 v4 h → aw G (rm_R 4 0 0) m_Page_widthOf 0 0 5 [some (av_R (some 150)), some (av_R (some a1)), some (av_I a2), some (av_I v3), some (av_I v4), none, none] [] h Q) (hX45 : ∀ (v3 : Int) (v4 : Int) (v5 : Nat) (v6 : Int) (h : ah_T), isV v5 → hb s h → X45 v3 v4 v5 v6 h → aw G (rm_R 4 0 0) m_Page_widthOf 0 0 45 [some (av_R (some 150)), some (av_R (some a1)), some (av_I a2), some (av_I v3), some (av_I v4), some (av_R (some v5)), some (av_I v6)] [] h Q) (hv5 : isV v5) (hb0 : hb s h) (H : B_Page_widthOf_45 G s a1 a2 v3 v4 v5 v6 h Q X5 X45) : aw G (rm_R 4 0 0) m_Page_widthOf 0 0 45 [some (av_R (some 150)), some (av_R (some a1)), some (av_I a2), some (av_I v3), some (av_I v4), some (av_R (some v5)), some (av_I v6)] [] h Q := by
  unfold B_Page_widthOf_45 at H
  have hS : isS s := hb0.2.1
  refine A_iload d_Page_widthOf_45 rfl ?_
  refine A_aload d_Page_widthOf_47 rfl ?_
  refine A_getAv (z := some (v5 + 13)) T_ok d_Page_widthOf_49 f_Page_70 (hs_V hb0 hv5) (hr_V_15 hb0 hv5) ?_
  refine A_iload_n 2 d_Page_widthOf_52 rfl rfl ?_
  refine A_iconst d_Page_widthOf_53 rfl ?_
  refine A_pc (pc' := 54) rfl ?_
  have g2 := H.1
  replace H := H.2
  refine A_iaddv (z := (a2 + 1)) d_Page_widthOf_54 (w32_to (by omega) (by unfold i32; omega)) ?_
  have g4 := H.1
  replace H := H.2
  refine A_ialoadf d_Page_widthOf_55 (hs_V_15 hb0 hv5) g4.1 g4.2 (fun x3 ex3 lx3 ux3 => ?_)
  replace H := H x3 ex3 lx3 ux3
  refine A_icmp_ge (tgt := 75) d_Page_widthOf_56 (by decide) (fun c => ?_) (fun c => ?_)
  · replace H := H.1 c
    refine A_pc (pc' := 75) rfl ?_
    refine A_free (L' := [some (av_R (some 150)), some (av_R (some a1)), some (av_I a2), some (av_I v3), some (av_I v4), none, none]) (And.intro rfl (And.intro rfl (And.intro rfl (And.intro rfl (And.intro rfl trivial))))) ?_
    exact b_Page_widthOf_75 ha1 hX5  hb0 H
  · replace H := H.2 c
    refine A_iload_n 3 d_Page_widthOf_59 rfl rfl ?_
    refine A_aload d_Page_widthOf_60 rfl ?_
    refine A_iload d_Page_widthOf_62 rfl ?_
    refine A_callV1 m_Voice_signsOf T_ok d_Page_widthOf_64 l_Page_73 k_Voice_signsOf (hs_V hb0 hv5) rfl (by decide +kernel) (by decide) (Nat.le_of_ble_eq_true rfl) H (fun r h5 hq => ?_)
    clear H
    obtain ⟨z7, rfl, hb6, H⟩ := hq
    have g8 := H.1
    replace H := H.2
    refine A_iaddv (z := (v3 + z7)) d_Page_widthOf_67 (w32_to (by omega) (by unfold i32; omega)) ?_
    refine A_istore_n 3 (L' := [some (av_R (some 150)), some (av_R (some a1)), some (av_I a2), some (av_I (v3 + z7)), some (av_I v4), some (av_R (some v5)), some (av_I v6)]) d_Page_widthOf_68 rfl (Nat.le_of_ble_eq_true rfl) rfl ?_
    have g9 := H.1
    replace H := H.2
    refine A_iincv (z := (v6 + 1)) (L' := [some (av_R (some 150)), some (av_R (some a1)), some (av_I a2), some (av_I (v3 + z7)), some (av_I v4), some (av_R (some v5)), some (av_I (v6 + 1))]) d_Page_widthOf_69 rfl (w32_to (by omega) (by unfold i32; omega)) rfl ?_
    refine A_goto (tgt := 45) d_Page_widthOf_72 (by decide) ?_
    refine A_pc (pc' := 45) rfl ?_
    exact hX45 ((v3 + z7)) (v4) v5 ((v6 + 1)) h5 hv5 hb6 H
theorem lp_Page_widthOf_45 {G : cx_T} {s : Nat} {a1 : Nat} {a2 : Int} (ha1 : isS a1) {Q : Option av_T → ah_T → Prop} {X5 : Int → Int → ah_T → Prop} (hX5 : ∀ (v3 : Int) (v4 : Int) (h : ah_T), hb s h → X5 v3 v4 h → aw G (rm_R 4 0 0) m_Page_widthOf 0 0 5 [some (av_R (some 150)), some (av_R (some a1)), some (av_I a2), some (av_I v3), some (av_I v4), none, none] [] h Q) (I : Int → Int → Nat → Int → ah_T → Prop) (μ : Int → Int → Nat → Int → ah_T → Nat) (hI : ∀ (v3 : Int) (v4 : Int) (v5 : Nat) (v6 : Int) (h : ah_T), isV v5 → hb s h → I v3 v4 v5 v6 h → B_Page_widthOf_45 G s a1 a2 v3 v4 v5 v6 h Q X5 (fun v3' v4' v5' v6' h' => I v3' v4' v5' v6' h' ∧ μ v3' v4' v5' v6' h' < μ v3 v4 v5 v6 h)) : ∀ (v3 : Int) (v4 : Int) (v5 : Nat) (v6 : Int) (h : ah_T), isV v5 → hb s h → I v3 v4 v5 v6 h → aw G (rm_R 4 0 0) m_Page_widthOf 0 0 45 [some (av_R (some 150)), some (av_R (some a1)), some (av_I a2), some (av_I v3), some (av_I v4), some (av_R (some v5)), some (av_I v6)] [] h Q := by
  have key : ∀ (n : Nat) (v3 : Int) (v4 : Int) (v5 : Nat) (v6 : Int) (h : ah_T), isV v5 → hb s h → I v3 v4 v5 v6 h → μ v3 v4 v5 v6 h < n → aw G (rm_R 4 0 0) m_Page_widthOf 0 0 45 [some (av_R (some 150)), some (av_R (some a1)), some (av_I a2), some (av_I v3), some (av_I v4), some (av_R (some v5)), some (av_I v6)] [] h Q := by
    intro n
    induction n with
    | zero => intro v3 v4 v5 v6 h hv0 hb0 hi hm; omega
    | succ n ih => intro v3 v4 v5 v6 h hv0 hb0 hi hm; exact b_Page_widthOf_45 ha1 hX5 (fun v3' v4' v5' v6' h' hv0 hb' hx => ih v3' v4' v5' v6' h' hv0 hb' hx.1 (by have := hx.2; omega)) hv0 hb0 (hI v3 v4 v5 v6 h hv0 hb0 hi)
  exact fun v3 v4 v5 v6 h hv0 hb0 hi => key _ v3 v4 v5 v6 h hv0 hb0 hi (Nat.lt_succ_self _)
def B_Page_widthOf_5 (G : cx_T) (s : Nat) (a1 : Nat) (a2 : Int) (v3 : Int) (v4 : Int) (h : ah_T) (Q : Option av_T → ah_T → Prop) (X5 : Int → Int → ah_T → Prop) (X45 : Int → Int → Nat → Int → ah_T → Prop) : Prop :=
 ∀ x1 : Int, x1 = h.2.1 a1 1 → -2147483648 ≤ x1 → x1 ≤ 2147483647 → ((x1 ≤ v4 → con G 3 0 0 m_Page_timesIn [av_R (some 150), av_R (some a1), av_I a2] h (fun r h2 => ∃ z4 : Int, r = some (av_I z4) ∧ hb s h2 ∧ ((-2147483648) ≤ (8 * z4) ∧ (8 * z4) ≤ 2147483647) ∧ ((-2147483648) ≤ (8 * z4 + 10) ∧ (8 * z4 + 10) ≤ 2147483647) ∧ ((-2147483648) ≤ (3 * v3) ∧ (3 * v3) ≤ 2147483647) ∧ ((-2147483648) ≤ (8 * z4 + 3 * v3 + 10) ∧ (8 * z4 + 3 * v3 + 10) ≤ 2147483647) ∧ Q (some (av_I (8 * z4 + 3 * v3 + 10))) h2)) ∧ (¬ x1 ≤ v4 → con G 0 0 0 m_Score_voiceAt [av_R (some a1), av_I v4] h (fun r h9 => ∃ oz11 : Option Nat, r = some (av_R oz11) ∧ hb s h9 ∧ ((oz11 = none ∧ B_Page_widthOf_75 G s a1 a2 (v3) (v4) h9 Q X5) ∨ ∃ z11 : Nat, oz11 = some z11 ∧ isV z11 ∧ ∀ x12 : Int, x12 = h9.2.1 z11 16 → -2147483648 ≤ x12 → x12 ≤ 2147483647 → ((x12 ≤ a2 → B_Page_widthOf_75 G s a1 a2 (v3) (v4) h9 Q X5) ∧ (¬ x12 ≤ a2 → (0 ≤ a2 ∧ a2 < 102) ∧ ∀ x14 : Int, x14 = h9.2.1 (z11 + 13) (a2).toNat → -2147483648 ≤ x14 → x14 ≤ 2147483647 → X45 (v3) (v4) z11 (x14) h9))))))
theorem b_Page_widthOf_5 {G : cx_T} {s : Nat} {a1 : Nat} {a2 : Int} (ha1 : isS a1) {v3 : Int} {v4 : Int} {h : ah_T} {Q : Option av_T → ah_T → Prop} {X5 : Int → Int → ah_T → Prop} {X45 : Int → Int → Nat → Int → ah_T → Prop} (hX5 : ∀ (v3 : Int) (v4 : Int) (h : ah_T), hb s h → X5 v3 v4 h → aw G (rm_R 4 0 0) m_Page_widthOf 0 0 5 [some (av_R (some 150)), some (av_R (some a1)), some (av_I a2), some (av_I v3), some (av_I v4), none, none] [] h Q) (hX45 : ∀ (v3 : Int) (v4 : Int) (v5 : Nat) (v6 : Int) (h : ah_T), isV v5 → hb s h → X45 v3 v4 v5 v6 h → aw G (rm_R 4 0 0) m_Page_widthOf 0 0 45 [some (av_R (some 150)), some (av_R (some a1)), some (av_I a2), some (av_I v3), some (av_I v4), some (av_R (some v5)), some (av_I v6)] [] h Q) (hb0 : hb s h) (H : B_Page_widthOf_5 G s a1 a2 v3 v4 h Q X5 X45) : aw G (rm_R 4 0 0) m_Page_widthOf 0 0 5 [some (av_R (some 150)), some (av_R (some a1)), some (av_I a2), some (av_I v3), some (av_I v4), none, none] [] h Q := by
  unfold B_Page_widthOf_5 at H
  have hS : isS s := hb0.2.1
  refine A_iload d_Page_widthOf_5 rfl ?_
  refine A_aload_n 1 d_Page_widthOf_7 rfl rfl ?_
  refine A_getIf T_ok d_Page_widthOf_8 f_Page_58 (hs_S hb0 ha1) (fun x1 ex1 lx1 ux1 => ?_)
  replace H := H x1 ex1 lx1 ux1
  refine A_icmp_ge (tgt := 81) d_Page_widthOf_11 (by decide) (fun c => ?_) (fun c => ?_)
  · replace H := H.1 c
    refine A_bipush d_Page_widthOf_81 rfl ?_
    refine A_bipush d_Page_widthOf_83 rfl ?_
    refine A_aload_n 0 d_Page_widthOf_85 rfl rfl ?_
    refine A_aload_n 1 d_Page_widthOf_86 rfl rfl ?_
    refine A_iload_n 2 d_Page_widthOf_87 rfl rfl ?_
    refine A_pc (pc' := 88) rfl ?_
    refine A_callV2 m_Page_timesIn T_ok d_Page_widthOf_88 l_Page_77 k_Page_timesIn (hb_s hb0 sf_150) rfl (by decide +kernel) (by decide) (Nat.le_of_ble_eq_true rfl) H (fun r h2 hq => ?_)
    clear H
    obtain ⟨z4, rfl, hb3, H⟩ := hq
    have g5 := H.1
    replace H := H.2
    refine A_imulv (z := (8 * z4)) d_Page_widthOf_91 (w32_to (by omega) (by unfold i32; omega)) ?_
    have g6 := H.1
    replace H := H.2
    refine A_iaddv (z := (8 * z4 + 10)) d_Page_widthOf_92 (w32_to (by omega) (by unfold i32; omega)) ?_
    refine A_iconst d_Page_widthOf_93 rfl ?_
    refine A_iload_n 3 d_Page_widthOf_94 rfl rfl ?_
    have g7 := H.1
    replace H := H.2
    refine A_imulv (z := (3 * v3)) d_Page_widthOf_95 (w32_to (by omega) (by unfold i32; omega)) ?_
    refine A_pc (pc' := 96) rfl ?_
    have g8 := H.1
    replace H := H.2
    refine A_iaddv (z := (8 * z4 + 3 * v3 + 10)) d_Page_widthOf_96 (w32_to (by omega) (by unfold i32; omega)) ?_
    exact A_iret d_Page_widthOf_97 (by decide) rfl H
  · replace H := H.2 c
    refine A_aload_n 1 d_Page_widthOf_14 rfl rfl ?_
    refine A_iload d_Page_widthOf_15 rfl ?_
    refine A_callV1 m_Score_voiceAt T_ok d_Page_widthOf_17 l_Page_61 k_Score_voiceAt (hs_S hb0 ha1) rfl (by decide +kernel) (by decide) (Nat.le_of_ble_eq_true rfl) H (fun r h9 hq => ?_)
    clear H
    obtain ⟨oz11, rfl, hb10, H⟩ := hq
    rcases H with ⟨H1, H⟩ | ⟨z11, H1, tz11, H⟩
    · subst H1
      refine A_astore (L' := [some (av_R (some 150)), some (av_R (some a1)), some (av_I a2), some (av_I v3), some (av_I v4), some (av_R none), none]) d_Page_widthOf_20 (Nat.le_of_ble_eq_true rfl) rfl ?_
      refine A_aload d_Page_widthOf_22 rfl ?_
      refine A_ifnull (tgt := 75) d_Page_widthOf_24 (by decide) (fun _ => ?_) (fun a q => by cases q)
      refine A_pc (pc' := 75) rfl ?_
      refine A_free (L' := [some (av_R (some 150)), some (av_R (some a1)), some (av_I a2), some (av_I v3), some (av_I v4), none, none]) (And.intro rfl (And.intro rfl (And.intro rfl (And.intro rfl (And.intro rfl trivial))))) ?_
      exact b_Page_widthOf_75 ha1 hX5  hb10 H
    · subst H1
      refine A_astore (L' := [some (av_R (some 150)), some (av_R (some a1)), some (av_I a2), some (av_I v3), some (av_I v4), some (av_R (some z11)), none]) d_Page_widthOf_20 (Nat.le_of_ble_eq_true rfl) rfl ?_
      refine A_aload d_Page_widthOf_22 rfl ?_
      refine A_ifnull (tgt := 75) d_Page_widthOf_24 (by decide) (fun q => by cases q) (fun _ _ => ?_)
      refine A_iload_n 2 d_Page_widthOf_27 rfl rfl ?_
      refine A_aload d_Page_widthOf_28 rfl ?_
      refine A_getIf T_ok d_Page_widthOf_30 f_Page_65 (hs_V hb10 tz11) (fun x12 ex12 lx12 ux12 => ?_)
      replace H := H x12 ex12 lx12 ux12
      refine A_icmp_ge (tgt := 75) d_Page_widthOf_33 (by decide) (fun c => ?_) (fun c => ?_)
      · replace H := H.1 c
        refine A_pc (pc' := 75) rfl ?_
        refine A_free (L' := [some (av_R (some 150)), some (av_R (some a1)), some (av_I a2), some (av_I v3), some (av_I v4), none, none]) (And.intro rfl (And.intro rfl (And.intro rfl (And.intro rfl (And.intro rfl trivial))))) ?_
        exact b_Page_widthOf_75 ha1 hX5  hb10 H
      · replace H := H.2 c
        refine A_aload d_Page_widthOf_36 rfl ?_
        refine A_getAv (z := some (z11 + 13)) T_ok d_Page_widthOf_38 f_Page_70 (hs_V hb10 tz11) (hr_V_15 hb10 tz11) ?_
        refine A_iload_n 2 d_Page_widthOf_41 rfl rfl ?_
        have g15 := H.1
        replace H := H.2
        refine A_ialoadf d_Page_widthOf_42 (hs_V_15 hb10 tz11) g15.1 g15.2 (fun x14 ex14 lx14 ux14 => ?_)
        replace H := H x14 ex14 lx14 ux14
        refine A_istore (L' := [some (av_R (some 150)), some (av_R (some a1)), some (av_I a2), some (av_I v3), some (av_I v4), some (av_R (some z11)), some (av_I x14)]) d_Page_widthOf_43 (Nat.le_of_ble_eq_true rfl) rfl ?_
        refine A_pc (pc' := 45) rfl ?_
        exact hX45 (v3) (v4) z11 (x14) h9 tz11 hb10 H
theorem lp_Page_widthOf_5 {G : cx_T} {s : Nat} {a1 : Nat} {a2 : Int} (ha1 : isS a1) {Q : Option av_T → ah_T → Prop} {X45 : Int → Int → Nat → Int → ah_T → Prop} (hX45 : ∀ (v3 : Int) (v4 : Int) (v5 : Nat) (v6 : Int) (h : ah_T), isV v5 → hb s h → X45 v3 v4 v5 v6 h → aw G (rm_R 4 0 0) m_Page_widthOf 0 0 45 [some (av_R (some 150)), some (av_R (some a1)), some (av_I a2), some (av_I v3), some (av_I v4), some (av_R (some v5)), some (av_I v6)] [] h Q) (I : Int → Int → ah_T → Prop) (μ : Int → Int → ah_T → Nat) (hI : ∀ (v3 : Int) (v4 : Int) (h : ah_T), hb s h → I v3 v4 h → B_Page_widthOf_5 G s a1 a2 v3 v4 h Q (fun v3' v4' h' => I v3' v4' h' ∧ μ v3' v4' h' < μ v3 v4 h) X45) : ∀ (v3 : Int) (v4 : Int) (h : ah_T), hb s h → I v3 v4 h → aw G (rm_R 4 0 0) m_Page_widthOf 0 0 5 [some (av_R (some 150)), some (av_R (some a1)), some (av_I a2), some (av_I v3), some (av_I v4), none, none] [] h Q := by
  have key : ∀ (n : Nat) (v3 : Int) (v4 : Int) (h : ah_T), hb s h → I v3 v4 h → μ v3 v4 h < n → aw G (rm_R 4 0 0) m_Page_widthOf 0 0 5 [some (av_R (some 150)), some (av_R (some a1)), some (av_I a2), some (av_I v3), some (av_I v4), none, none] [] h Q := by
    intro n
    induction n with
    | zero => intro v3 v4 h  hb0 hi hm; omega
    | succ n ih => intro v3 v4 h  hb0 hi hm; exact b_Page_widthOf_5 ha1 (fun v3' v4' h'  hb' hx => ih v3' v4' h'  hb' hx.1 (by have := hx.2; omega)) hX45  hb0 (hI v3 v4 h  hb0 hi)
  exact fun v3 v4 h  hb0 hi => key _ v3 v4 h  hb0 hi (Nat.lt_succ_self _)
def B_Page_widthOf_0 (G : cx_T) (s : Nat) (a1 : Nat) (a2 : Int) (h : ah_T) (Q : Option av_T → ah_T → Prop) (X5 : Int → Int → ah_T → Prop) : Prop :=
 X5 (0) (0) h
theorem b_Page_widthOf_0 {G : cx_T} {s : Nat} {a1 : Nat} {a2 : Int} (ha1 : isS a1) {h : ah_T} {Q : Option av_T → ah_T → Prop} {X5 : Int → Int → ah_T → Prop} (hX5 : ∀ (v3 : Int) (v4 : Int) (h : ah_T), hb s h → X5 v3 v4 h → aw G (rm_R 4 0 0) m_Page_widthOf 0 0 5 [some (av_R (some 150)), some (av_R (some a1)), some (av_I a2), some (av_I v3), some (av_I v4), none, none] [] h Q) (hb0 : hb s h) (H : B_Page_widthOf_0 G s a1 a2 h Q X5) : aw G (rm_R 4 0 0) m_Page_widthOf 0 0 0 [some (av_R (some 150)), some (av_R (some a1)), some (av_I a2), none, none, none, none] [] h Q := by
  unfold B_Page_widthOf_0 at H
  have hS : isS s := hb0.2.1
  refine A_iconst d_Page_widthOf_0 rfl ?_
  refine A_istore_n 3 (L' := [some (av_R (some 150)), some (av_R (some a1)), some (av_I a2), some (av_I 0), none, none, none]) d_Page_widthOf_1 rfl (Nat.le_of_ble_eq_true rfl) rfl ?_
  refine A_iconst d_Page_widthOf_2 rfl ?_
  refine A_istore (L' := [some (av_R (some 150)), some (av_R (some a1)), some (av_I a2), some (av_I 0), some (av_I 0), none, none]) d_Page_widthOf_3 (Nat.le_of_ble_eq_true rfl) rfl ?_
  refine A_pc (pc' := 5) rfl ?_
  exact hX5 (0) (0) h  hb0 H
theorem c_Page_widthOf {G : cx_T} {s : Nat} {a1 : Nat} {a2 : Int} (ha1 : isS a1) {h : ah_T} {Q : Option av_T → ah_T → Prop} {X5 : Int → Int → ah_T → Prop} (hX5 : ∀ (v3 : Int) (v4 : Int) (h : ah_T), hb s h → X5 v3 v4 h → aw G (rm_R 4 0 0) m_Page_widthOf 0 0 5 [some (av_R (some 150)), some (av_R (some a1)), some (av_I a2), some (av_I v3), some (av_I v4), none, none] [] h Q) (hb0 : hb s h) (H : i32 a2 → B_Page_widthOf_0 G s a1 a2 h Q X5) : con G 4 0 0 m_Page_widthOf [av_R (some 150), av_R (some a1), av_I a2] h Q := by
  have hS : isS s := hb0.2.1
  refine con_of (L := [some (av_R (some 150)), some (av_R (some a1)), some (av_I a2), none, none, none, none]) (by decide +kernel) (Nat.le_of_ble_eq_true rfl) rfl ?_
  refine A_locI 2 rfl (fun ra2 => ?_)
  exact b_Page_widthOf_0 ha1 hX5 hb0 (H ra2)
def B_Page_findFrom_144 (G : cx_T) (s : Nat) (a1 : Int) (a2 : Int) (a3 : Int) (v4 : Int) (v6 : Int) (h : ah_T) (Q : Option av_T → ah_T → Prop) (X53 : Int → Int → ah_T → Prop) : Prop :=
 ((-2147483648) ≤ (v6 + 1) ∧ (v6 + 1) ≤ 2147483647) ∧ X53 (v4) ((v6 + 1)) h
theorem b_Page_findFrom_144 {G : cx_T} {s : Nat} {a1 : Int} {a2 : Int} {a3 : Int} {v4 : Int} {v6 : Int} {h : ah_T} {Q : Option av_T → ah_T → Prop} {X53 : Int → Int → ah_T → Prop} (hX53 : ∀ (v4 : Int) (v6 : Int) (h : ah_T), hb s h → X53 v4 v6 h → aw G (rm_R 1 0 0) m_Page_findFrom 0 0 53 [some (av_R (some 150)), some (av_I a1), some (av_I a2), none, some (av_L v4), none, some (av_I v6), none, none] [] h Q) (hb0 : hb s h) (H : B_Page_findFrom_144 G s a1 a2 a3 v4 v6 h Q X53) : aw G (rm_R 1 0 0) m_Page_findFrom 0 0 144 [some (av_R (some 150)), some (av_I a1), some (av_I a2), none, some (av_L v4), none, some (av_I v6), none, none] [] h Q := by
  unfold B_Page_findFrom_144 at H
  have hS : isS s := hb0.2.1
  have g1 := H.1
  replace H := H.2
  refine A_iincv (z := (v6 + 1)) (L' := [some (av_R (some 150)), some (av_I a1), some (av_I a2), none, some (av_L v4), none, some (av_I (v6 + 1)), none, none]) d_Page_findFrom_144 rfl (w32_to (by omega) (by unfold i32; omega)) rfl ?_
  refine A_goto (tgt := 53) d_Page_findFrom_147 (by decide) ?_
  refine A_pc (pc' := 53) rfl ?_
  exact hX53 (v4) ((v6 + 1)) h  hb0 H
def B_Page_findFrom_110 (G : cx_T) (s : Nat) (a1 : Int) (a2 : Int) (a3 : Int) (v4 : Int) (v6 : Int) (t0 : Int) (t1 : Int) (t2 : Int) (h : ah_T) (Q : Option av_T → ah_T → Prop) (X53 : Int → Int → ah_T → Prop) : Prop :=
 con G 0 0 0 m_Page_lineCost [av_L t1, av_I t2] h (fun r h1 => ∃ z3 : Int, r = some (av_L z3) ∧ hb s h1 ∧ ((-9223372036854775808) ≤ (t0 + z3) ∧ (t0 + z3) ≤ 9223372036854775807) ∧ (0 ≤ a1 ∧ a1 < 15) ∧ ∀ x6 : Int, x6 = h1.2.2.1 153 (a1).toNat → -9223372036854775808 ≤ x6 → x6 ≤ 9223372036854775807 → ((x6 < (t0 + z3) → B_Page_findFrom_144 G s a1 a2 a3 (v4) (v6) h1 Q X53) ∧ (¬ x6 < (t0 + z3) → ∀ h10 : ah_T, h10 = st_i h1 154 (a1).toNat v6 → ∀ h13 : ah_T, h13 = st_l h10 153 (a1).toNat (t0 + z3) → B_Page_findFrom_144 G s a1 a2 a3 (v4) (v6) h13 Q X53)))
theorem b_Page_findFrom_110 {G : cx_T} {s : Nat} {a1 : Int} {a2 : Int} {a3 : Int} {v4 : Int} {v6 : Int} {t0 : Int} {t1 : Int} {t2 : Int} {h : ah_T} {Q : Option av_T → ah_T → Prop} {X53 : Int → Int → ah_T → Prop} (hX53 : ∀ (v4 : Int) (v6 : Int) (h : ah_T), hb s h → X53 v4 v6 h → aw G (rm_R 1 0 0) m_Page_findFrom 0 0 53 [some (av_R (some 150)), some (av_I a1), some (av_I a2), none, some (av_L v4), none, some (av_I v6), none, none] [] h Q) (hb0 : hb s h) (H : B_Page_findFrom_110 G s a1 a2 a3 v4 v6 t0 t1 t2 h Q X53) : aw G (rm_R 1 0 0) m_Page_findFrom 0 0 110 [some (av_R (some 150)), some (av_I a1), some (av_I a2), none, some (av_L v4), none, some (av_I v6), none, none] [av_I t2, av_L t1, av_L t0] h Q := by
  unfold B_Page_findFrom_110 at H
  have hS : isS s := hb0.2.1
  refine A_callS2 m_Page_lineCost d_Page_findFrom_110 l_Page_52 k_Page_lineCost (by decide +kernel) (by decide) (Nat.le_of_ble_eq_true rfl) H (fun r h1 hq => ?_)
  clear H
  obtain ⟨z3, rfl, hb2, H⟩ := hq
  have g4 := H.1
  replace H := H.2
  refine A_laddv (z := (t0 + z3)) d_Page_findFrom_113 (w64_to (by omega) (by unfold i64; omega)) ?_
  refine A_lstore (L' := [some (av_R (some 150)), some (av_I a1), some (av_I a2), none, some (av_L v4), none, some (av_I v6), some (av_L (t0 + z3)), none]) d_Page_findFrom_114 (Nat.le_of_ble_eq_true rfl) rfl ?_
  refine A_lload d_Page_findFrom_116 rfl ?_
  refine A_aload_n 0 d_Page_findFrom_118 rfl rfl ?_
  refine A_getAv (z := some 153) T_ok d_Page_findFrom_119 f_Page_18 (hb_s hb2 sf_150) (hb_r hb2 rff_150_3) ?_
  refine A_pc (pc' := 122) rfl ?_
  refine A_iload_n 1 d_Page_findFrom_122 rfl rfl ?_
  have g7 := H.1
  replace H := H.2
  refine A_laloadf d_Page_findFrom_123 (hb_s hb2 sf_153) g7.1 g7.2 (fun x6 ex6 lx6 ux6 => ?_)
  replace H := H x6 ex6 lx6 ux6
  refine A_lcmpn d_Page_findFrom_124 (fun x8 lx8 ex8 gx8 _ _ => ?_)
  refine A_if_gt (tgt := 144) d_Page_findFrom_125 (by decide) (fun c => ?_) (fun c => ?_)
  · replace H := H.1 (by omega)
    refine A_pc (pc' := 144) rfl ?_
    refine A_free (L' := [some (av_R (some 150)), some (av_I a1), some (av_I a2), none, some (av_L v4), none, some (av_I v6), none, none]) (And.intro rfl (And.intro rfl (And.intro rfl (And.intro rfl (And.intro rfl trivial))))) ?_
    exact b_Page_findFrom_144  hX53  hb2 H
  · replace H := H.2 (by omega)
    refine A_aload_n 0 d_Page_findFrom_128 rfl rfl ?_
    refine A_getAv (z := some 154) T_ok d_Page_findFrom_129 f_Page_22 (hb_s hb2 sf_150) (hb_r hb2 rff_150_4) ?_
    refine A_iload_n 1 d_Page_findFrom_132 rfl rfl ?_
    refine A_iload d_Page_findFrom_133 rfl ?_
    refine A_iastoreN d_Page_findFrom_135 (hb_s hb2 sf_154) g7.1 g7.2 ?_
    refine A_hn (fun h10 eh10 => ?_)
    have hb11 := hb_i hb2 eh10
    replace H := H h10 eh10
    refine A_pc (pc' := 136) rfl ?_
    refine A_aload_n 0 d_Page_findFrom_136 rfl rfl ?_
    refine A_getAv (z := some 153) T_ok d_Page_findFrom_137 f_Page_18 (hb_s hb11 sf_150) (hb_r hb11 rff_150_3) ?_
    refine A_iload_n 1 d_Page_findFrom_140 rfl rfl ?_
    refine A_lload d_Page_findFrom_141 rfl ?_
    refine A_lastoreN d_Page_findFrom_143 (hb_s hb11 sf_153) g7.1 g7.2 ?_
    refine A_hn (fun h13 eh13 => ?_)
    have hb14 := hb_l hb11 eh13
    replace H := H h13 eh13
    refine A_pc (pc' := 144) rfl ?_
    refine A_free (L' := [some (av_R (some 150)), some (av_I a1), some (av_I a2), none, some (av_L v4), none, some (av_I v6), none, none]) (And.intro rfl (And.intro rfl (And.intro rfl (And.intro rfl (And.intro rfl trivial))))) ?_
    exact b_Page_findFrom_144  hX53  hb14 H
def B_Page_findFrom_53 (G : cx_T) (s : Nat) (a1 : Int) (a2 : Int) (a3 : Int) (v4 : Int) (v6 : Int) (h : ah_T) (Q : Option av_T → ah_T → Prop) (X53 : Int → Int → ah_T → Prop) : Prop :=
 ((-2147483648) ≤ (a1 + v6) ∧ (a1 + v6) ≤ 2147483647) ∧ ((a2 < (a1 + v6) → Q none h) ∧ (¬ a2 < (a1 + v6) → ((-2147483648) ≤ (a1 + v6 - 1) ∧ (a1 + v6 - 1) ≤ 2147483647) ∧ (0 ≤ (a1 + v6 - 1) ∧ (a1 + v6 - 1) < 14) ∧ ∀ x4 : Int, x4 = h.2.1 152 ((a1 + v6 - 1)).toNat → -2147483648 ≤ x4 → x4 ≤ 2147483647 → ((-9223372036854775808) ≤ (v4 - x4) ∧ (v4 - x4) ≤ 9223372036854775807) ∧ ((0 ≤ (v4 - x4) → (0 ≤ (a1 + v6) ∧ (a1 + v6) < 15) ∧ ∀ x9 : Int, x9 = h.2.2.1 153 ((a1 + v6)).toNat → -9223372036854775808 ≤ x9 → x9 ≤ 9223372036854775807 → (((a1 + v6) = a2 → B_Page_findFrom_110 G s a1 a2 a3 ((v4 - x4)) (v6) (x9) ((v4 - x4)) (1) h Q X53) ∧ (¬ (a1 + v6) = a2 → B_Page_findFrom_110 G s a1 a2 a3 ((v4 - x4)) (v6) (x9) ((v4 - x4)) (0) h Q X53))) ∧ (¬ 0 ≤ (v4 - x4) → Q none h))))
theorem b_Page_findFrom_53 {G : cx_T} {s : Nat} {a1 : Int} {a2 : Int} {a3 : Int} {v4 : Int} {v6 : Int} {h : ah_T} {Q : Option av_T → ah_T → Prop} {X53 : Int → Int → ah_T → Prop} (hX53 : ∀ (v4 : Int) (v6 : Int) (h : ah_T), hb s h → X53 v4 v6 h → aw G (rm_R 1 0 0) m_Page_findFrom 0 0 53 [some (av_R (some 150)), some (av_I a1), some (av_I a2), none, some (av_L v4), none, some (av_I v6), none, none] [] h Q) (hb0 : hb s h) (H : B_Page_findFrom_53 G s a1 a2 a3 v4 v6 h Q X53) : aw G (rm_R 1 0 0) m_Page_findFrom 0 0 53 [some (av_R (some 150)), some (av_I a1), some (av_I a2), none, some (av_L v4), none, some (av_I v6), none, none] [] h Q := by
  unfold B_Page_findFrom_53 at H
  have hS : isS s := hb0.2.1
  refine A_iload_n 1 d_Page_findFrom_53 rfl rfl ?_
  refine A_iload d_Page_findFrom_54 rfl ?_
  have g1 := H.1
  replace H := H.2
  refine A_iaddv (z := (a1 + v6)) d_Page_findFrom_56 (w32_to (by omega) (by unfold i32; omega)) ?_
  refine A_iload_n 2 d_Page_findFrom_57 rfl rfl ?_
  refine A_icmp_gt (tgt := 150) d_Page_findFrom_58 (by decide) (fun c => ?_) (fun c => ?_)
  · replace H := H.1 c
    exact A_vret d_Page_findFrom_150 (by decide) rfl H
  · replace H := H.2 c
    refine A_lload d_Page_findFrom_61 rfl ?_
    refine A_aload_n 0 d_Page_findFrom_63 rfl rfl ?_
    refine A_getAv (z := some 152) T_ok d_Page_findFrom_64 f_Page_15 (hb_s hb0 sf_150) (hb_r hb0 rff_150_2) ?_
    refine A_iload_n 1 d_Page_findFrom_67 rfl rfl ?_
    refine A_iload d_Page_findFrom_68 rfl ?_
    refine A_pc (pc' := 70) rfl ?_
    refine A_iaddv (z := (a1 + v6)) d_Page_findFrom_70 (w32_to (by omega) (by unfold i32; omega)) ?_
    refine A_iconst d_Page_findFrom_71 rfl ?_
    have g3 := H.1
    replace H := H.2
    refine A_isubv (z := (a1 + v6 - 1)) d_Page_findFrom_72 (w32_to (by omega) (by unfold i32; omega)) ?_
    have g5 := H.1
    replace H := H.2
    refine A_ialoadf d_Page_findFrom_73 (hb_s hb0 sf_152) g5.1 g5.2 (fun x4 ex4 lx4 ux4 => ?_)
    replace H := H x4 ex4 lx4 ux4
    refine A_i2l d_Page_findFrom_74 ?_
    have g6 := H.1
    replace H := H.2
    refine A_lsubv (z := (v4 - x4)) d_Page_findFrom_75 (w64_to (by omega) (by unfold i64; omega)) ?_
    refine A_pc (pc' := 76) rfl ?_
    refine A_lstore (L' := [some (av_R (some 150)), some (av_I a1), some (av_I a2), none, some (av_L (v4 - x4)), none, some (av_I v6), none, none]) d_Page_findFrom_76 (Nat.le_of_ble_eq_true rfl) rfl ?_
    refine A_lload d_Page_findFrom_78 rfl ?_
    refine A_lconst_0 d_Page_findFrom_80 ?_
    refine A_lcmpn d_Page_findFrom_81 (fun x7 lx7 ex7 gx7 _ _ => ?_)
    refine A_if_ge (tgt := 86) d_Page_findFrom_82 (by decide) (fun c => ?_) (fun c => ?_)
    · replace H := H.1 (by omega)
      refine A_aload_n 0 d_Page_findFrom_86 rfl rfl ?_
      refine A_getAv (z := some 153) T_ok d_Page_findFrom_87 f_Page_18 (hb_s hb0 sf_150) (hb_r hb0 rff_150_3) ?_
      refine A_iload_n 1 d_Page_findFrom_90 rfl rfl ?_
      refine A_iload d_Page_findFrom_91 rfl ?_
      refine A_iaddv (z := (a1 + v6)) d_Page_findFrom_93 (w32_to (by omega) (by unfold i32; omega)) ?_
      refine A_pc (pc' := 94) rfl ?_
      have g10 := H.1
      replace H := H.2
      refine A_laloadf d_Page_findFrom_94 (hb_s hb0 sf_153) g10.1 g10.2 (fun x9 ex9 lx9 ux9 => ?_)
      replace H := H x9 ex9 lx9 ux9
      refine A_lload d_Page_findFrom_95 rfl ?_
      refine A_iload_n 1 d_Page_findFrom_97 rfl rfl ?_
      refine A_iload d_Page_findFrom_98 rfl ?_
      refine A_iaddv (z := (a1 + v6)) d_Page_findFrom_100 (w32_to (by omega) (by unfold i32; omega)) ?_
      refine A_iload_n 2 d_Page_findFrom_101 rfl rfl ?_
      refine A_pc (pc' := 102) rfl ?_
      refine A_icmp_ne (tgt := 109) d_Page_findFrom_102 (by decide) (fun c => ?_) (fun c => ?_)
      · replace H := H.2 c
        refine A_iconst d_Page_findFrom_109 rfl ?_
        refine A_pc (pc' := 110) rfl ?_
        exact b_Page_findFrom_110  hX53  hb0 H
      · replace H := H.1 c
        refine A_iconst d_Page_findFrom_105 rfl ?_
        refine A_goto (tgt := 110) d_Page_findFrom_106 (by decide) ?_
        refine A_pc (pc' := 110) rfl ?_
        exact b_Page_findFrom_110  hX53  hb0 H
    · replace H := H.2 (by omega)
      exact A_vret d_Page_findFrom_85 (by decide) rfl H
theorem lp_Page_findFrom_53 {G : cx_T} {s : Nat} {a1 : Int} {a2 : Int} {a3 : Int} {Q : Option av_T → ah_T → Prop} (I : Int → Int → ah_T → Prop) (μ : Int → Int → ah_T → Nat) (hI : ∀ (v4 : Int) (v6 : Int) (h : ah_T), hb s h → I v4 v6 h → B_Page_findFrom_53 G s a1 a2 a3 v4 v6 h Q (fun v4' v6' h' => I v4' v6' h' ∧ μ v4' v6' h' < μ v4 v6 h)) : ∀ (v4 : Int) (v6 : Int) (h : ah_T), hb s h → I v4 v6 h → aw G (rm_R 1 0 0) m_Page_findFrom 0 0 53 [some (av_R (some 150)), some (av_I a1), some (av_I a2), none, some (av_L v4), none, some (av_I v6), none, none] [] h Q := by
  have key : ∀ (n : Nat) (v4 : Int) (v6 : Int) (h : ah_T), hb s h → I v4 v6 h → μ v4 v6 h < n → aw G (rm_R 1 0 0) m_Page_findFrom 0 0 53 [some (av_R (some 150)), some (av_I a1), some (av_I a2), none, some (av_L v4), none, some (av_I v6), none, none] [] h Q := by
    intro n
    induction n with
    | zero => intro v4 v6 h  hb0 hi hm; omega
    | succ n ih => intro v4 v6 h  hb0 hi hm; exact b_Page_findFrom_53  (fun v4' v6' h'  hb' hx => ih v4' v6' h'  hb' hx.1 (by have := hx.2; omega))  hb0 (hI v4 v6 h  hb0 hi)
  exact fun v4 v6 h  hb0 hi => key _ v4 v6 h  hb0 hi (Nat.lt_succ_self _)
def B_Page_findFrom_45 (G : cx_T) (s : Nat) (a1 : Int) (a2 : Int) (a3 : Int) (v4 : Int) (t1 : Int) (t2 : Int) (t3 : Int) (t4 : Int) (h : ah_T) (Q : Option av_T → ah_T → Prop) (X53 : Int → Int → ah_T → Prop) : Prop :=
 con G 0 0 0 m_Page_lineCost [av_L t3, av_I t4] h (fun r h1 => ∃ z3 : Int, r = some (av_L z3) ∧ hb s h1 ∧ ((-9223372036854775808) ≤ (t2 + z3) ∧ (t2 + z3) ≤ 9223372036854775807) ∧ (0 ≤ t1 ∧ t1 < 15) ∧ ∀ h6 : ah_T, h6 = st_l h1 153 (t1).toNat (t2 + z3) → X53 (v4) (2) h6)
theorem b_Page_findFrom_45 {G : cx_T} {s : Nat} {a1 : Int} {a2 : Int} {a3 : Int} {v4 : Int} {t1 : Int} {t2 : Int} {t3 : Int} {t4 : Int} {h : ah_T} {Q : Option av_T → ah_T → Prop} {X53 : Int → Int → ah_T → Prop} (hX53 : ∀ (v4 : Int) (v6 : Int) (h : ah_T), hb s h → X53 v4 v6 h → aw G (rm_R 1 0 0) m_Page_findFrom 0 0 53 [some (av_R (some 150)), some (av_I a1), some (av_I a2), none, some (av_L v4), none, some (av_I v6), none, none] [] h Q) (hb0 : hb s h) (H : B_Page_findFrom_45 G s a1 a2 a3 v4 t1 t2 t3 t4 h Q X53) : aw G (rm_R 1 0 0) m_Page_findFrom 0 0 45 [some (av_R (some 150)), some (av_I a1), some (av_I a2), none, some (av_L v4), none, none, none, none] [av_I t4, av_L t3, av_L t2, av_I t1, av_R (some 153)] h Q := by
  unfold B_Page_findFrom_45 at H
  have hS : isS s := hb0.2.1
  refine A_callS2 m_Page_lineCost d_Page_findFrom_45 l_Page_52 k_Page_lineCost (by decide +kernel) (by decide) (Nat.le_of_ble_eq_true rfl) H (fun r h1 hq => ?_)
  clear H
  obtain ⟨z3, rfl, hb2, H⟩ := hq
  have g4 := H.1
  replace H := H.2
  refine A_laddv (z := (t2 + z3)) d_Page_findFrom_48 (w64_to (by omega) (by unfold i64; omega)) ?_
  have g5 := H.1
  replace H := H.2
  refine A_lastoreN d_Page_findFrom_49 (hb_s hb2 sf_153) g5.1 g5.2 ?_
  refine A_hn (fun h6 eh6 => ?_)
  have hb7 := hb_l hb2 eh6
  replace H := H h6 eh6
  refine A_iconst d_Page_findFrom_50 rfl ?_
  refine A_istore (L' := [some (av_R (some 150)), some (av_I a1), some (av_I a2), none, some (av_L v4), none, some (av_I 2), none, none]) d_Page_findFrom_51 (Nat.le_of_ble_eq_true rfl) rfl ?_
  refine A_pc (pc' := 53) rfl ?_
  exact hX53 (v4) (2) h6  hb7 H
def B_Page_findFrom_0 (G : cx_T) (s : Nat) (a1 : Int) (a2 : Int) (a3 : Int) (h : ah_T) (Q : Option av_T → ah_T → Prop) (X53 : Int → Int → ah_T → Prop) : Prop :=
 (0 ≤ a1 ∧ a1 < 14) ∧ ∀ x2 : Int, x2 = h.2.1 152 (a1).toNat → -2147483648 ≤ x2 → x2 ≤ 2147483647 → ((-2147483648) ≤ (a3 - x2) ∧ (a3 - x2) ≤ 2147483647) ∧ (0 ≤ a1 ∧ a1 < 15) ∧ ∀ h7 : ah_T, h7 = st_i h 154 (a1).toNat 1 → ((-2147483648) ≤ (a1 + 1) ∧ (a1 + 1) ≤ 2147483647) ∧ (0 ≤ (a1 + 1) ∧ (a1 + 1) < 15) ∧ ∀ x12 : Int, x12 = h7.2.2.1 153 ((a1 + 1)).toNat → -9223372036854775808 ≤ x12 → x12 ≤ 9223372036854775807 → (((a1 + 1) = a2 → B_Page_findFrom_45 G s a1 a2 a3 ((a3 - x2)) (a1) (x12) ((a3 - x2)) (1) h7 Q X53) ∧ (¬ (a1 + 1) = a2 → B_Page_findFrom_45 G s a1 a2 a3 ((a3 - x2)) (a1) (x12) ((a3 - x2)) (0) h7 Q X53))
theorem b_Page_findFrom_0 {G : cx_T} {s : Nat} {a1 : Int} {a2 : Int} {a3 : Int} {h : ah_T} {Q : Option av_T → ah_T → Prop} {X53 : Int → Int → ah_T → Prop} (hX53 : ∀ (v4 : Int) (v6 : Int) (h : ah_T), hb s h → X53 v4 v6 h → aw G (rm_R 1 0 0) m_Page_findFrom 0 0 53 [some (av_R (some 150)), some (av_I a1), some (av_I a2), none, some (av_L v4), none, some (av_I v6), none, none] [] h Q) (hb0 : hb s h) (H : B_Page_findFrom_0 G s a1 a2 a3 h Q X53) : aw G (rm_R 1 0 0) m_Page_findFrom 0 0 0 [some (av_R (some 150)), some (av_I a1), some (av_I a2), some (av_I a3), none, none, none, none, none] [] h Q := by
  unfold B_Page_findFrom_0 at H
  have hS : isS s := hb0.2.1
  refine A_iload_n 3 d_Page_findFrom_0 rfl rfl ?_
  refine A_aload_n 0 d_Page_findFrom_1 rfl rfl ?_
  refine A_getAv (z := some 152) T_ok d_Page_findFrom_2 f_Page_15 (hb_s hb0 sf_150) (hb_r hb0 rff_150_2) ?_
  refine A_iload_n 1 d_Page_findFrom_5 rfl rfl ?_
  have g3 := H.1
  replace H := H.2
  refine A_ialoadf d_Page_findFrom_6 (hb_s hb0 sf_152) g3.1 g3.2 (fun x2 ex2 lx2 ux2 => ?_)
  replace H := H x2 ex2 lx2 ux2
  refine A_pc (pc' := 7) rfl ?_
  have g4 := H.1
  replace H := H.2
  refine A_isubv (z := (a3 - x2)) d_Page_findFrom_7 (w32_to (by omega) (by unfold i32; omega)) ?_
  refine A_i2l d_Page_findFrom_8 ?_
  refine A_lstore (L' := [some (av_R (some 150)), some (av_I a1), some (av_I a2), some (av_I a3), some (av_L (a3 - x2)), none, none, none, none]) d_Page_findFrom_9 (Nat.le_of_ble_eq_true rfl) rfl ?_
  refine A_aload_n 0 d_Page_findFrom_11 rfl rfl ?_
  refine A_getAv (z := some 154) T_ok d_Page_findFrom_12 f_Page_22 (hb_s hb0 sf_150) (hb_r hb0 rff_150_4) ?_
  refine A_iload_n 1 d_Page_findFrom_15 rfl rfl ?_
  refine A_pc (pc' := 16) rfl ?_
  refine A_iconst d_Page_findFrom_16 rfl ?_
  have g6 := H.1
  replace H := H.2
  refine A_iastoreN d_Page_findFrom_17 (hb_s hb0 sf_154) g6.1 g6.2 ?_
  refine A_hn (fun h7 eh7 => ?_)
  have hb8 := hb_i hb0 eh7
  replace H := H h7 eh7
  refine A_aload_n 0 d_Page_findFrom_18 rfl rfl ?_
  refine A_getAv (z := some 153) T_ok d_Page_findFrom_19 f_Page_18 (hb_s hb8 sf_150) (hb_r hb8 rff_150_3) ?_
  refine A_iload_n 1 d_Page_findFrom_22 rfl rfl ?_
  refine A_aload_n 0 d_Page_findFrom_23 rfl rfl ?_
  refine A_pc (pc' := 24) rfl ?_
  refine A_getAv (z := some 153) T_ok d_Page_findFrom_24 f_Page_18 (hb_s hb8 sf_150) (hb_r hb8 rff_150_3) ?_
  refine A_iload_n 1 d_Page_findFrom_27 rfl rfl ?_
  refine A_iconst d_Page_findFrom_28 rfl ?_
  have g11 := H.1
  replace H := H.2
  refine A_iaddv (z := (a1 + 1)) d_Page_findFrom_29 (w32_to (by omega) (by unfold i32; omega)) ?_
  have g13 := H.1
  replace H := H.2
  refine A_laloadf d_Page_findFrom_30 (hb_s hb8 sf_153) g13.1 g13.2 (fun x12 ex12 lx12 ux12 => ?_)
  replace H := H x12 ex12 lx12 ux12
  refine A_lload d_Page_findFrom_31 rfl ?_
  refine A_pc (pc' := 33) rfl ?_
  refine A_iload_n 1 d_Page_findFrom_33 rfl rfl ?_
  refine A_iconst d_Page_findFrom_34 rfl ?_
  refine A_iaddv (z := (a1 + 1)) d_Page_findFrom_35 (w32_to (by omega) (by unfold i32; omega)) ?_
  refine A_iload_n 2 d_Page_findFrom_36 rfl rfl ?_
  refine A_icmp_ne (tgt := 44) d_Page_findFrom_37 (by decide) (fun c => ?_) (fun c => ?_)
  · replace H := H.2 c
    refine A_iconst d_Page_findFrom_44 rfl ?_
    refine A_pc (pc' := 45) rfl ?_
    refine A_free (L' := [some (av_R (some 150)), some (av_I a1), some (av_I a2), none, some (av_L (a3 - x2)), none, none, none, none]) (And.intro rfl (And.intro rfl (And.intro rfl (And.intro rfl trivial)))) ?_
    exact b_Page_findFrom_45  hX53  hb8 H
  · replace H := H.1 c
    refine A_iconst d_Page_findFrom_40 rfl ?_
    refine A_goto (tgt := 45) d_Page_findFrom_41 (by decide) ?_
    refine A_pc (pc' := 45) rfl ?_
    refine A_free (L' := [some (av_R (some 150)), some (av_I a1), some (av_I a2), none, some (av_L (a3 - x2)), none, none, none, none]) (And.intro rfl (And.intro rfl (And.intro rfl (And.intro rfl trivial)))) ?_
    exact b_Page_findFrom_45  hX53  hb8 H
theorem c_Page_findFrom {G : cx_T} {s : Nat} {a1 : Int} {a2 : Int} {a3 : Int} {h : ah_T} {Q : Option av_T → ah_T → Prop} {X53 : Int → Int → ah_T → Prop} (hX53 : ∀ (v4 : Int) (v6 : Int) (h : ah_T), hb s h → X53 v4 v6 h → aw G (rm_R 1 0 0) m_Page_findFrom 0 0 53 [some (av_R (some 150)), some (av_I a1), some (av_I a2), none, some (av_L v4), none, some (av_I v6), none, none] [] h Q) (hb0 : hb s h) (H : i32 a1 → i32 a2 → i32 a3 → B_Page_findFrom_0 G s a1 a2 a3 h Q X53) : con G 1 0 0 m_Page_findFrom [av_R (some 150), av_I a1, av_I a2, av_I a3] h Q := by
  have hS : isS s := hb0.2.1
  refine con_of (L := [some (av_R (some 150)), some (av_I a1), some (av_I a2), some (av_I a3), none, none, none, none, none]) (by decide +kernel) (Nat.le_of_ble_eq_true rfl) rfl ?_
  refine A_locI 1 rfl (fun ra1 => ?_)
  refine A_locI 2 rfl (fun ra2 => ?_)
  refine A_locI 3 rfl (fun ra3 => ?_)
  exact b_Page_findFrom_0  hX53 hb0 (H ra1 ra2 ra3)
def B_Page_find_141 (G : cx_T) (s : Nat) (a1 : Nat) (a2 : Int) (h : ah_T) (Q : Option av_T → ah_T → Prop) : Prop :=
 ∀ x2 : Int, x2 = h.2.2.1 153 0 → -9223372036854775808 ≤ x2 → x2 ≤ 9223372036854775807 → ((-2147483648) ≤ x2 ∧ x2 ≤ 2147483647) ∧ Q (some (av_I x2)) h
theorem b_Page_find_141 {G : cx_T} {s : Nat} {a1 : Nat} {a2 : Int} (ha1 : isS a1) {h : ah_T} {Q : Option av_T → ah_T → Prop} (hb0 : hb s h) (H : B_Page_find_141 G s a1 a2 h Q ) : aw G (rm_R 5 0 0) m_Page_find 0 0 141 [some (av_R (some 150)), none, none, none, none] [] h Q := by
  unfold B_Page_find_141 at H
  have hS : isS s := hb0.2.1
  refine A_aload_n 0 d_Page_find_141 rfl rfl ?_
  refine A_getAv (z := some 153) T_ok d_Page_find_142 f_Page_18 (hb_s hb0 sf_150) (hb_r hb0 rff_150_3) ?_
  refine A_iconst d_Page_find_145 rfl ?_
  refine A_laloadf d_Page_find_146 (hb_s hb0 sf_153) (by decide) (by decide) (fun x2 ex2 lx2 ux2 => ?_)
  replace H := H x2 ex2 lx2 ux2
  have g3 := H.1
  replace H := H.2
  refine A_l2iv (z := x2) d_Page_find_147 (w32_id (by unfold i32; omega)) ?_
  refine A_pc (pc' := 148) rfl ?_
  exact A_iret d_Page_find_148 (by decide) rfl H
def B_Page_find_82 (G : cx_T) (s : Nat) (a1 : Nat) (a2 : Int) (v3 : Int) (v4 : Int) (h : ah_T) (Q : Option av_T → ah_T → Prop) (X82 : Int → Int → ah_T → Prop) : Prop :=
 ((v3 ≤ v4 → B_Page_find_141 G s a1 a2 h Q ) ∧ (¬ v3 ≤ v4 → ∀ x1 : Int, x1 = h.2.1 150 1 → -2147483648 ≤ x1 → x1 ≤ 2147483647 → ((14 ≤ x1 → B_Page_find_141 G s a1 a2 h Q ) ∧ (¬ 14 ≤ x1 → (0 ≤ v4 ∧ v4 < 15) ∧ ∀ x6 : Int, x6 = h.2.1 154 (v4).toNat → -2147483648 ≤ x6 → x6 ≤ 2147483647 → (0 ≤ x1 ∧ x1 < 14) ∧ ∀ h9 : ah_T, h9 = st_i h 151 (x1).toNat x6 → ((-2147483648) ≤ (x1 + 1) ∧ (x1 + 1) ≤ 2147483647) ∧ ∀ h13 : ah_T, h13 = st_i h9 150 1 (x1 + 1) → ((-2147483648) ≤ (v4 + x6) ∧ (v4 + x6) ≤ 2147483647) ∧ X82 (v3) ((v4 + x6)) h13))))
theorem b_Page_find_82 {G : cx_T} {s : Nat} {a1 : Nat} {a2 : Int} (ha1 : isS a1) {v3 : Int} {v4 : Int} {h : ah_T} {Q : Option av_T → ah_T → Prop} {X82 : Int → Int → ah_T → Prop} (hX82 : ∀ (v3 : Int) (v4 : Int) (h : ah_T), hb s h → X82 v3 v4 h → aw G (rm_R 5 0 0) m_Page_find 0 0 82 [some (av_R (some 150)), none, none, some (av_I v3), some (av_I v4)] [] h Q) (hb0 : hb s h) (H : B_Page_find_82 G s a1 a2 v3 v4 h Q X82) : aw G (rm_R 5 0 0) m_Page_find 0 0 82 [some (av_R (some 150)), none, none, some (av_I v3), some (av_I v4)] [] h Q := by
  unfold B_Page_find_82 at H
  have hS : isS s := hb0.2.1
  refine A_iload d_Page_find_82 rfl ?_
  refine A_iload_n 3 d_Page_find_84 rfl rfl ?_
  refine A_icmp_ge (tgt := 141) d_Page_find_85 (by decide) (fun c => ?_) (fun c => ?_)
  · replace H := H.1 c
    refine A_pc (pc' := 141) rfl ?_
    refine A_free (L' := [some (av_R (some 150)), none, none, none, none]) (And.intro rfl trivial) ?_
    exact b_Page_find_141 ha1   hb0 H
  · replace H := H.2 c
    refine A_aload_n 0 d_Page_find_88 rfl rfl ?_
    refine A_getIf T_ok d_Page_find_89 f_Page_34 (hb_s hb0 sf_150) (fun x1 ex1 lx1 ux1 => ?_)
    replace H := H x1 ex1 lx1 ux1
    refine A_aload_n 0 d_Page_find_92 rfl rfl ?_
    refine A_getAv (z := some 151) T_ok d_Page_find_93 f_Page_11 (hb_s hb0 sf_150) (hb_r hb0 rff_150_0) ?_
    refine A_alenN d_Page_find_96 (hb_s hb0 sf_151) (by decide) (by decide) ?_
    refine A_pc (pc' := 97) rfl ?_
    refine A_icmp_ge (tgt := 141) d_Page_find_97 (by decide) (fun c => ?_) (fun c => ?_)
    · replace H := H.1 c
      refine A_pc (pc' := 141) rfl ?_
      refine A_free (L' := [some (av_R (some 150)), none, none, none, none]) (And.intro rfl trivial) ?_
      exact b_Page_find_141 ha1   hb0 H
    · replace H := H.2 c
      refine A_aload_n 0 d_Page_find_100 rfl rfl ?_
      refine A_getAv (z := some 151) T_ok d_Page_find_101 f_Page_11 (hb_s hb0 sf_150) (hb_r hb0 rff_150_0) ?_
      refine A_aload_n 0 d_Page_find_104 rfl rfl ?_
      refine A_getIv (z := x1) T_ok d_Page_find_105 f_Page_34 (hb_s hb0 sf_150) ex1.symm ?_
      refine A_aload_n 0 d_Page_find_108 rfl rfl ?_
      refine A_pc (pc' := 109) rfl ?_
      refine A_getAv (z := some 154) T_ok d_Page_find_109 f_Page_22 (hb_s hb0 sf_150) (hb_r hb0 rff_150_4) ?_
      refine A_iload d_Page_find_112 rfl ?_
      have g7 := H.1
      replace H := H.2
      refine A_ialoadf d_Page_find_114 (hb_s hb0 sf_154) g7.1 g7.2 (fun x6 ex6 lx6 ux6 => ?_)
      replace H := H x6 ex6 lx6 ux6
      have g8 := H.1
      replace H := H.2
      refine A_iastoreN d_Page_find_115 (hb_s hb0 sf_151) g8.1 g8.2 ?_
      refine A_hn (fun h9 eh9 => ?_)
      have hb10 := hb_i hb0 eh9
      replace H := H h9 eh9
      refine A_aload_n 0 d_Page_find_116 rfl rfl ?_
      refine A_dupR d_Page_find_117 ?_
      refine A_pc (pc' := 118) rfl ?_
      refine A_getIv (z := x1) T_ok d_Page_find_118 f_Page_34 (hb_s hb10 sf_150) ((mm_i eh9 (fun q => absurd q.1 (by decide))).trans ex1.symm) ?_
      refine A_iconst d_Page_find_121 rfl ?_
      have g12 := H.1
      replace H := H.2
      refine A_iaddv (z := (x1 + 1)) d_Page_find_122 (w32_to (by omega) (by unfold i32; omega)) ?_
      refine A_putI T_ok d_Page_find_123 f_Page_34 (hb_s hb10 sf_150) fin_f ?_
      refine A_hn (fun h13 eh13 => ?_)
      have hb14 := hb_i hb10 eh13
      replace H := H h13 eh13
      refine A_iload d_Page_find_126 rfl ?_
      refine A_aload_n 0 d_Page_find_128 rfl rfl ?_
      refine A_pc (pc' := 129) rfl ?_
      refine A_getAv (z := some 154) T_ok d_Page_find_129 f_Page_22 (hb_s hb14 sf_150) (hb_r hb14 rff_150_4) ?_
      refine A_iload d_Page_find_132 rfl ?_
      refine A_ialoadv (z := x6) d_Page_find_134 (hb_s hb14 sf_154) (by omega) (by omega) ((mm_i eh13 (fun q => absurd q.1 (by decide))).trans ((mm_i eh9 (fun q => absurd q.1 (by decide))).trans ex6.symm)) ?_
      have g17 := H.1
      replace H := H.2
      refine A_iaddv (z := (v4 + x6)) d_Page_find_135 (w32_to (by omega) (by unfold i32; omega)) ?_
      refine A_istore (L' := [some (av_R (some 150)), none, none, some (av_I v3), some (av_I (v4 + x6))]) d_Page_find_136 (Nat.le_of_ble_eq_true rfl) rfl ?_
      refine A_goto (tgt := 82) d_Page_find_138 (by decide) ?_
      refine A_pc (pc' := 82) rfl ?_
      exact hX82 (v3) ((v4 + x6)) h13  hb14 H
theorem lp_Page_find_82 {G : cx_T} {s : Nat} {a1 : Nat} {a2 : Int} (ha1 : isS a1) {Q : Option av_T → ah_T → Prop} (I : Int → Int → ah_T → Prop) (μ : Int → Int → ah_T → Nat) (hI : ∀ (v3 : Int) (v4 : Int) (h : ah_T), hb s h → I v3 v4 h → B_Page_find_82 G s a1 a2 v3 v4 h Q (fun v3' v4' h' => I v3' v4' h' ∧ μ v3' v4' h' < μ v3 v4 h)) : ∀ (v3 : Int) (v4 : Int) (h : ah_T), hb s h → I v3 v4 h → aw G (rm_R 5 0 0) m_Page_find 0 0 82 [some (av_R (some 150)), none, none, some (av_I v3), some (av_I v4)] [] h Q := by
  have key : ∀ (n : Nat) (v3 : Int) (v4 : Int) (h : ah_T), hb s h → I v3 v4 h → μ v3 v4 h < n → aw G (rm_R 5 0 0) m_Page_find 0 0 82 [some (av_R (some 150)), none, none, some (av_I v3), some (av_I v4)] [] h Q := by
    intro n
    induction n with
    | zero => intro v3 v4 h  hb0 hi hm; omega
    | succ n ih => intro v3 v4 h  hb0 hi hm; exact b_Page_find_82 ha1 (fun v3' v4' h'  hb' hx => ih v3' v4' h'  hb' hx.1 (by have := hx.2; omega))  hb0 (hI v3 v4 h  hb0 hi)
  exact fun v3 v4 h  hb0 hi => key _ v3 v4 h  hb0 hi (Nat.lt_succ_self _)
def B_Page_find_55 (G : cx_T) (s : Nat) (a1 : Nat) (a2 : Int) (v3 : Int) (v4 : Int) (h : ah_T) (Q : Option av_T → ah_T → Prop) (X55 : Int → Int → ah_T → Prop) (X82 : Int → Int → ah_T → Prop) : Prop :=
 ((v4 < 0 → ∀ h1 : ah_T, h1 = st_i h 150 1 0 → X82 (v3) (0) h1) ∧ (¬ v4 < 0 → con G 1 0 0 m_Page_findFrom [av_R (some 150), av_I v4, av_I v3, av_I a2] h (fun r h3 => r = none ∧ hb s h3 ∧ ((-2147483648) ≤ (v4 - 1) ∧ (v4 - 1) ≤ 2147483647) ∧ X55 (v3) ((v4 - 1)) h3)))
theorem b_Page_find_55 {G : cx_T} {s : Nat} {a1 : Nat} {a2 : Int} (ha1 : isS a1) {v3 : Int} {v4 : Int} {h : ah_T} {Q : Option av_T → ah_T → Prop} {X55 : Int → Int → ah_T → Prop} {X82 : Int → Int → ah_T → Prop} (hX55 : ∀ (v3 : Int) (v4 : Int) (h : ah_T), hb s h → X55 v3 v4 h → aw G (rm_R 5 0 0) m_Page_find 0 0 55 [some (av_R (some 150)), none, some (av_I a2), some (av_I v3), some (av_I v4)] [] h Q) (hX82 : ∀ (v3 : Int) (v4 : Int) (h : ah_T), hb s h → X82 v3 v4 h → aw G (rm_R 5 0 0) m_Page_find 0 0 82 [some (av_R (some 150)), none, none, some (av_I v3), some (av_I v4)] [] h Q) (hb0 : hb s h) (H : B_Page_find_55 G s a1 a2 v3 v4 h Q X55 X82) : aw G (rm_R 5 0 0) m_Page_find 0 0 55 [some (av_R (some 150)), none, some (av_I a2), some (av_I v3), some (av_I v4)] [] h Q := by
  unfold B_Page_find_55 at H
  have hS : isS s := hb0.2.1
  refine A_iload d_Page_find_55 rfl ?_
  refine A_if_lt (tgt := 74) d_Page_find_57 (by decide) (fun c => ?_) (fun c => ?_)
  · replace H := H.1 c
    refine A_aload_n 0 d_Page_find_74 rfl rfl ?_
    refine A_iconst d_Page_find_75 rfl ?_
    refine A_putI T_ok d_Page_find_76 f_Page_34 (hb_s hb0 sf_150) fin_f ?_
    refine A_hn (fun h1 eh1 => ?_)
    have hb2 := hb_i hb0 eh1
    replace H := H h1 eh1
    refine A_iconst d_Page_find_79 rfl ?_
    refine A_istore (L' := [some (av_R (some 150)), none, some (av_I a2), some (av_I v3), some (av_I 0)]) d_Page_find_80 (Nat.le_of_ble_eq_true rfl) rfl ?_
    refine A_pc (pc' := 82) rfl ?_
    refine A_free (L' := [some (av_R (some 150)), none, none, some (av_I v3), some (av_I 0)]) (And.intro rfl (And.intro rfl (And.intro rfl trivial))) ?_
    exact hX82 (v3) (0) h1  hb2 H
  · replace H := H.2 c
    refine A_aload_n 0 d_Page_find_60 rfl rfl ?_
    refine A_iload d_Page_find_61 rfl ?_
    refine A_iload_n 3 d_Page_find_63 rfl rfl ?_
    refine A_iload_n 2 d_Page_find_64 rfl rfl ?_
    refine A_callV3 m_Page_findFrom T_ok d_Page_find_65 l_Page_48 k_Page_findFrom (hb_s hb0 sf_150) rfl (by decide +kernel) (by decide) (Nat.le_of_ble_eq_true rfl) H (fun r h3 hq => ?_)
    clear H
    obtain ⟨rfl, hb4, H⟩ := hq
    have g6 := H.1
    replace H := H.2
    refine A_iincv (z := (v4 - 1)) (L' := [some (av_R (some 150)), none, some (av_I a2), some (av_I v3), some (av_I (v4 - 1))]) d_Page_find_68 rfl (w32_to (by omega) (by unfold i32; omega)) rfl ?_
    refine A_goto (tgt := 55) d_Page_find_71 (by decide) ?_
    refine A_pc (pc' := 55) rfl ?_
    exact hX55 (v3) ((v4 - 1)) h3  hb4 H
theorem lp_Page_find_55 {G : cx_T} {s : Nat} {a1 : Nat} {a2 : Int} (ha1 : isS a1) {Q : Option av_T → ah_T → Prop} {X82 : Int → Int → ah_T → Prop} (hX82 : ∀ (v3 : Int) (v4 : Int) (h : ah_T), hb s h → X82 v3 v4 h → aw G (rm_R 5 0 0) m_Page_find 0 0 82 [some (av_R (some 150)), none, none, some (av_I v3), some (av_I v4)] [] h Q) (I : Int → Int → ah_T → Prop) (μ : Int → Int → ah_T → Nat) (hI : ∀ (v3 : Int) (v4 : Int) (h : ah_T), hb s h → I v3 v4 h → B_Page_find_55 G s a1 a2 v3 v4 h Q (fun v3' v4' h' => I v3' v4' h' ∧ μ v3' v4' h' < μ v3 v4 h) X82) : ∀ (v3 : Int) (v4 : Int) (h : ah_T), hb s h → I v3 v4 h → aw G (rm_R 5 0 0) m_Page_find 0 0 55 [some (av_R (some 150)), none, some (av_I a2), some (av_I v3), some (av_I v4)] [] h Q := by
  have key : ∀ (n : Nat) (v3 : Int) (v4 : Int) (h : ah_T), hb s h → I v3 v4 h → μ v3 v4 h < n → aw G (rm_R 5 0 0) m_Page_find 0 0 55 [some (av_R (some 150)), none, some (av_I a2), some (av_I v3), some (av_I v4)] [] h Q := by
    intro n
    induction n with
    | zero => intro v3 v4 h  hb0 hi hm; omega
    | succ n ih => intro v3 v4 h  hb0 hi hm; exact b_Page_find_55 ha1 (fun v3' v4' h'  hb' hx => ih v3' v4' h'  hb' hx.1 (by have := hx.2; omega)) hX82  hb0 (hI v3 v4 h  hb0 hi)
  exact fun v3 v4 h  hb0 hi => key _ v3 v4 h  hb0 hi (Nat.lt_succ_self _)
def B_Page_find_17 (G : cx_T) (s : Nat) (a1 : Nat) (a2 : Int) (v3 : Int) (v4 : Int) (h : ah_T) (Q : Option av_T → ah_T → Prop) (X17 : Int → Int → ah_T → Prop) (X55 : Int → Int → ah_T → Prop) : Prop :=
 ((v3 ≤ v4 → (0 ≤ v3 ∧ v3 < 15) ∧ ∀ h3 : ah_T, h3 = st_l h 153 (v3).toNat 0 → ((-2147483648) ≤ (v3 - 1) ∧ (v3 - 1) ≤ 2147483647) ∧ X55 (v3) ((v3 - 1)) h3) ∧ (¬ v3 ≤ v4 → con G 4 0 0 m_Page_widthOf [av_R (some 150), av_R (some a1), av_I v4] h (fun r h7 => ∃ z9 : Int, r = some (av_I z9) ∧ hb s h7 ∧ (0 ≤ v4 ∧ v4 < 14) ∧ ∀ h11 : ah_T, h11 = st_i h7 152 (v4).toNat z9 → ((-2147483648) ≤ (v4 + 1) ∧ (v4 + 1) ≤ 2147483647) ∧ X17 (v3) ((v4 + 1)) h11)))
theorem b_Page_find_17 {G : cx_T} {s : Nat} {a1 : Nat} {a2 : Int} (ha1 : isS a1) {v3 : Int} {v4 : Int} {h : ah_T} {Q : Option av_T → ah_T → Prop} {X17 : Int → Int → ah_T → Prop} {X55 : Int → Int → ah_T → Prop} (hX17 : ∀ (v3 : Int) (v4 : Int) (h : ah_T), hb s h → X17 v3 v4 h → aw G (rm_R 5 0 0) m_Page_find 0 0 17 [some (av_R (some 150)), some (av_R (some a1)), some (av_I a2), some (av_I v3), some (av_I v4)] [] h Q) (hX55 : ∀ (v3 : Int) (v4 : Int) (h : ah_T), hb s h → X55 v3 v4 h → aw G (rm_R 5 0 0) m_Page_find 0 0 55 [some (av_R (some 150)), none, some (av_I a2), some (av_I v3), some (av_I v4)] [] h Q) (hb0 : hb s h) (H : B_Page_find_17 G s a1 a2 v3 v4 h Q X17 X55) : aw G (rm_R 5 0 0) m_Page_find 0 0 17 [some (av_R (some 150)), some (av_R (some a1)), some (av_I a2), some (av_I v3), some (av_I v4)] [] h Q := by
  unfold B_Page_find_17 at H
  have hS : isS s := hb0.2.1
  refine A_iload d_Page_find_17 rfl ?_
  refine A_iload_n 3 d_Page_find_19 rfl rfl ?_
  refine A_icmp_ge (tgt := 43) d_Page_find_20 (by decide) (fun c => ?_) (fun c => ?_)
  · replace H := H.1 c
    refine A_aload_n 0 d_Page_find_43 rfl rfl ?_
    refine A_getAv (z := some 153) T_ok d_Page_find_44 f_Page_18 (hb_s hb0 sf_150) (hb_r hb0 rff_150_3) ?_
    refine A_iload_n 3 d_Page_find_47 rfl rfl ?_
    refine A_lconst_0 d_Page_find_48 ?_
    have g2 := H.1
    replace H := H.2
    refine A_lastoreN d_Page_find_49 (hb_s hb0 sf_153) g2.1 g2.2 ?_
    refine A_hn (fun h3 eh3 => ?_)
    have hb4 := hb_l hb0 eh3
    replace H := H h3 eh3
    refine A_pc (pc' := 50) rfl ?_
    refine A_iload_n 3 d_Page_find_50 rfl rfl ?_
    refine A_iconst d_Page_find_51 rfl ?_
    have g5 := H.1
    replace H := H.2
    refine A_isubv (z := (v3 - 1)) d_Page_find_52 (w32_to (by omega) (by unfold i32; omega)) ?_
    refine A_istore (L' := [some (av_R (some 150)), some (av_R (some a1)), some (av_I a2), some (av_I v3), some (av_I (v3 - 1))]) d_Page_find_53 (Nat.le_of_ble_eq_true rfl) rfl ?_
    refine A_pc (pc' := 55) rfl ?_
    refine A_free (L' := [some (av_R (some 150)), none, some (av_I a2), some (av_I v3), some (av_I (v3 - 1))]) (And.intro rfl (And.intro rfl (And.intro rfl (And.intro rfl trivial)))) ?_
    exact hX55 (v3) ((v3 - 1)) h3  hb4 H
  · replace H := H.2 c
    refine A_aload_n 0 d_Page_find_23 rfl rfl ?_
    refine A_getAv (z := some 152) T_ok d_Page_find_24 f_Page_15 (hb_s hb0 sf_150) (hb_r hb0 rff_150_2) ?_
    refine A_iload d_Page_find_27 rfl ?_
    refine A_aload_n 0 d_Page_find_29 rfl rfl ?_
    refine A_aload_n 1 d_Page_find_30 rfl rfl ?_
    refine A_pc (pc' := 31) rfl ?_
    refine A_iload d_Page_find_31 rfl ?_
    refine A_callV2 m_Page_widthOf T_ok d_Page_find_33 l_Page_44 k_Page_widthOf (hb_s hb0 sf_150) rfl (by decide +kernel) (by decide) (Nat.le_of_ble_eq_true rfl) H (fun r h7 hq => ?_)
    clear H
    obtain ⟨z9, rfl, hb8, H⟩ := hq
    have g10 := H.1
    replace H := H.2
    refine A_iastoreN d_Page_find_36 (hb_s hb8 sf_152) g10.1 g10.2 ?_
    refine A_hn (fun h11 eh11 => ?_)
    have hb12 := hb_i hb8 eh11
    replace H := H h11 eh11
    have g13 := H.1
    replace H := H.2
    refine A_iincv (z := (v4 + 1)) (L' := [some (av_R (some 150)), some (av_R (some a1)), some (av_I a2), some (av_I v3), some (av_I (v4 + 1))]) d_Page_find_37 rfl (w32_to (by omega) (by unfold i32; omega)) rfl ?_
    refine A_goto (tgt := 17) d_Page_find_40 (by decide) ?_
    refine A_pc (pc' := 17) rfl ?_
    exact hX17 (v3) ((v4 + 1)) h11  hb12 H
theorem lp_Page_find_17 {G : cx_T} {s : Nat} {a1 : Nat} {a2 : Int} (ha1 : isS a1) {Q : Option av_T → ah_T → Prop} {X55 : Int → Int → ah_T → Prop} (hX55 : ∀ (v3 : Int) (v4 : Int) (h : ah_T), hb s h → X55 v3 v4 h → aw G (rm_R 5 0 0) m_Page_find 0 0 55 [some (av_R (some 150)), none, some (av_I a2), some (av_I v3), some (av_I v4)] [] h Q) (I : Int → Int → ah_T → Prop) (μ : Int → Int → ah_T → Nat) (hI : ∀ (v3 : Int) (v4 : Int) (h : ah_T), hb s h → I v3 v4 h → B_Page_find_17 G s a1 a2 v3 v4 h Q (fun v3' v4' h' => I v3' v4' h' ∧ μ v3' v4' h' < μ v3 v4 h) X55) : ∀ (v3 : Int) (v4 : Int) (h : ah_T), hb s h → I v3 v4 h → aw G (rm_R 5 0 0) m_Page_find 0 0 17 [some (av_R (some 150)), some (av_R (some a1)), some (av_I a2), some (av_I v3), some (av_I v4)] [] h Q := by
  have key : ∀ (n : Nat) (v3 : Int) (v4 : Int) (h : ah_T), hb s h → I v3 v4 h → μ v3 v4 h < n → aw G (rm_R 5 0 0) m_Page_find 0 0 17 [some (av_R (some 150)), some (av_R (some a1)), some (av_I a2), some (av_I v3), some (av_I v4)] [] h Q := by
    intro n
    induction n with
    | zero => intro v3 v4 h  hb0 hi hm; omega
    | succ n ih => intro v3 v4 h  hb0 hi hm; exact b_Page_find_17 ha1 (fun v3' v4' h'  hb' hx => ih v3' v4' h'  hb' hx.1 (by have := hx.2; omega)) hX55  hb0 (hI v3 v4 h  hb0 hi)
  exact fun v3 v4 h  hb0 hi => key _ v3 v4 h  hb0 hi (Nat.lt_succ_self _)
def B_Page_find_0 (G : cx_T) (s : Nat) (a1 : Nat) (a2 : Int) (h : ah_T) (Q : Option av_T → ah_T → Prop) (X17 : Int → Int → ah_T → Prop) : Prop :=
 con G 1 0 0 m_Score_mostBars [av_R (some a1)] h (fun r h1 => ∃ z3 : Int, r = some (av_I z3) ∧ hb s h1 ∧ ((z3 ≤ 14 → X17 (z3) (0) h1) ∧ (¬ z3 ≤ 14 → Q (some (av_I (-4))) h1)))
theorem b_Page_find_0 {G : cx_T} {s : Nat} {a1 : Nat} {a2 : Int} (ha1 : isS a1) {h : ah_T} {Q : Option av_T → ah_T → Prop} {X17 : Int → Int → ah_T → Prop} (hX17 : ∀ (v3 : Int) (v4 : Int) (h : ah_T), hb s h → X17 v3 v4 h → aw G (rm_R 5 0 0) m_Page_find 0 0 17 [some (av_R (some 150)), some (av_R (some a1)), some (av_I a2), some (av_I v3), some (av_I v4)] [] h Q) (hb0 : hb s h) (H : B_Page_find_0 G s a1 a2 h Q X17) : aw G (rm_R 5 0 0) m_Page_find 0 0 0 [some (av_R (some 150)), some (av_R (some a1)), some (av_I a2), none, none] [] h Q := by
  unfold B_Page_find_0 at H
  have hS : isS s := hb0.2.1
  refine A_aload_n 1 d_Page_find_0 rfl rfl ?_
  refine A_callV0 m_Score_mostBars T_ok d_Page_find_1 l_Page_38 k_Score_mostBars (hs_S hb0 ha1) rfl (by decide +kernel) (by decide) (Nat.le_of_ble_eq_true rfl) H (fun r h1 hq => ?_)
  clear H
  obtain ⟨z3, rfl, hb2, H⟩ := hq
  refine A_istore_n 3 (L' := [some (av_R (some 150)), some (av_R (some a1)), some (av_I a2), some (av_I z3), none]) d_Page_find_4 rfl (Nat.le_of_ble_eq_true rfl) rfl ?_
  refine A_iload_n 3 d_Page_find_5 rfl rfl ?_
  refine A_bipush d_Page_find_6 rfl ?_
  refine A_icmp_le (tgt := 14) d_Page_find_8 (by decide) (fun c => ?_) (fun c => ?_)
  · replace H := H.1 c
    refine A_iconst d_Page_find_14 rfl ?_
    refine A_istore (L' := [some (av_R (some 150)), some (av_R (some a1)), some (av_I a2), some (av_I z3), some (av_I 0)]) d_Page_find_15 (Nat.le_of_ble_eq_true rfl) rfl ?_
    refine A_pc (pc' := 17) rfl ?_
    exact hX17 (z3) (0) h1  hb2 H
  · replace H := H.2 c
    refine A_bipush d_Page_find_11 rfl ?_
    exact A_iret d_Page_find_13 (by decide) rfl H
theorem c_Page_find {G : cx_T} {s : Nat} {a1 : Nat} {a2 : Int} (ha1 : isS a1) {h : ah_T} {Q : Option av_T → ah_T → Prop} {X17 : Int → Int → ah_T → Prop} (hX17 : ∀ (v3 : Int) (v4 : Int) (h : ah_T), hb s h → X17 v3 v4 h → aw G (rm_R 5 0 0) m_Page_find 0 0 17 [some (av_R (some 150)), some (av_R (some a1)), some (av_I a2), some (av_I v3), some (av_I v4)] [] h Q) (hb0 : hb s h) (H : i32 a2 → B_Page_find_0 G s a1 a2 h Q X17) : con G 5 0 0 m_Page_find [av_R (some 150), av_R (some a1), av_I a2] h Q := by
  have hS : isS s := hb0.2.1
  refine con_of (L := [some (av_R (some 150)), some (av_R (some a1)), some (av_I a2), none, none]) (by decide +kernel) (Nat.le_of_ble_eq_true rfl) rfl ?_
  refine A_locI 2 rfl (fun ra2 => ?_)
  exact b_Page_find_0 ha1 hX17 hb0 (H ra2)
def B_Page_barsIn_31 (G : cx_T) (s : Nat) (a1 : Int) (t0 : Int) (h : ah_T) (Q : Option av_T → ah_T → Prop) : Prop :=
 Q (some (av_I t0)) h
theorem b_Page_barsIn_31 {G : cx_T} {s : Nat} {a1 : Int} {t0 : Int} {h : ah_T} {Q : Option av_T → ah_T → Prop} (hb0 : hb s h) (H : B_Page_barsIn_31 G s a1 t0 h Q ) : aw G (rm_R 0 0 0) m_Page_barsIn 0 0 31 [none, none] [av_I t0] h Q := by
  unfold B_Page_barsIn_31 at H
  have hS : isS s := hb0.2.1
  exact A_iret d_Page_barsIn_31 (by decide) rfl H
def B_Page_barsIn_30 (G : cx_T) (s : Nat) (a1 : Int) (h : ah_T) (Q : Option av_T → ah_T → Prop) : Prop :=
 B_Page_barsIn_31 G s a1 (0) h Q 
theorem b_Page_barsIn_30 {G : cx_T} {s : Nat} {a1 : Int} {h : ah_T} {Q : Option av_T → ah_T → Prop} (hb0 : hb s h) (H : B_Page_barsIn_30 G s a1 h Q ) : aw G (rm_R 0 0 0) m_Page_barsIn 0 0 30 [none, none] [] h Q := by
  unfold B_Page_barsIn_30 at H
  have hS : isS s := hb0.2.1
  refine A_iconst d_Page_barsIn_30 rfl ?_
  refine A_pc (pc' := 31) rfl ?_
  exact b_Page_barsIn_31    hb0 H
def B_Page_barsIn_0 (G : cx_T) (s : Nat) (a1 : Int) (h : ah_T) (Q : Option av_T → ah_T → Prop) : Prop :=
 ((a1 < 0 → B_Page_barsIn_30 G s a1 h Q ) ∧ (¬ a1 < 0 → ∀ x1 : Int, x1 = h.2.1 150 1 → -2147483648 ≤ x1 → x1 ≤ 2147483647 → ((x1 ≤ a1 → B_Page_barsIn_30 G s a1 h Q ) ∧ (¬ x1 ≤ a1 → ((14 ≤ a1 → B_Page_barsIn_30 G s a1 h Q ) ∧ (¬ 14 ≤ a1 → (0 ≤ a1 ∧ a1 < 14) ∧ ∀ x4 : Int, x4 = h.2.1 151 (a1).toNat → -2147483648 ≤ x4 → x4 ≤ 2147483647 → B_Page_barsIn_31 G s a1 (x4) h Q ))))))
theorem b_Page_barsIn_0 {G : cx_T} {s : Nat} {a1 : Int} {h : ah_T} {Q : Option av_T → ah_T → Prop} (hb0 : hb s h) (H : B_Page_barsIn_0 G s a1 h Q ) : aw G (rm_R 0 0 0) m_Page_barsIn 0 0 0 [some (av_R (some 150)), some (av_I a1)] [] h Q := by
  unfold B_Page_barsIn_0 at H
  have hS : isS s := hb0.2.1
  refine A_iload_n 1 d_Page_barsIn_0 rfl rfl ?_
  refine A_if_lt (tgt := 30) d_Page_barsIn_1 (by decide) (fun c => ?_) (fun c => ?_)
  · replace H := H.1 c
    refine A_pc (pc' := 30) rfl ?_
    refine A_free (L' := [none, none]) trivial ?_
    exact b_Page_barsIn_30    hb0 H
  · replace H := H.2 c
    refine A_iload_n 1 d_Page_barsIn_4 rfl rfl ?_
    refine A_aload_n 0 d_Page_barsIn_5 rfl rfl ?_
    refine A_getIf T_ok d_Page_barsIn_6 f_Page_34 (hb_s hb0 sf_150) (fun x1 ex1 lx1 ux1 => ?_)
    replace H := H x1 ex1 lx1 ux1
    refine A_icmp_ge (tgt := 30) d_Page_barsIn_9 (by decide) (fun c => ?_) (fun c => ?_)
    · replace H := H.1 c
      refine A_pc (pc' := 30) rfl ?_
      refine A_free (L' := [none, none]) trivial ?_
      exact b_Page_barsIn_30    hb0 H
    · replace H := H.2 c
      refine A_iload_n 1 d_Page_barsIn_12 rfl rfl ?_
      refine A_aload_n 0 d_Page_barsIn_13 rfl rfl ?_
      refine A_getAv (z := some 151) T_ok d_Page_barsIn_14 f_Page_11 (hb_s hb0 sf_150) (hb_r hb0 rff_150_0) ?_
      refine A_alenN d_Page_barsIn_17 (hb_s hb0 sf_151) (by decide) (by decide) ?_
      refine A_icmp_ge (tgt := 30) d_Page_barsIn_18 (by decide) (fun c => ?_) (fun c => ?_)
      · replace H := H.1 c
        refine A_pc (pc' := 30) rfl ?_
        refine A_free (L' := [none, none]) trivial ?_
        exact b_Page_barsIn_30    hb0 H
      · replace H := H.2 c
        refine A_aload_n 0 d_Page_barsIn_21 rfl rfl ?_
        refine A_getAv (z := some 151) T_ok d_Page_barsIn_22 f_Page_11 (hb_s hb0 sf_150) (hb_r hb0 rff_150_0) ?_
        refine A_iload_n 1 d_Page_barsIn_25 rfl rfl ?_
        have g5 := H.1
        replace H := H.2
        refine A_ialoadf d_Page_barsIn_26 (hb_s hb0 sf_151) g5.1 g5.2 (fun x4 ex4 lx4 ux4 => ?_)
        replace H := H x4 ex4 lx4 ux4
        refine A_goto (tgt := 31) d_Page_barsIn_27 (by decide) ?_
        refine A_pc (pc' := 31) rfl ?_
        refine A_free (L' := [none, none]) trivial ?_
        exact b_Page_barsIn_31    hb0 H
theorem c_Page_barsIn {G : cx_T} {s : Nat} {a1 : Int} {h : ah_T} {Q : Option av_T → ah_T → Prop} (hb0 : hb s h) (H : i32 a1 → B_Page_barsIn_0 G s a1 h Q ) : con G 0 0 0 m_Page_barsIn [av_R (some 150), av_I a1] h Q := by
  have hS : isS s := hb0.2.1
  refine con_of (L := [some (av_R (some 150)), some (av_I a1)]) (by decide +kernel) (Nat.le_of_ble_eq_true rfl) rfl ?_
  refine A_locI 1 rfl (fun ra1 => ?_)
  exact b_Page_barsIn_0   hb0 (H ra1)
def B_PM_breaks_12 (G : cx_T) (s : Nat) (a1 : Int) (h : ah_T) (Q : Option av_T → ah_T → Prop) : Prop :=
 Q (some (av_I (-1))) h
theorem b_PM_breaks_12 {G : cx_T} {s : Nat} {a1 : Int} {h : ah_T} {Q : Option av_T → ah_T → Prop} (hb0 : hb s h) (H : B_PM_breaks_12 G s a1 h Q ) : aw G (rm_R 6 0 0) m_PM_breaks 0 0 12 [none, none] [] h Q := by
  unfold B_PM_breaks_12 at H
  have hS : isS s := hb0.2.1
  refine A_iconst d_PM_breaks_12 rfl ?_
  exact A_iret d_PM_breaks_13 (by decide) rfl H
def B_PM_breaks_0 (G : cx_T) (s : Nat) (a1 : Int) (h : ah_T) (Q : Option av_T → ah_T → Prop) : Prop :=
 ((a1 < 1 → B_PM_breaks_12 G s a1 h Q ) ∧ (¬ a1 < 1 → ((a1 ≤ 1000 → ∀ x2 : Int, x2 = h.2.1 (97 - s) 1 → -2147483648 ≤ x2 → x2 ≤ 2147483647 → ((x2 = 0 → Q (some (av_I (-2))) h) ∧ (¬ x2 = 0 → con G 5 0 0 m_Page_find [av_R (some 150), av_R (some (97 - s)), av_I a1] h (fun r h5 => ∃ z7 : Int, r = some (av_I z7) ∧ hb s h5 ∧ Q (some (av_I z7)) h5)))) ∧ (¬ a1 ≤ 1000 → B_PM_breaks_12 G s a1 h Q ))))
theorem b_PM_breaks_0 {G : cx_T} {s : Nat} {a1 : Int} {h : ah_T} {Q : Option av_T → ah_T → Prop} (hb0 : hb s h) (H : B_PM_breaks_0 G s a1 h Q ) : aw G (rm_R 6 0 0) m_PM_breaks 0 0 0 [some (av_R (some 0)), some (av_I a1)] [] h Q := by
  unfold B_PM_breaks_0 at H
  have hS : isS s := hb0.2.1
  refine A_iload_n 1 d_PM_breaks_0 rfl rfl ?_
  refine A_iconst d_PM_breaks_1 rfl ?_
  refine A_icmp_lt (tgt := 12) d_PM_breaks_2 (by decide) (fun c => ?_) (fun c => ?_)
  · replace H := H.1 c
    refine A_pc (pc' := 12) rfl ?_
    refine A_free (L' := [none, none]) trivial ?_
    exact b_PM_breaks_12    hb0 H
  · replace H := H.2 c
    refine A_iload_n 1 d_PM_breaks_5 rfl rfl ?_
    refine A_sipush d_PM_breaks_6 rfl ?_
    refine A_icmp_le (tgt := 14) d_PM_breaks_9 (by decide) (fun c => ?_) (fun c => ?_)
    · replace H := H.1 c
      refine A_aload_n 0 d_PM_breaks_14 rfl rfl ?_
      refine A_getOv (z := some (97 - s)) T_ok d_PM_breaks_15 f_PM_27 (hb_s hb0 sf_0) hb0.2.2.1 ?_
      refine A_getIf T_ok d_PM_breaks_18 f_PM_104 (hs_S hb0 (isS_o hS)) (fun x2 ex2 lx2 ux2 => ?_)
      replace H := H x2 ex2 lx2 ux2
      refine A_if_ne (tgt := 27) d_PM_breaks_21 (by decide) (fun c => ?_) (fun c => ?_)
      · replace H := H.2 c
        refine A_aload_n 0 d_PM_breaks_27 rfl rfl ?_
        refine A_getOv (z := some 150) T_ok d_PM_breaks_28 f_PM_51 (hb_s hb0 sf_0) (hb_r hb0 rff_0_7) ?_
        refine A_aload_n 0 d_PM_breaks_31 rfl rfl ?_
        refine A_getOv (z := some (97 - s)) T_ok d_PM_breaks_32 f_PM_27 (hb_s hb0 sf_0) hb0.2.2.1 ?_
        refine A_iload_n 1 d_PM_breaks_35 rfl rfl ?_
        refine A_pc (pc' := 36) rfl ?_
        refine A_callV2 m_Page_find T_ok d_PM_breaks_36 l_PM_171 k_Page_find (hb_s hb0 sf_150) rfl (by decide +kernel) (by decide) (Nat.le_of_ble_eq_true rfl) H (fun r h5 hq => ?_)
        clear H
        obtain ⟨z7, rfl, hb6, H⟩ := hq
        exact A_iret d_PM_breaks_39 (by decide) rfl H
      · replace H := H.1 c
        refine A_bipush d_PM_breaks_24 rfl ?_
        exact A_iret d_PM_breaks_26 (by decide) rfl H
    · replace H := H.2 c
      refine A_pc (pc' := 12) rfl ?_
      refine A_free (L' := [none, none]) trivial ?_
      exact b_PM_breaks_12    hb0 H
theorem c_PM_breaks {G : cx_T} {s : Nat} {a1 : Int} {h : ah_T} {Q : Option av_T → ah_T → Prop} (hb0 : hb s h) (H : i32 a1 → B_PM_breaks_0 G s a1 h Q ) : con G 6 0 0 m_PM_breaks [av_R (some 0), av_I a1] h Q := by
  have hS : isS s := hb0.2.1
  refine con_of (L := [some (av_R (some 0)), some (av_I a1)]) (by decide +kernel) (Nat.le_of_ble_eq_true rfl) rfl ?_
  refine A_locI 1 rfl (fun ra1 => ?_)
  exact b_PM_breaks_0   hb0 (H ra1)
def B_PM_line_0 (G : cx_T) (s : Nat) (a1 : Int) (h : ah_T) (Q : Option av_T → ah_T → Prop) : Prop :=
 con G 0 0 0 m_Page_barsIn [av_R (some 150), av_I a1] h (fun r h2 => ∃ z4 : Int, r = some (av_I z4) ∧ hb s h2 ∧ Q (some (av_I z4)) h2)
theorem b_PM_line_0 {G : cx_T} {s : Nat} {a1 : Int} {h : ah_T} {Q : Option av_T → ah_T → Prop} (hb0 : hb s h) (H : B_PM_line_0 G s a1 h Q ) : aw G (rm_R 1 0 0) m_PM_line 0 0 0 [some (av_R (some 0)), some (av_I a1)] [] h Q := by
  unfold B_PM_line_0 at H
  have hS : isS s := hb0.2.1
  refine A_aload_n 0 d_PM_line_0 rfl rfl ?_
  refine A_getOv (z := some 150) T_ok d_PM_line_1 f_PM_51 (hb_s hb0 sf_0) (hb_r hb0 rff_0_7) ?_
  refine A_iload_n 1 d_PM_line_4 rfl rfl ?_
  refine A_callV1 m_Page_barsIn T_ok d_PM_line_5 l_PM_174 k_Page_barsIn (hb_s hb0 sf_150) rfl (by decide +kernel) (by decide) (Nat.le_of_ble_eq_true rfl) H (fun r h2 hq => ?_)
  clear H
  obtain ⟨z4, rfl, hb3, H⟩ := hq
  exact A_iret d_PM_line_8 (by decide) rfl H
theorem c_PM_line {G : cx_T} {s : Nat} {a1 : Int} {h : ah_T} {Q : Option av_T → ah_T → Prop} (hb0 : hb s h) (H : i32 a1 → B_PM_line_0 G s a1 h Q ) : con G 1 0 0 m_PM_line [av_R (some 0), av_I a1] h Q := by
  have hS : isS s := hb0.2.1
  refine con_of (L := [some (av_R (some 0)), some (av_I a1)]) (by decide +kernel) (Nat.le_of_ble_eq_true rfl) rfl ?_
  refine A_locI 1 rfl (fun ra1 => ?_)
  exact b_PM_line_0   hb0 (H ra1)
def B_PM_width_15 (G : cx_T) (s : Nat) (a1 : Int) (h : ah_T) (Q : Option av_T → ah_T → Prop) : Prop :=
 Q (some (av_I (-1))) h
theorem b_PM_width_15 {G : cx_T} {s : Nat} {a1 : Int} {h : ah_T} {Q : Option av_T → ah_T → Prop} (hb0 : hb s h) (H : B_PM_width_15 G s a1 h Q ) : aw G (rm_R 5 0 0) m_PM_width 0 0 15 [none, none] [] h Q := by
  unfold B_PM_width_15 at H
  have hS : isS s := hb0.2.1
  refine A_iconst d_PM_width_15 rfl ?_
  exact A_iret d_PM_width_16 (by decide) rfl H
def B_PM_width_0 (G : cx_T) (s : Nat) (a1 : Int) (h : ah_T) (Q : Option av_T → ah_T → Prop) : Prop :=
 ((a1 < 0 → B_PM_width_15 G s a1 h Q ) ∧ (¬ a1 < 0 → con G 1 0 0 m_Score_mostBars [av_R (some (97 - s))] h (fun r h2 => ∃ z4 : Int, r = some (av_I z4) ∧ hb s h2 ∧ ((a1 < z4 → con G 4 0 0 m_Page_widthOf [av_R (some 150), av_R (some (97 - s)), av_I a1] h2 (fun r h7 => ∃ z9 : Int, r = some (av_I z9) ∧ hb s h7 ∧ Q (some (av_I z9)) h7)) ∧ (¬ a1 < z4 → B_PM_width_15 G s a1 h2 Q )))))
theorem b_PM_width_0 {G : cx_T} {s : Nat} {a1 : Int} {h : ah_T} {Q : Option av_T → ah_T → Prop} (hb0 : hb s h) (H : B_PM_width_0 G s a1 h Q ) : aw G (rm_R 5 0 0) m_PM_width 0 0 0 [some (av_R (some 0)), some (av_I a1)] [] h Q := by
  unfold B_PM_width_0 at H
  have hS : isS s := hb0.2.1
  refine A_iload_n 1 d_PM_width_0 rfl rfl ?_
  refine A_if_lt (tgt := 15) d_PM_width_1 (by decide) (fun c => ?_) (fun c => ?_)
  · replace H := H.1 c
    refine A_pc (pc' := 15) rfl ?_
    refine A_free (L' := [none, none]) trivial ?_
    exact b_PM_width_15    hb0 H
  · replace H := H.2 c
    refine A_iload_n 1 d_PM_width_4 rfl rfl ?_
    refine A_aload_n 0 d_PM_width_5 rfl rfl ?_
    refine A_getOv (z := some (97 - s)) T_ok d_PM_width_6 f_PM_27 (hb_s hb0 sf_0) hb0.2.2.1 ?_
    refine A_callV0 m_Score_mostBars T_ok d_PM_width_9 l_PM_116 k_Score_mostBars (hs_S hb0 (isS_o hS)) rfl (by decide +kernel) (by decide) (Nat.le_of_ble_eq_true rfl) H (fun r h2 hq => ?_)
    clear H
    obtain ⟨z4, rfl, hb3, H⟩ := hq
    refine A_icmp_lt (tgt := 17) d_PM_width_12 (by decide) (fun c => ?_) (fun c => ?_)
    · replace H := H.1 c
      refine A_aload_n 0 d_PM_width_17 rfl rfl ?_
      refine A_getOv (z := some 150) T_ok d_PM_width_18 f_PM_51 (hb_s hb3 sf_0) (hb_r hb3 rff_0_7) ?_
      refine A_aload_n 0 d_PM_width_21 rfl rfl ?_
      refine A_getOv (z := some (97 - s)) T_ok d_PM_width_22 f_PM_27 (hb_s hb3 sf_0) hb3.2.2.1 ?_
      refine A_iload_n 1 d_PM_width_25 rfl rfl ?_
      refine A_pc (pc' := 26) rfl ?_
      refine A_callV2 m_Page_widthOf T_ok d_PM_width_26 l_PM_177 k_Page_widthOf (hb_s hb3 sf_150) rfl (by decide +kernel) (by decide) (Nat.le_of_ble_eq_true rfl) H (fun r h7 hq => ?_)
      clear H
      obtain ⟨z9, rfl, hb8, H⟩ := hq
      exact A_iret d_PM_width_29 (by decide) rfl H
    · replace H := H.2 c
      refine A_pc (pc' := 15) rfl ?_
      refine A_free (L' := [none, none]) trivial ?_
      exact b_PM_width_15    hb3 H
theorem c_PM_width {G : cx_T} {s : Nat} {a1 : Int} {h : ah_T} {Q : Option av_T → ah_T → Prop} (hb0 : hb s h) (H : i32 a1 → B_PM_width_0 G s a1 h Q ) : con G 5 0 0 m_PM_width [av_R (some 0), av_I a1] h Q := by
  have hS : isS s := hb0.2.1
  refine con_of (L := [some (av_R (some 0)), some (av_I a1)]) (by decide +kernel) (Nat.le_of_ble_eq_true rfl) rfl ?_
  refine A_locI 1 rfl (fun ra1 => ?_)
  exact b_PM_width_0   hb0 (H ra1)
