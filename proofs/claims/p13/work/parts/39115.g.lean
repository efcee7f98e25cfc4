/-! ===== verification conditions, 516 ===== -/
def B_MD_isFirstTime_165 (G : cx_T) (s : Nat) (a1 : Int) (a2 : Int) (a3 : Int) (v4 : Int) (v6 : Int) (v8 : Int) (v9 : Int) (h : ah_T) (Q : Option av_T → ah_T → Prop) (X63 : Int → Int → Int → Int → ah_T → Prop) : Prop :=
 ((-2147483648) ≤ (v9 + 1) ∧ (v9 + 1) ≤ 2147483647) ∧ X63 (v4) (v6) (v8) ((v9 + 1)) h
theorem b_MD_isFirstTime_165 {G : cx_T} {s : Nat} {a1 : Int} {a2 : Int} {a3 : Int} {v4 : Int} {v6 : Int} {v8 : Int} {v9 : Int} {h : ah_T} {Q : Option av_T → ah_T → Prop} {X63 : Int → Int → Int → Int → ah_T → Prop} (hX63 : ∀ (v4 : Int) (v6 : Int) (v8 : Int) (v9 : Int) (h : ah_T), hb s h → X63 v4 v6 v8 v9 h → aw G (rm_R 3 0 0) m_MD_isFirstTime 0 0 63 [some (av_R (some 170)), some (av_I a1), none, some (av_I a3), some (av_L v4), none, some (av_L v6), none, some (av_I v8), some (av_I v9), none] [] h Q) (hb0 : hb s h) (H : B_MD_isFirstTime_165 G s a1 a2 a3 v4 v6 v8 v9 h Q X63) : aw G (rm_R 3 0 0) m_MD_isFirstTime 0 0 165 [some (av_R (some 170)), some (av_I a1), none, some (av_I a3), some (av_L v4), none, some (av_L v6), none, some (av_I v8), some (av_I v9), none] [] h Q := by
  unfold B_MD_isFirstTime_165 at H
  have hS : isS s := hb0.2.1
  have g1 := H.1
  replace H := H.2
  refine A_iincv (z := (v9 + 1)) (L' := [some (av_R (some 170)), some (av_I a1), none, some (av_I a3), some (av_L v4), none, some (av_L v6), none, some (av_I v8), some (av_I (v9 + 1)), none]) d_MD_isFirstTime_165 rfl (w32_to (by omega) (by unfold i32; omega)) rfl ?_
  refine A_goto (tgt := 63) d_MD_isFirstTime_168 (by decide) ?_
  refine A_pc (pc' := 63) rfl ?_
  exact hX63 (v4) (v6) (v8) ((v9 + 1)) h  hb0 H
def B_MD_isFirstTime_63 (G : cx_T) (s : Nat) (a1 : Int) (a2 : Int) (a3 : Int) (v4 : Int) (v6 : Int) (v8 : Int) (v9 : Int) (h : ah_T) (Q : Option av_T → ah_T → Prop) (X54 : Int → Int → Int → ah_T → Prop) (X63 : Int → Int → Int → Int → ah_T → Prop) : Prop :=
 (0 ≤ v8 ∧ v8 < 8) ∧ ∀ x2 : Int, x2 = h.2.1 185 (v8).toNat → -2147483648 ≤ x2 → x2 ≤ 2147483647 → ((x2 ≤ v9 → ((-2147483648) ≤ (v8 + 1) ∧ (v8 + 1) ≤ 2147483647) ∧ X54 (v4) (v6) ((v8 + 1)) h) ∧ (¬ x2 ≤ v9 → ((-2147483648) ≤ (300 * v8) ∧ (300 * v8) ≤ 2147483647) ∧ ((-2147483648) ≤ (300 * v8 + v9) ∧ (300 * v8 + v9) ≤ 2147483647) ∧ (0 ≤ (300 * v8 + v9) ∧ (300 * v8 + v9) < 2400) ∧ ∀ x8 : Int, x8 = h.2.1 196 ((300 * v8 + v9)).toNat → -2147483648 ≤ x8 → x8 ≤ 2147483647 → ((x8 = a3 → ∀ x11 : Int, x11 = h.2.2.1 187 ((300 * v8 + v9)).toNat → -9223372036854775808 ≤ x11 → x11 ≤ 9223372036854775807 → ∀ x13 : Int, x13 = h.2.2.1 188 ((300 * v8 + v9)).toNat → -9223372036854775808 ≤ x13 → x13 ≤ 9223372036854775807 → ((-2147483648) ≤ (102 * v8) ∧ (102 * v8) ≤ 2147483647) ∧ ((-2147483648) ≤ (102 * v8 + a3) ∧ (102 * v8 + a3) ≤ 2147483647) ∧ (0 ≤ (102 * v8 + a3) ∧ (102 * v8 + a3) < 816) ∧ ∀ x17 : Int, x17 = h.2.2.1 199 ((102 * v8 + a3)).toNat → -9223372036854775808 ≤ x17 → x17 ≤ 9223372036854775807 → ((-9223372036854775808) ≤ (-x17) ∧ (-x17) ≤ 9223372036854775807) ∧ ∀ x21 : Int, x21 = h.2.2.1 200 ((102 * v8 + a3)).toNat → -9223372036854775808 ≤ x21 → x21 ≤ 9223372036854775807 → con G 2 0 0 m_MD_sum [av_R (some 170), av_L x11, av_L x13, av_L (-x17), av_L x21] h (fun r h22 => r = none ∧ hb s h22 ∧ ∀ x25 : Int, x25 = h22.2.2.1 170 65 → -9223372036854775808 ≤ x25 → x25 ≤ 9223372036854775807 → ((x25 = v4 → ∀ x27 : Int, x27 = h22.2.2.1 170 66 → -9223372036854775808 ≤ x27 → x27 ≤ 9223372036854775807 → ((x27 = v6 → Q (some (av_I 0)) h22) ∧ (¬ x27 = v6 → B_MD_isFirstTime_165 G s a1 a2 a3 (v4) (v6) (v8) (v9) h22 Q X63))) ∧ (¬ x25 = v4 → B_MD_isFirstTime_165 G s a1 a2 a3 (v4) (v6) (v8) (v9) h22 Q X63)))) ∧ (¬ x8 = a3 → B_MD_isFirstTime_165 G s a1 a2 a3 (v4) (v6) (v8) (v9) h Q X63))))
theorem b_MD_isFirstTime_63 {G : cx_T} {s : Nat} {a1 : Int} {a2 : Int} {a3 : Int} {v4 : Int} {v6 : Int} {v8 : Int} {v9 : Int} {h : ah_T} {Q : Option av_T → ah_T → Prop} {X54 : Int → Int → Int → ah_T → Prop} {X63 : Int → Int → Int → Int → ah_T → Prop} (hX54 : ∀ (v4 : Int) (v6 : Int) (v8 : Int) (h : ah_T), hb s h → X54 v4 v6 v8 h → aw G (rm_R 3 0 0) m_MD_isFirstTime 0 0 54 [some (av_R (some 170)), some (av_I a1), none, some (av_I a3), some (av_L v4), none, some (av_L v6), none, some (av_I v8), none, none] [] h Q) (hX63 : ∀ (v4 : Int) (v6 : Int) (v8 : Int) (v9 : Int) (h : ah_T), hb s h → X63 v4 v6 v8 v9 h → aw G (rm_R 3 0 0) m_MD_isFirstTime 0 0 63 [some (av_R (some 170)), some (av_I a1), none, some (av_I a3), some (av_L v4), none, some (av_L v6), none, some (av_I v8), some (av_I v9), none] [] h Q) (hb0 : hb s h) (H : B_MD_isFirstTime_63 G s a1 a2 a3 v4 v6 v8 v9 h Q X54 X63) : aw G (rm_R 3 0 0) m_MD_isFirstTime 0 0 63 [some (av_R (some 170)), some (av_I a1), none, some (av_I a3), some (av_L v4), none, some (av_L v6), none, some (av_I v8), some (av_I v9), none] [] h Q := by
  unfold B_MD_isFirstTime_63 at H
  have hS : isS s := hb0.2.1
  refine A_iload d_MD_isFirstTime_63 rfl ?_
  refine A_aload_n 0 d_MD_isFirstTime_65 rfl rfl ?_
  refine A_getAv (z := some 185) T_ok d_MD_isFirstTime_66 f_MD_57 (hb_s hb0 sf_170) (hb_m hb0 rfm_27) ?_
  refine A_iload d_MD_isFirstTime_69 rfl ?_
  have g3 := H.1
  replace H := H.2
  refine A_ialoadf d_MD_isFirstTime_71 (hb_s hb0 sf_185) g3.1 g3.2 (fun x2 ex2 lx2 ux2 => ?_)
  replace H := H x2 ex2 lx2 ux2
  refine A_pc (pc' := 72) rfl ?_
  refine A_icmp_ge (tgt := 171) d_MD_isFirstTime_72 (by decide) (fun c => ?_) (fun c => ?_)
  · replace H := H.1 c
    have g4 := H.1
    replace H := H.2
    refine A_iincv (z := (v8 + 1)) (L' := [some (av_R (some 170)), some (av_I a1), none, some (av_I a3), some (av_L v4), none, some (av_L v6), none, some (av_I (v8 + 1)), some (av_I v9), none]) d_MD_isFirstTime_171 rfl (w32_to (by omega) (by unfold i32; omega)) rfl ?_
    refine A_goto (tgt := 54) d_MD_isFirstTime_174 (by decide) ?_
    refine A_pc (pc' := 54) rfl ?_
    refine A_free (L' := [some (av_R (some 170)), some (av_I a1), none, some (av_I a3), some (av_L v4), none, some (av_L v6), none, some (av_I (v8 + 1)), none, none]) (And.intro rfl (And.intro rfl (And.intro rfl (And.intro rfl (And.intro rfl (And.intro rfl trivial)))))) ?_
    exact hX54 (v4) (v6) ((v8 + 1)) h  hb0 H
  · replace H := H.2 c
    refine A_sipush d_MD_isFirstTime_75 rfl ?_
    refine A_iload d_MD_isFirstTime_78 rfl ?_
    have g5 := H.1
    replace H := H.2
    refine A_imulv (z := (300 * v8)) d_MD_isFirstTime_80 (w32_to (by omega) (by unfold i32; omega)) ?_
    refine A_iload d_MD_isFirstTime_81 rfl ?_
    have g6 := H.1
    replace H := H.2
    refine A_iaddv (z := (300 * v8 + v9)) d_MD_isFirstTime_83 (w32_to (by omega) (by unfold i32; omega)) ?_
    refine A_pc (pc' := 84) rfl ?_
    refine A_istore (L' := [some (av_R (some 170)), some (av_I a1), none, some (av_I a3), some (av_L v4), none, some (av_L v6), none, some (av_I v8), some (av_I v9), some (av_I (300 * v8 + v9))]) d_MD_isFirstTime_84 (Nat.le_of_ble_eq_true rfl) rfl ?_
    refine A_aload_n 0 d_MD_isFirstTime_86 rfl rfl ?_
    refine A_getAv (z := some 196) T_ok d_MD_isFirstTime_87 f_MD_91 (hb_s hb0 sf_170) (hb_m hb0 rfm_38) ?_
    refine A_iload d_MD_isFirstTime_90 rfl ?_
    have g9 := H.1
    replace H := H.2
    refine A_ialoadf d_MD_isFirstTime_92 (hb_s hb0 sf_196) g9.1 g9.2 (fun x8 ex8 lx8 ux8 => ?_)
    replace H := H x8 ex8 lx8 ux8
    refine A_iload_n 3 d_MD_isFirstTime_93 rfl rfl ?_
    refine A_pc (pc' := 94) rfl ?_
    refine A_icmp_eq (tgt := 100) d_MD_isFirstTime_94 (by decide) (fun c => ?_) (fun c => ?_)
    · replace H := H.1 c
      refine A_aload_n 0 d_MD_isFirstTime_100 rfl rfl ?_
      refine A_aload_n 0 d_MD_isFirstTime_101 rfl rfl ?_
      refine A_getAv (z := some 187) T_ok d_MD_isFirstTime_102 f_MD_63 (hb_s hb0 sf_170) (hb_m hb0 rfm_29) ?_
      refine A_iload d_MD_isFirstTime_105 rfl ?_
      refine A_laloadf d_MD_isFirstTime_107 (hb_s hb0 sf_187) g9.1 g9.2 (fun x11 ex11 lx11 ux11 => ?_)
      replace H := H x11 ex11 lx11 ux11
      refine A_pc (pc' := 108) rfl ?_
      refine A_aload_n 0 d_MD_isFirstTime_108 rfl rfl ?_
      refine A_getAv (z := some 188) T_ok d_MD_isFirstTime_109 f_MD_66 (hb_s hb0 sf_170) (hb_m hb0 rfm_30) ?_
      refine A_iload d_MD_isFirstTime_112 rfl ?_
      refine A_laloadf d_MD_isFirstTime_114 (hb_s hb0 sf_188) g9.1 g9.2 (fun x13 ex13 lx13 ux13 => ?_)
      replace H := H x13 ex13 lx13 ux13
      refine A_aload_n 0 d_MD_isFirstTime_115 rfl rfl ?_
      refine A_getAv (z := some 199) T_ok d_MD_isFirstTime_116 f_MD_100 (hb_s hb0 sf_170) (hb_m hb0 rfm_41) ?_
      refine A_pc (pc' := 119) rfl ?_
      refine A_bipush d_MD_isFirstTime_119 rfl ?_
      refine A_iload d_MD_isFirstTime_121 rfl ?_
      have g15 := H.1
      replace H := H.2
      refine A_imulv (z := (102 * v8)) d_MD_isFirstTime_123 (w32_to (by omega) (by unfold i32; omega)) ?_
      refine A_iload_n 3 d_MD_isFirstTime_124 rfl rfl ?_
      have g16 := H.1
      replace H := H.2
      refine A_iaddv (z := (102 * v8 + a3)) d_MD_isFirstTime_125 (w32_to (by omega) (by unfold i32; omega)) ?_
      have g18 := H.1
      replace H := H.2
      refine A_laloadf d_MD_isFirstTime_126 (hb_s hb0 sf_199) g18.1 g18.2 (fun x17 ex17 lx17 ux17 => ?_)
      replace H := H x17 ex17 lx17 ux17
      refine A_pc (pc' := 127) rfl ?_
      have g19 := H.1
      replace H := H.2
      refine A_lnegv (z := (-x17)) d_MD_isFirstTime_127 (w64_to (by omega) (by unfold i64; omega)) ?_
      refine A_aload_n 0 d_MD_isFirstTime_128 rfl rfl ?_
      refine A_getAv (z := some 200) T_ok d_MD_isFirstTime_129 f_MD_103 (hb_s hb0 sf_170) (hb_m hb0 rfm_42) ?_
      refine A_bipush d_MD_isFirstTime_132 rfl ?_
      refine A_iload d_MD_isFirstTime_134 rfl ?_
      refine A_imulv (z := (102 * v8)) d_MD_isFirstTime_136 (w32_to (by omega) (by unfold i32; omega)) ?_
      refine A_pc (pc' := 137) rfl ?_
      refine A_iload_n 3 d_MD_isFirstTime_137 rfl rfl ?_
      refine A_iaddv (z := (102 * v8 + a3)) d_MD_isFirstTime_138 (w32_to (by omega) (by unfold i32; omega)) ?_
      refine A_laloadf d_MD_isFirstTime_139 (hb_s hb0 sf_200) g18.1 g18.2 (fun x21 ex21 lx21 ux21 => ?_)
      replace H := H x21 ex21 lx21 ux21
      refine A_callV4 m_MD_sum T_ok d_MD_isFirstTime_140 l_MD_458 k_MD_sum (hb_s hb0 sf_170) rfl (by decide +kernel) (by decide) (Nat.le_of_ble_eq_true rfl) H (fun r h22 hq => ?_)
      clear H
      obtain ⟨rfl, hb23, H⟩ := hq
      refine A_aload_n 0 d_MD_isFirstTime_143 rfl rfl ?_
      refine A_getLf T_ok d_MD_isFirstTime_144 f_MD_385 (hb_s hb23 sf_170) (fun x25 ex25 lx25 ux25 => ?_)
      replace H := H x25 ex25 lx25 ux25
      refine A_lload d_MD_isFirstTime_147 rfl ?_
      refine A_lcmpn d_MD_isFirstTime_149 (fun x26 lx26 ex26 gx26 _ _ => ?_)
      refine A_if_ne (tgt := 165) d_MD_isFirstTime_150 (by decide) (fun c => ?_) (fun c => ?_)
      · replace H := H.2 (by omega)
        refine A_pc (pc' := 165) rfl ?_
        refine A_free (L' := [some (av_R (some 170)), some (av_I a1), none, some (av_I a3), some (av_L v4), none, some (av_L v6), none, some (av_I v8), some (av_I v9), none]) (And.intro rfl (And.intro rfl (And.intro rfl (And.intro rfl (And.intro rfl (And.intro rfl (And.intro rfl trivial))))))) ?_
        exact b_MD_isFirstTime_165  hX63  hb23 H
      · replace H := H.1 (by omega)
        refine A_aload_n 0 d_MD_isFirstTime_153 rfl rfl ?_
        refine A_getLf T_ok d_MD_isFirstTime_154 f_MD_388 (hb_s hb23 sf_170) (fun x27 ex27 lx27 ux27 => ?_)
        replace H := H x27 ex27 lx27 ux27
        refine A_lload d_MD_isFirstTime_157 rfl ?_
        refine A_lcmpn d_MD_isFirstTime_159 (fun x28 lx28 ex28 gx28 _ _ => ?_)
        refine A_if_ne (tgt := 165) d_MD_isFirstTime_160 (by decide) (fun c => ?_) (fun c => ?_)
        · replace H := H.2 (by omega)
          refine A_pc (pc' := 165) rfl ?_
          refine A_free (L' := [some (av_R (some 170)), some (av_I a1), none, some (av_I a3), some (av_L v4), none, some (av_L v6), none, some (av_I v8), some (av_I v9), none]) (And.intro rfl (And.intro rfl (And.intro rfl (And.intro rfl (And.intro rfl (And.intro rfl (And.intro rfl trivial))))))) ?_
          exact b_MD_isFirstTime_165  hX63  hb23 H
        · replace H := H.1 (by omega)
          refine A_iconst d_MD_isFirstTime_163 rfl ?_
          exact A_zret d_MD_isFirstTime_164 (by decide) rfl (by decide) H
    · replace H := H.2 c
      refine A_goto (tgt := 165) d_MD_isFirstTime_97 (by decide) ?_
      refine A_pc (pc' := 165) rfl ?_
      refine A_free (L' := [some (av_R (some 170)), some (av_I a1), none, some (av_I a3), some (av_L v4), none, some (av_L v6), none, some (av_I v8), some (av_I v9), none]) (And.intro rfl (And.intro rfl (And.intro rfl (And.intro rfl (And.intro rfl (And.intro rfl (And.intro rfl trivial))))))) ?_
      exact b_MD_isFirstTime_165  hX63  hb0 H
theorem lp_MD_isFirstTime_63 {G : cx_T} {s : Nat} {a1 : Int} {a2 : Int} {a3 : Int} {Q : Option av_T → ah_T → Prop} {X54 : Int → Int → Int → ah_T → Prop} (hX54 : ∀ (v4 : Int) (v6 : Int) (v8 : Int) (h : ah_T), hb s h → X54 v4 v6 v8 h → aw G (rm_R 3 0 0) m_MD_isFirstTime 0 0 54 [some (av_R (some 170)), some (av_I a1), none, some (av_I a3), some (av_L v4), none, some (av_L v6), none, some (av_I v8), none, none] [] h Q) (I : Int → Int → Int → Int → ah_T → Prop) (μ : Int → Int → Int → Int → ah_T → Nat) (hI : ∀ (v4 : Int) (v6 : Int) (v8 : Int) (v9 : Int) (h : ah_T), hb s h → I v4 v6 v8 v9 h → B_MD_isFirstTime_63 G s a1 a2 a3 v4 v6 v8 v9 h Q X54 (fun v4' v6' v8' v9' h' => I v4' v6' v8' v9' h' ∧ μ v4' v6' v8' v9' h' < μ v4 v6 v8 v9 h)) : ∀ (v4 : Int) (v6 : Int) (v8 : Int) (v9 : Int) (h : ah_T), hb s h → I v4 v6 v8 v9 h → aw G (rm_R 3 0 0) m_MD_isFirstTime 0 0 63 [some (av_R (some 170)), some (av_I a1), none, some (av_I a3), some (av_L v4), none, some (av_L v6), none, some (av_I v8), some (av_I v9), none] [] h Q := by
  have key : ∀ (n : Nat) (v4 : Int) (v6 : Int) (v8 : Int) (v9 : Int) (h : ah_T), hb s h → I v4 v6 v8 v9 h → μ v4 v6 v8 v9 h < n → aw G (rm_R 3 0 0) m_MD_isFirstTime 0 0 63 [some (av_R (some 170)), some (av_I a1), none, some (av_I a3), some (av_L v4), none, some (av_L v6), none, some (av_I v8), some (av_I v9), none] [] h Q := by
    intro n
    induction n with
    | zero => intro v4 v6 v8 v9 h  hb0 hi hm; omega
    | succ n ih => intro v4 v6 v8 v9 h  hb0 hi hm; exact b_MD_isFirstTime_63  hX54 (fun v4' v6' v8' v9' h'  hb' hx => ih v4' v6' v8' v9' h'  hb' hx.1 (by have := hx.2; omega))  hb0 (hI v4 v6 v8 v9 h  hb0 hi)
  exact fun v4 v6 v8 v9 h  hb0 hi => key _ v4 v6 v8 v9 h  hb0 hi (Nat.lt_succ_self _)
def B_MD_isFirstTime_54 (G : cx_T) (s : Nat) (a1 : Int) (a2 : Int) (a3 : Int) (v4 : Int) (v6 : Int) (v8 : Int) (h : ah_T) (Q : Option av_T → ah_T → Prop) (X63 : Int → Int → Int → Int → ah_T → Prop) : Prop :=
 ((a1 ≤ v8 → Q (some (av_I 1)) h) ∧ (¬ a1 ≤ v8 → X63 (v4) (v6) (v8) (0) h))
theorem b_MD_isFirstTime_54 {G : cx_T} {s : Nat} {a1 : Int} {a2 : Int} {a3 : Int} {v4 : Int} {v6 : Int} {v8 : Int} {h : ah_T} {Q : Option av_T → ah_T → Prop} {X63 : Int → Int → Int → Int → ah_T → Prop} (hX63 : ∀ (v4 : Int) (v6 : Int) (v8 : Int) (v9 : Int) (h : ah_T), hb s h → X63 v4 v6 v8 v9 h → aw G (rm_R 3 0 0) m_MD_isFirstTime 0 0 63 [some (av_R (some 170)), some (av_I a1), none, some (av_I a3), some (av_L v4), none, some (av_L v6), none, some (av_I v8), some (av_I v9), none] [] h Q) (hb0 : hb s h) (H : B_MD_isFirstTime_54 G s a1 a2 a3 v4 v6 v8 h Q X63) : aw G (rm_R 3 0 0) m_MD_isFirstTime 0 0 54 [some (av_R (some 170)), some (av_I a1), none, some (av_I a3), some (av_L v4), none, some (av_L v6), none, some (av_I v8), none, none] [] h Q := by
  unfold B_MD_isFirstTime_54 at H
  have hS : isS s := hb0.2.1
  refine A_iload d_MD_isFirstTime_54 rfl ?_
  refine A_iload_n 1 d_MD_isFirstTime_56 rfl rfl ?_
  refine A_icmp_ge (tgt := 177) d_MD_isFirstTime_57 (by decide) (fun c => ?_) (fun c => ?_)
  · replace H := H.1 c
    refine A_iconst d_MD_isFirstTime_177 rfl ?_
    exact A_zret d_MD_isFirstTime_178 (by decide) rfl (by decide) H
  · replace H := H.2 c
    refine A_iconst d_MD_isFirstTime_60 rfl ?_
    refine A_istore (L' := [some (av_R (some 170)), some (av_I a1), none, some (av_I a3), some (av_L v4), none, some (av_L v6), none, some (av_I v8), some (av_I 0), none]) d_MD_isFirstTime_61 (Nat.le_of_ble_eq_true rfl) rfl ?_
    refine A_pc (pc' := 63) rfl ?_
    exact hX63 (v4) (v6) (v8) (0) h  hb0 H
theorem lp_MD_isFirstTime_54 {G : cx_T} {s : Nat} {a1 : Int} {a2 : Int} {a3 : Int} {Q : Option av_T → ah_T → Prop} {X63 : Int → Int → Int → Int → ah_T → Prop} (hX63 : ∀ (v4 : Int) (v6 : Int) (v8 : Int) (v9 : Int) (h : ah_T), hb s h → X63 v4 v6 v8 v9 h → aw G (rm_R 3 0 0) m_MD_isFirstTime 0 0 63 [some (av_R (some 170)), some (av_I a1), none, some (av_I a3), some (av_L v4), none, some (av_L v6), none, some (av_I v8), some (av_I v9), none] [] h Q) (I : Int → Int → Int → ah_T → Prop) (μ : Int → Int → Int → ah_T → Nat) (hI : ∀ (v4 : Int) (v6 : Int) (v8 : Int) (h : ah_T), hb s h → I v4 v6 v8 h → B_MD_isFirstTime_54 G s a1 a2 a3 v4 v6 v8 h Q X63) : ∀ (v4 : Int) (v6 : Int) (v8 : Int) (h : ah_T), hb s h → I v4 v6 v8 h → aw G (rm_R 3 0 0) m_MD_isFirstTime 0 0 54 [some (av_R (some 170)), some (av_I a1), none, some (av_I a3), some (av_L v4), none, some (av_L v6), none, some (av_I v8), none, none] [] h Q := by
  have key : ∀ (n : Nat) (v4 : Int) (v6 : Int) (v8 : Int) (h : ah_T), hb s h → I v4 v6 v8 h → μ v4 v6 v8 h < n → aw G (rm_R 3 0 0) m_MD_isFirstTime 0 0 54 [some (av_R (some 170)), some (av_I a1), none, some (av_I a3), some (av_L v4), none, some (av_L v6), none, some (av_I v8), none, none] [] h Q := by
    intro n
    induction n with
    | zero => intro v4 v6 v8 h  hb0 hi hm; omega
    | succ n ih => intro v4 v6 v8 h  hb0 hi hm; exact b_MD_isFirstTime_54  hX63  hb0 (hI v4 v6 v8 h  hb0 hi)
  exact fun v4 v6 v8 h  hb0 hi => key _ v4 v6 v8 h  hb0 hi (Nat.lt_succ_self _)
def B_MD_isFirstTime_0 (G : cx_T) (s : Nat) (a1 : Int) (a2 : Int) (a3 : Int) (h : ah_T) (Q : Option av_T → ah_T → Prop) (X54 : Int → Int → Int → ah_T → Prop) : Prop :=
 (0 ≤ a2 ∧ a2 < 2400) ∧ ∀ x2 : Int, x2 = h.2.2.1 187 (a2).toNat → -9223372036854775808 ≤ x2 → x2 ≤ 9223372036854775807 → ∀ x5 : Int, x5 = h.2.2.1 188 (a2).toNat → -9223372036854775808 ≤ x5 → x5 ≤ 9223372036854775807 → ((-2147483648) ≤ (102 * a1) ∧ (102 * a1) ≤ 2147483647) ∧ ((-2147483648) ≤ (102 * a1 + a3) ∧ (102 * a1 + a3) ≤ 2147483647) ∧ (0 ≤ (102 * a1 + a3) ∧ (102 * a1 + a3) < 816) ∧ ∀ x9 : Int, x9 = h.2.2.1 199 ((102 * a1 + a3)).toNat → -9223372036854775808 ≤ x9 → x9 ≤ 9223372036854775807 → ((-9223372036854775808) ≤ (-x9) ∧ (-x9) ≤ 9223372036854775807) ∧ ∀ x13 : Int, x13 = h.2.2.1 200 ((102 * a1 + a3)).toNat → -9223372036854775808 ≤ x13 → x13 ≤ 9223372036854775807 → con G 2 0 0 m_MD_sum [av_R (some 170), av_L x2, av_L x5, av_L (-x9), av_L x13] h (fun r h14 => r = none ∧ hb s h14 ∧ ∀ x17 : Int, x17 = h14.2.2.1 170 65 → -9223372036854775808 ≤ x17 → x17 ≤ 9223372036854775807 → ∀ x18 : Int, x18 = h14.2.2.1 170 66 → -9223372036854775808 ≤ x18 → x18 ≤ 9223372036854775807 → X54 (x17) (x18) (0) h14)
theorem b_MD_isFirstTime_0 {G : cx_T} {s : Nat} {a1 : Int} {a2 : Int} {a3 : Int} {h : ah_T} {Q : Option av_T → ah_T → Prop} {X54 : Int → Int → Int → ah_T → Prop} (hX54 : ∀ (v4 : Int) (v6 : Int) (v8 : Int) (h : ah_T), hb s h → X54 v4 v6 v8 h → aw G (rm_R 3 0 0) m_MD_isFirstTime 0 0 54 [some (av_R (some 170)), some (av_I a1), none, some (av_I a3), some (av_L v4), none, some (av_L v6), none, some (av_I v8), none, none] [] h Q) (hb0 : hb s h) (H : B_MD_isFirstTime_0 G s a1 a2 a3 h Q X54) : aw G (rm_R 3 0 0) m_MD_isFirstTime 0 0 0 [some (av_R (some 170)), some (av_I a1), some (av_I a2), some (av_I a3), none, none, none, none, none, none, none] [] h Q := by
  unfold B_MD_isFirstTime_0 at H
  have hS : isS s := hb0.2.1
  refine A_aload_n 0 d_MD_isFirstTime_0 rfl rfl ?_
  refine A_aload_n 0 d_MD_isFirstTime_1 rfl rfl ?_
  refine A_getAv (z := some 187) T_ok d_MD_isFirstTime_2 f_MD_63 (hb_s hb0 sf_170) (hb_m hb0 rfm_29) ?_
  refine A_iload_n 2 d_MD_isFirstTime_5 rfl rfl ?_
  have g3 := H.1
  replace H := H.2
  refine A_laloadf d_MD_isFirstTime_6 (hb_s hb0 sf_187) g3.1 g3.2 (fun x2 ex2 lx2 ux2 => ?_)
  replace H := H x2 ex2 lx2 ux2
  refine A_pc (pc' := 7) rfl ?_
  refine A_aload_n 0 d_MD_isFirstTime_7 rfl rfl ?_
  refine A_getAv (z := some 188) T_ok d_MD_isFirstTime_8 f_MD_66 (hb_s hb0 sf_170) (hb_m hb0 rfm_30) ?_
  refine A_iload_n 2 d_MD_isFirstTime_11 rfl rfl ?_
  refine A_laloadf d_MD_isFirstTime_12 (hb_s hb0 sf_188) g3.1 g3.2 (fun x5 ex5 lx5 ux5 => ?_)
  replace H := H x5 ex5 lx5 ux5
  refine A_aload_n 0 d_MD_isFirstTime_13 rfl rfl ?_
  refine A_getAv (z := some 199) T_ok d_MD_isFirstTime_14 f_MD_100 (hb_s hb0 sf_170) (hb_m hb0 rfm_41) ?_
  refine A_pc (pc' := 17) rfl ?_
  refine A_bipush d_MD_isFirstTime_17 rfl ?_
  refine A_iload_n 1 d_MD_isFirstTime_19 rfl rfl ?_
  have g7 := H.1
  replace H := H.2
  refine A_imulv (z := (102 * a1)) d_MD_isFirstTime_20 (w32_to (by omega) (by unfold i32; omega)) ?_
  refine A_iload_n 3 d_MD_isFirstTime_21 rfl rfl ?_
  have g8 := H.1
  replace H := H.2
  refine A_iaddv (z := (102 * a1 + a3)) d_MD_isFirstTime_22 (w32_to (by omega) (by unfold i32; omega)) ?_
  have g10 := H.1
  replace H := H.2
  refine A_laloadf d_MD_isFirstTime_23 (hb_s hb0 sf_199) g10.1 g10.2 (fun x9 ex9 lx9 ux9 => ?_)
  replace H := H x9 ex9 lx9 ux9
  refine A_pc (pc' := 24) rfl ?_
  have g11 := H.1
  replace H := H.2
  refine A_lnegv (z := (-x9)) d_MD_isFirstTime_24 (w64_to (by omega) (by unfold i64; omega)) ?_
  refine A_aload_n 0 d_MD_isFirstTime_25 rfl rfl ?_
  refine A_getAv (z := some 200) T_ok d_MD_isFirstTime_26 f_MD_103 (hb_s hb0 sf_170) (hb_m hb0 rfm_42) ?_
  refine A_bipush d_MD_isFirstTime_29 rfl ?_
  refine A_iload_n 1 d_MD_isFirstTime_31 rfl rfl ?_
  refine A_imulv (z := (102 * a1)) d_MD_isFirstTime_32 (w32_to (by omega) (by unfold i32; omega)) ?_
  refine A_pc (pc' := 33) rfl ?_
  refine A_iload_n 3 d_MD_isFirstTime_33 rfl rfl ?_
  refine A_iaddv (z := (102 * a1 + a3)) d_MD_isFirstTime_34 (w32_to (by omega) (by unfold i32; omega)) ?_
  refine A_laloadf d_MD_isFirstTime_35 (hb_s hb0 sf_200) g10.1 g10.2 (fun x13 ex13 lx13 ux13 => ?_)
  replace H := H x13 ex13 lx13 ux13
  refine A_callV4 m_MD_sum T_ok d_MD_isFirstTime_36 l_MD_458 k_MD_sum (hb_s hb0 sf_170) rfl (by decide +kernel) (by decide) (Nat.le_of_ble_eq_true rfl) H (fun r h14 hq => ?_)
  clear H
  obtain ⟨rfl, hb15, H⟩ := hq
  refine A_aload_n 0 d_MD_isFirstTime_39 rfl rfl ?_
  refine A_getLf T_ok d_MD_isFirstTime_40 f_MD_385 (hb_s hb15 sf_170) (fun x17 ex17 lx17 ux17 => ?_)
  replace H := H x17 ex17 lx17 ux17
  refine A_lstore (L' := [some (av_R (some 170)), some (av_I a1), some (av_I a2), some (av_I a3), some (av_L x17), none, none, none, none, none, none]) d_MD_isFirstTime_43 (Nat.le_of_ble_eq_true rfl) rfl ?_
  refine A_aload_n 0 d_MD_isFirstTime_45 rfl rfl ?_
  refine A_getLf T_ok d_MD_isFirstTime_46 f_MD_388 (hb_s hb15 sf_170) (fun x18 ex18 lx18 ux18 => ?_)
  replace H := H x18 ex18 lx18 ux18
  refine A_pc (pc' := 49) rfl ?_
  refine A_lstore (L' := [some (av_R (some 170)), some (av_I a1), some (av_I a2), some (av_I a3), some (av_L x17), none, some (av_L x18), none, none, none, none]) d_MD_isFirstTime_49 (Nat.le_of_ble_eq_true rfl) rfl ?_
  refine A_iconst d_MD_isFirstTime_51 rfl ?_
  refine A_istore (L' := [some (av_R (some 170)), some (av_I a1), some (av_I a2), some (av_I a3), some (av_L x17), none, some (av_L x18), none, some (av_I 0), none, none]) d_MD_isFirstTime_52 (Nat.le_of_ble_eq_true rfl) rfl ?_
  refine A_pc (pc' := 54) rfl ?_
  refine A_free (L' := [some (av_R (some 170)), some (av_I a1), none, some (av_I a3), some (av_L x17), none, some (av_L x18), none, some (av_I 0), none, none]) (And.intro rfl (And.intro rfl (And.intro rfl (And.intro rfl (And.intro rfl (And.intro rfl trivial)))))) ?_
  exact hX54 (x17) (x18) (0) h14  hb15 H
theorem c_MD_isFirstTime {G : cx_T} {s : Nat} {a1 : Int} {a2 : Int} {a3 : Int} {h : ah_T} {Q : Option av_T → ah_T → Prop} {X54 : Int → Int → Int → ah_T → Prop} (hX54 : ∀ (v4 : Int) (v6 : Int) (v8 : Int) (h : ah_T), hb s h → X54 v4 v6 v8 h → aw G (rm_R 3 0 0) m_MD_isFirstTime 0 0 54 [some (av_R (some 170)), some (av_I a1), none, some (av_I a3), some (av_L v4), none, some (av_L v6), none, some (av_I v8), none, none] [] h Q) (hb0 : hb s h) (H : i32 a1 → i32 a2 → i32 a3 → B_MD_isFirstTime_0 G s a1 a2 a3 h Q X54) : con G 3 0 0 m_MD_isFirstTime [av_R (some 170), av_I a1, av_I a2, av_I a3] h Q := by
  have hS : isS s := hb0.2.1
  refine con_of (L := [some (av_R (some 170)), some (av_I a1), some (av_I a2), some (av_I a3), none, none, none, none, none, none, none]) (by decide +kernel) (Nat.le_of_ble_eq_true rfl) rfl ?_
  refine A_locI 1 rfl (fun ra1 => ?_)
  refine A_locI 2 rfl (fun ra2 => ?_)
  refine A_locI 3 rfl (fun ra3 => ?_)
  exact b_MD_isFirstTime_0  hX54 hb0 (H ra1 ra2 ra3)
def B_MD_width_102 (G : cx_T) (s : Nat) (a1 : Int) (v2 : Int) (v3 : Int) (v4 : Int) (v5 : Int) (h : ah_T) (Q : Option av_T → ah_T → Prop) (X35 : Int → Int → Int → Int → ah_T → Prop) : Prop :=
 ((-2147483648) ≤ (v5 + 1) ∧ (v5 + 1) ≤ 2147483647) ∧ X35 (v2) (v3) (v4) ((v5 + 1)) h
theorem b_MD_width_102 {G : cx_T} {s : Nat} {a1 : Int} {v2 : Int} {v3 : Int} {v4 : Int} {v5 : Int} {h : ah_T} {Q : Option av_T → ah_T → Prop} {X35 : Int → Int → Int → Int → ah_T → Prop} (hX35 : ∀ (v2 : Int) (v3 : Int) (v4 : Int) (v5 : Int) (h : ah_T), hb s h → X35 v2 v3 v4 v5 h → aw G (rm_R 4 0 0) m_MD_width 0 0 35 [some (av_R (some 170)), some (av_I a1), some (av_I v2), some (av_I v3), some (av_I v4), some (av_I v5), none] [] h Q) (hb0 : hb s h) (H : B_MD_width_102 G s a1 v2 v3 v4 v5 h Q X35) : aw G (rm_R 4 0 0) m_MD_width 0 0 102 [some (av_R (some 170)), some (av_I a1), some (av_I v2), some (av_I v3), some (av_I v4), some (av_I v5), none] [] h Q := by
  unfold B_MD_width_102 at H
  have hS : isS s := hb0.2.1
  have g1 := H.1
  replace H := H.2
  refine A_iincv (z := (v5 + 1)) (L' := [some (av_R (some 170)), some (av_I a1), some (av_I v2), some (av_I v3), some (av_I v4), some (av_I (v5 + 1)), none]) d_MD_width_102 rfl (w32_to (by omega) (by unfold i32; omega)) rfl ?_
  refine A_goto (tgt := 35) d_MD_width_105 (by decide) ?_
  refine A_pc (pc' := 35) rfl ?_
  exact hX35 (v2) (v3) (v4) ((v5 + 1)) h  hb0 H
def B_MD_width_100 (G : cx_T) (s : Nat) (a1 : Int) (v3 : Int) (v4 : Int) (v5 : Int) (t0 : Int) (t1 : Int) (h : ah_T) (Q : Option av_T → ah_T → Prop) (X35 : Int → Int → Int → Int → ah_T → Prop) : Prop :=
 ((-2147483648) ≤ (t0 + t1) ∧ (t0 + t1) ≤ 2147483647) ∧ B_MD_width_102 G s a1 ((t0 + t1)) (v3) (v4) (v5) h Q X35
theorem b_MD_width_100 {G : cx_T} {s : Nat} {a1 : Int} {v3 : Int} {v4 : Int} {v5 : Int} {t0 : Int} {t1 : Int} {h : ah_T} {Q : Option av_T → ah_T → Prop} {X35 : Int → Int → Int → Int → ah_T → Prop} (hX35 : ∀ (v2 : Int) (v3 : Int) (v4 : Int) (v5 : Int) (h : ah_T), hb s h → X35 v2 v3 v4 v5 h → aw G (rm_R 4 0 0) m_MD_width 0 0 35 [some (av_R (some 170)), some (av_I a1), some (av_I v2), some (av_I v3), some (av_I v4), some (av_I v5), none] [] h Q) (hb0 : hb s h) (H : B_MD_width_100 G s a1 v3 v4 v5 t0 t1 h Q X35) : aw G (rm_R 4 0 0) m_MD_width 0 0 100 [some (av_R (some 170)), some (av_I a1), none, some (av_I v3), some (av_I v4), some (av_I v5), none] [av_I t1, av_I t0] h Q := by
  unfold B_MD_width_100 at H
  have hS : isS s := hb0.2.1
  have g1 := H.1
  replace H := H.2
  refine A_iaddv (z := (t0 + t1)) d_MD_width_100 (w32_to (by omega) (by unfold i32; omega)) ?_
  refine A_istore_n 2 (L' := [some (av_R (some 170)), some (av_I a1), some (av_I (t0 + t1)), some (av_I v3), some (av_I v4), some (av_I v5), none]) d_MD_width_101 rfl (Nat.le_of_ble_eq_true rfl) rfl ?_
  refine A_pc (pc' := 102) rfl ?_
  exact b_MD_width_102  hX35  hb0 H
def B_MD_width_35 (G : cx_T) (s : Nat) (a1 : Int) (v2 : Int) (v3 : Int) (v4 : Int) (v5 : Int) (h : ah_T) (Q : Option av_T → ah_T → Prop) (X21 : Int → Int → Int → ah_T → Prop) (X35 : Int → Int → Int → Int → ah_T → Prop) : Prop :=
 (0 ≤ v4 ∧ v4 < 8) ∧ ∀ x2 : Int, x2 = h.2.1 185 (v4).toNat → -2147483648 ≤ x2 → x2 ≤ 2147483647 → ((x2 ≤ v5 → ((-2147483648) ≤ (v4 + 1) ∧ (v4 + 1) ≤ 2147483647) ∧ X21 (v2) (v3) ((v4 + 1)) h) ∧ (¬ x2 ≤ v5 → ((-2147483648) ≤ (300 * v4) ∧ (300 * v4) ≤ 2147483647) ∧ ((-2147483648) ≤ (300 * v4 + v5) ∧ (300 * v4 + v5) ≤ 2147483647) ∧ (0 ≤ (300 * v4 + v5) ∧ (300 * v4 + v5) < 2400) ∧ ∀ x8 : Int, x8 = h.2.1 196 ((300 * v4 + v5)).toNat → -2147483648 ≤ x8 → x8 ≤ 2147483647 → ((x8 = a1 → ∀ x11 : Int, x11 = h.2.1 194 ((300 * v4 + v5)).toNat → -2147483648 ≤ x11 → x11 ≤ 2147483647 → ((-2147483648) ≤ (v3 + x11) ∧ (v3 + x11) ≤ 2147483647) ∧ con G 3 0 0 m_MD_isFirstTime [av_R (some 170), av_I v4, av_I (300 * v4 + v5), av_I a1] h (fun r h13 => ∃ z15 : Int, r = some (av_I z15) ∧ hb s h13 ∧ ((z15 = 0 → B_MD_width_100 G s a1 ((v3 + x11)) (v4) (v5) (v2) (0) h13 Q X35) ∧ (¬ z15 = 0 → B_MD_width_100 G s a1 ((v3 + x11)) (v4) (v5) (v2) (1) h13 Q X35)))) ∧ (¬ x8 = a1 → B_MD_width_102 G s a1 (v2) (v3) (v4) (v5) h Q X35))))
theorem b_MD_width_35 {G : cx_T} {s : Nat} {a1 : Int} {v2 : Int} {v3 : Int} {v4 : Int} {v5 : Int} {h : ah_T} {Q : Option av_T → ah_T → Prop} {X21 : Int → Int → Int → ah_T → Prop} {X35 : Int → Int → Int → Int → ah_T → Prop} (hX21 : ∀ (v2 : Int) (v3 : Int) (v4 : Int) (h : ah_T), hb s h → X21 v2 v3 v4 h → aw G (rm_R 4 0 0) m_MD_width 0 0 21 [some (av_R (some 170)), some (av_I a1), some (av_I v2), some (av_I v3), some (av_I v4), none, none] [] h Q) (hX35 : ∀ (v2 : Int) (v3 : Int) (v4 : Int) (v5 : Int) (h : ah_T), hb s h → X35 v2 v3 v4 v5 h → aw G (rm_R 4 0 0) m_MD_width 0 0 35 [some (av_R (some 170)), some (av_I a1), some (av_I v2), some (av_I v3), some (av_I v4), some (av_I v5), none] [] h Q) (hb0 : hb s h) (H : B_MD_width_35 G s a1 v2 v3 v4 v5 h Q X21 X35) : aw G (rm_R 4 0 0) m_MD_width 0 0 35 [some (av_R (some 170)), some (av_I a1), some (av_I v2), some (av_I v3), some (av_I v4), some (av_I v5), none] [] h Q := by
  unfold B_MD_width_35 at H
  have hS : isS s := hb0.2.1
  refine A_iload d_MD_width_35 rfl ?_
  refine A_aload_n 0 d_MD_width_37 rfl rfl ?_
  refine A_getAv (z := some 185) T_ok d_MD_width_38 f_MD_57 (hb_s hb0 sf_170) (hb_m hb0 rfm_27) ?_
  refine A_iload d_MD_width_41 rfl ?_
  have g3 := H.1
  replace H := H.2
  refine A_ialoadf d_MD_width_43 (hb_s hb0 sf_185) g3.1 g3.2 (fun x2 ex2 lx2 ux2 => ?_)
  replace H := H x2 ex2 lx2 ux2
  refine A_pc (pc' := 44) rfl ?_
  refine A_icmp_ge (tgt := 108) d_MD_width_44 (by decide) (fun c => ?_) (fun c => ?_)
  · replace H := H.1 c
    have g4 := H.1
    replace H := H.2
    refine A_iincv (z := (v4 + 1)) (L' := [some (av_R (some 170)), some (av_I a1), some (av_I v2), some (av_I v3), some (av_I (v4 + 1)), some (av_I v5), none]) d_MD_width_108 rfl (w32_to (by omega) (by unfold i32; omega)) rfl ?_
    refine A_goto (tgt := 21) d_MD_width_111 (by decide) ?_
    refine A_pc (pc' := 21) rfl ?_
    refine A_free (L' := [some (av_R (some 170)), some (av_I a1), some (av_I v2), some (av_I v3), some (av_I (v4 + 1)), none, none]) (And.intro rfl (And.intro rfl (And.intro rfl (And.intro rfl (And.intro rfl trivial))))) ?_
    exact hX21 (v2) (v3) ((v4 + 1)) h  hb0 H
  · replace H := H.2 c
    refine A_sipush d_MD_width_47 rfl ?_
    refine A_iload d_MD_width_50 rfl ?_
    have g5 := H.1
    replace H := H.2
    refine A_imulv (z := (300 * v4)) d_MD_width_52 (w32_to (by omega) (by unfold i32; omega)) ?_
    refine A_iload d_MD_width_53 rfl ?_
    have g6 := H.1
    replace H := H.2
    refine A_iaddv (z := (300 * v4 + v5)) d_MD_width_55 (w32_to (by omega) (by unfold i32; omega)) ?_
    refine A_pc (pc' := 56) rfl ?_
    refine A_istore (L' := [some (av_R (some 170)), some (av_I a1), some (av_I v2), some (av_I v3), some (av_I v4), some (av_I v5), some (av_I (300 * v4 + v5))]) d_MD_width_56 (Nat.le_of_ble_eq_true rfl) rfl ?_
    refine A_aload_n 0 d_MD_width_58 rfl rfl ?_
    refine A_getAv (z := some 196) T_ok d_MD_width_59 f_MD_91 (hb_s hb0 sf_170) (hb_m hb0 rfm_38) ?_
    refine A_iload d_MD_width_62 rfl ?_
    have g9 := H.1
    replace H := H.2
    refine A_ialoadf d_MD_width_64 (hb_s hb0 sf_196) g9.1 g9.2 (fun x8 ex8 lx8 ux8 => ?_)
    replace H := H x8 ex8 lx8 ux8
    refine A_iload_n 1 d_MD_width_65 rfl rfl ?_
    refine A_pc (pc' := 66) rfl ?_
    refine A_icmp_eq (tgt := 72) d_MD_width_66 (by decide) (fun c => ?_) (fun c => ?_)
    · replace H := H.1 c
      refine A_iload_n 3 d_MD_width_72 rfl rfl ?_
      refine A_aload_n 0 d_MD_width_73 rfl rfl ?_
      refine A_getAv (z := some 194) T_ok d_MD_width_74 f_MD_84 (hb_s hb0 sf_170) (hb_m hb0 rfm_36) ?_
      refine A_iload d_MD_width_77 rfl ?_
      refine A_ialoadf d_MD_width_79 (hb_s hb0 sf_194) g9.1 g9.2 (fun x11 ex11 lx11 ux11 => ?_)
      replace H := H x11 ex11 lx11 ux11
      refine A_pc (pc' := 80) rfl ?_
      have g12 := H.1
      replace H := H.2
      refine A_iaddv (z := (v3 + x11)) d_MD_width_80 (w32_to (by omega) (by unfold i32; omega)) ?_
      refine A_istore_n 3 (L' := [some (av_R (some 170)), some (av_I a1), some (av_I v2), some (av_I (v3 + x11)), some (av_I v4), some (av_I v5), some (av_I (300 * v4 + v5))]) d_MD_width_81 rfl (Nat.le_of_ble_eq_true rfl) rfl ?_
      refine A_iload_n 2 d_MD_width_82 rfl rfl ?_
      refine A_aload_n 0 d_MD_width_83 rfl rfl ?_
      refine A_iload d_MD_width_84 rfl ?_
      refine A_iload d_MD_width_86 rfl ?_
      refine A_pc (pc' := 88) rfl ?_
      refine A_iload_n 1 d_MD_width_88 rfl rfl ?_
      refine A_callV3 m_MD_isFirstTime T_ok d_MD_width_89 l_MD_548 k_MD_isFirstTime (hb_s hb0 sf_170) rfl (by decide +kernel) (by decide) (Nat.le_of_ble_eq_true rfl) H (fun r h13 hq => ?_)
      clear H
      obtain ⟨z15, rfl, hb14, H⟩ := hq
      refine A_if_eq (tgt := 99) d_MD_width_92 (by decide) (fun c => ?_) (fun c => ?_)
      · replace H := H.1 c
        refine A_iconst d_MD_width_99 rfl ?_
        refine A_pc (pc' := 100) rfl ?_
        refine A_free (L' := [some (av_R (some 170)), some (av_I a1), none, some (av_I (v3 + x11)), some (av_I v4), some (av_I v5), none]) (And.intro rfl (And.intro rfl (And.intro rfl (And.intro rfl (And.intro rfl trivial))))) ?_
        exact b_MD_width_100  hX35  hb14 H
      · replace H := H.2 c
        refine A_iconst d_MD_width_95 rfl ?_
        refine A_goto (tgt := 100) d_MD_width_96 (by decide) ?_
        refine A_pc (pc' := 100) rfl ?_
        refine A_free (L' := [some (av_R (some 170)), some (av_I a1), none, some (av_I (v3 + x11)), some (av_I v4), some (av_I v5), none]) (And.intro rfl (And.intro rfl (And.intro rfl (And.intro rfl (And.intro rfl trivial))))) ?_
        exact b_MD_width_100  hX35  hb14 H
    · replace H := H.2 c
      refine A_goto (tgt := 102) d_MD_width_69 (by decide) ?_
      refine A_pc (pc' := 102) rfl ?_
      refine A_free (L' := [some (av_R (some 170)), some (av_I a1), some (av_I v2), some (av_I v3), some (av_I v4), some (av_I v5), none]) (And.intro rfl (And.intro rfl (And.intro rfl (And.intro rfl (And.intro rfl (And.intro rfl trivial)))))) ?_
      exact b_MD_width_102  hX35  hb0 H
theorem lp_MD_width_35 {G : cx_T} {s : Nat} {a1 : Int} {Q : Option av_T → ah_T → Prop} {X21 : Int → Int → Int → ah_T → Prop} (hX21 : ∀ (v2 : Int) (v3 : Int) (v4 : Int) (h : ah_T), hb s h → X21 v2 v3 v4 h → aw G (rm_R 4 0 0) m_MD_width 0 0 21 [some (av_R (some 170)), some (av_I a1), some (av_I v2), some (av_I v3), some (av_I v4), none, none] [] h Q) (I : Int → Int → Int → Int → ah_T → Prop) (μ : Int → Int → Int → Int → ah_T → Nat) (hI : ∀ (v2 : Int) (v3 : Int) (v4 : Int) (v5 : Int) (h : ah_T), hb s h → I v2 v3 v4 v5 h → B_MD_width_35 G s a1 v2 v3 v4 v5 h Q X21 (fun v2' v3' v4' v5' h' => I v2' v3' v4' v5' h' ∧ μ v2' v3' v4' v5' h' < μ v2 v3 v4 v5 h)) : ∀ (v2 : Int) (v3 : Int) (v4 : Int) (v5 : Int) (h : ah_T), hb s h → I v2 v3 v4 v5 h → aw G (rm_R 4 0 0) m_MD_width 0 0 35 [some (av_R (some 170)), some (av_I a1), some (av_I v2), some (av_I v3), some (av_I v4), some (av_I v5), none] [] h Q := by
  have key : ∀ (n : Nat) (v2 : Int) (v3 : Int) (v4 : Int) (v5 : Int) (h : ah_T), hb s h → I v2 v3 v4 v5 h → μ v2 v3 v4 v5 h < n → aw G (rm_R 4 0 0) m_MD_width 0 0 35 [some (av_R (some 170)), some (av_I a1), some (av_I v2), some (av_I v3), some (av_I v4), some (av_I v5), none] [] h Q := by
    intro n
    induction n with
    | zero => intro v2 v3 v4 v5 h  hb0 hi hm; omega
    | succ n ih => intro v2 v3 v4 v5 h  hb0 hi hm; exact b_MD_width_35  hX21 (fun v2' v3' v4' v5' h'  hb' hx => ih v2' v3' v4' v5' h'  hb' hx.1 (by have := hx.2; omega))  hb0 (hI v2 v3 v4 v5 h  hb0 hi)
  exact fun v2 v3 v4 v5 h  hb0 hi => key _ v2 v3 v4 v5 h  hb0 hi (Nat.lt_succ_self _)
def B_MD_width_21 (G : cx_T) (s : Nat) (a1 : Int) (v2 : Int) (v3 : Int) (v4 : Int) (h : ah_T) (Q : Option av_T → ah_T → Prop) (X35 : Int → Int → Int → Int → ah_T → Prop) : Prop :=
 ∀ x2 : Int, x2 = h.2.1 172 0 → -2147483648 ≤ x2 → x2 ≤ 2147483647 → ((x2 ≤ v4 → ((-2147483648) ≤ (8 * v2) ∧ (8 * v2) ≤ 2147483647) ∧ ((-2147483648) ≤ (8 * v2 + 10) ∧ (8 * v2 + 10) ≤ 2147483647) ∧ ((-2147483648) ≤ (3 * v3) ∧ (3 * v3) ≤ 2147483647) ∧ ((-2147483648) ≤ (8 * v2 + 3 * v3 + 10) ∧ (8 * v2 + 3 * v3 + 10) ≤ 2147483647) ∧ Q (some (av_I (8 * v2 + 3 * v3 + 10))) h) ∧ (¬ x2 ≤ v4 → X35 (v2) (v3) (v4) (0) h))
theorem b_MD_width_21 {G : cx_T} {s : Nat} {a1 : Int} {v2 : Int} {v3 : Int} {v4 : Int} {h : ah_T} {Q : Option av_T → ah_T → Prop} {X35 : Int → Int → Int → Int → ah_T → Prop} (hX35 : ∀ (v2 : Int) (v3 : Int) (v4 : Int) (v5 : Int) (h : ah_T), hb s h → X35 v2 v3 v4 v5 h → aw G (rm_R 4 0 0) m_MD_width 0 0 35 [some (av_R (some 170)), some (av_I a1), some (av_I v2), some (av_I v3), some (av_I v4), some (av_I v5), none] [] h Q) (hb0 : hb s h) (H : B_MD_width_21 G s a1 v2 v3 v4 h Q X35) : aw G (rm_R 4 0 0) m_MD_width 0 0 21 [some (av_R (some 170)), some (av_I a1), some (av_I v2), some (av_I v3), some (av_I v4), none, none] [] h Q := by
  unfold B_MD_width_21 at H
  have hS : isS s := hb0.2.1
  refine A_iload d_MD_width_21 rfl ?_
  refine A_aload_n 0 d_MD_width_23 rfl rfl ?_
  refine A_getAv (z := some 172) T_ok d_MD_width_24 f_MD_17 (hb_s hb0 sf_170) (hb_m hb0 rfm_14) ?_
  refine A_iconst d_MD_width_27 rfl ?_
  refine A_ialoadf d_MD_width_28 (hb_s hb0 sf_172) (by decide) (by decide) (fun x2 ex2 lx2 ux2 => ?_)
  replace H := H x2 ex2 lx2 ux2
  refine A_pc (pc' := 29) rfl ?_
  refine A_icmp_ge (tgt := 114) d_MD_width_29 (by decide) (fun c => ?_) (fun c => ?_)
  · replace H := H.1 c
    refine A_bipush d_MD_width_114 rfl ?_
    refine A_bipush d_MD_width_116 rfl ?_
    refine A_iload_n 2 d_MD_width_118 rfl rfl ?_
    have g3 := H.1
    replace H := H.2
    refine A_imulv (z := (8 * v2)) d_MD_width_119 (w32_to (by omega) (by unfold i32; omega)) ?_
    have g4 := H.1
    replace H := H.2
    refine A_iaddv (z := (8 * v2 + 10)) d_MD_width_120 (w32_to (by omega) (by unfold i32; omega)) ?_
    refine A_pc (pc' := 121) rfl ?_
    refine A_iconst d_MD_width_121 rfl ?_
    refine A_iload_n 3 d_MD_width_122 rfl rfl ?_
    have g5 := H.1
    replace H := H.2
    refine A_imulv (z := (3 * v3)) d_MD_width_123 (w32_to (by omega) (by unfold i32; omega)) ?_
    have g6 := H.1
    replace H := H.2
    refine A_iaddv (z := (8 * v2 + 3 * v3 + 10)) d_MD_width_124 (w32_to (by omega) (by unfold i32; omega)) ?_
    exact A_iret d_MD_width_125 (by decide) rfl H
  · replace H := H.2 c
    refine A_iconst d_MD_width_32 rfl ?_
    refine A_istore (L' := [some (av_R (some 170)), some (av_I a1), some (av_I v2), some (av_I v3), some (av_I v4), some (av_I 0), none]) d_MD_width_33 (Nat.le_of_ble_eq_true rfl) rfl ?_
    refine A_pc (pc' := 35) rfl ?_
    exact hX35 (v2) (v3) (v4) (0) h  hb0 H
theorem lp_MD_width_21 {G : cx_T} {s : Nat} {a1 : Int} {Q : Option av_T → ah_T → Prop} {X35 : Int → Int → Int → Int → ah_T → Prop} (hX35 : ∀ (v2 : Int) (v3 : Int) (v4 : Int) (v5 : Int) (h : ah_T), hb s h → X35 v2 v3 v4 v5 h → aw G (rm_R 4 0 0) m_MD_width 0 0 35 [some (av_R (some 170)), some (av_I a1), some (av_I v2), some (av_I v3), some (av_I v4), some (av_I v5), none] [] h Q) (I : Int → Int → Int → ah_T → Prop) (μ : Int → Int → Int → ah_T → Nat) (hI : ∀ (v2 : Int) (v3 : Int) (v4 : Int) (h : ah_T), hb s h → I v2 v3 v4 h → B_MD_width_21 G s a1 v2 v3 v4 h Q X35) : ∀ (v2 : Int) (v3 : Int) (v4 : Int) (h : ah_T), hb s h → I v2 v3 v4 h → aw G (rm_R 4 0 0) m_MD_width 0 0 21 [some (av_R (some 170)), some (av_I a1), some (av_I v2), some (av_I v3), some (av_I v4), none, none] [] h Q := by
  have key : ∀ (n : Nat) (v2 : Int) (v3 : Int) (v4 : Int) (h : ah_T), hb s h → I v2 v3 v4 h → μ v2 v3 v4 h < n → aw G (rm_R 4 0 0) m_MD_width 0 0 21 [some (av_R (some 170)), some (av_I a1), some (av_I v2), some (av_I v3), some (av_I v4), none, none] [] h Q := by
    intro n
    induction n with
    | zero => intro v2 v3 v4 h  hb0 hi hm; omega
    | succ n ih => intro v2 v3 v4 h  hb0 hi hm; exact b_MD_width_21  hX35  hb0 (hI v2 v3 v4 h  hb0 hi)
  exact fun v2 v3 v4 h  hb0 hi => key _ v2 v3 v4 h  hb0 hi (Nat.lt_succ_self _)
def B_MD_width_12 (G : cx_T) (s : Nat) (a1 : Int) (h : ah_T) (Q : Option av_T → ah_T → Prop) : Prop :=
 Q (some (av_I (-1))) h
theorem b_MD_width_12 {G : cx_T} {s : Nat} {a1 : Int} {h : ah_T} {Q : Option av_T → ah_T → Prop} (hb0 : hb s h) (H : B_MD_width_12 G s a1 h Q ) : aw G (rm_R 4 0 0) m_MD_width 0 0 12 [none, none, none, none, none, none, none] [] h Q := by
  unfold B_MD_width_12 at H
  have hS : isS s := hb0.2.1
  refine A_iconst d_MD_width_12 rfl ?_
  exact A_iret d_MD_width_13 (by decide) rfl H
def B_MD_width_0 (G : cx_T) (s : Nat) (a1 : Int) (h : ah_T) (Q : Option av_T → ah_T → Prop) (X21 : Int → Int → Int → ah_T → Prop) : Prop :=
 ((a1 < 0 → B_MD_width_12 G s a1 h Q ) ∧ (¬ a1 < 0 → con G 0 0 0 m_MD_pageBars [av_R (some 170)] h (fun r h1 => ∃ z3 : Int, r = some (av_I z3) ∧ hb s h1 ∧ ((a1 < z3 → X21 (0) (0) (0) h1) ∧ (¬ a1 < z3 → B_MD_width_12 G s a1 h1 Q )))))
theorem b_MD_width_0 {G : cx_T} {s : Nat} {a1 : Int} {h : ah_T} {Q : Option av_T → ah_T → Prop} {X21 : Int → Int → Int → ah_T → Prop} (hX21 : ∀ (v2 : Int) (v3 : Int) (v4 : Int) (h : ah_T), hb s h → X21 v2 v3 v4 h → aw G (rm_R 4 0 0) m_MD_width 0 0 21 [some (av_R (some 170)), some (av_I a1), some (av_I v2), some (av_I v3), some (av_I v4), none, none] [] h Q) (hb0 : hb s h) (H : B_MD_width_0 G s a1 h Q X21) : aw G (rm_R 4 0 0) m_MD_width 0 0 0 [some (av_R (some 170)), some (av_I a1), none, none, none, none, none] [] h Q := by
  unfold B_MD_width_0 at H
  have hS : isS s := hb0.2.1
  refine A_iload_n 1 d_MD_width_0 rfl rfl ?_
  refine A_if_lt (tgt := 12) d_MD_width_1 (by decide) (fun c => ?_) (fun c => ?_)
  · replace H := H.1 c
    refine A_pc (pc' := 12) rfl ?_
    refine A_free (L' := [none, none, none, none, none, none, none]) trivial ?_
    exact b_MD_width_12    hb0 H
  · replace H := H.2 c
    refine A_iload_n 1 d_MD_width_4 rfl rfl ?_
    refine A_aload_n 0 d_MD_width_5 rfl rfl ?_
    refine A_callV0 m_MD_pageBars T_ok d_MD_width_6 l_MD_492 k_MD_pageBars (hb_s hb0 sf_170) rfl (by decide +kernel) (by decide) (Nat.le_of_ble_eq_true rfl) H (fun r h1 hq => ?_)
    clear H
    obtain ⟨z3, rfl, hb2, H⟩ := hq
    refine A_icmp_lt (tgt := 14) d_MD_width_9 (by decide) (fun c => ?_) (fun c => ?_)
    · replace H := H.1 c
      refine A_iconst d_MD_width_14 rfl ?_
      refine A_istore_n 2 (L' := [some (av_R (some 170)), some (av_I a1), some (av_I 0), none, none, none, none]) d_MD_width_15 rfl (Nat.le_of_ble_eq_true rfl) rfl ?_
      refine A_iconst d_MD_width_16 rfl ?_
      refine A_istore_n 3 (L' := [some (av_R (some 170)), some (av_I a1), some (av_I 0), some (av_I 0), none, none, none]) d_MD_width_17 rfl (Nat.le_of_ble_eq_true rfl) rfl ?_
      refine A_iconst d_MD_width_18 rfl ?_
      refine A_pc (pc' := 19) rfl ?_
      refine A_istore (L' := [some (av_R (some 170)), some (av_I a1), some (av_I 0), some (av_I 0), some (av_I 0), none, none]) d_MD_width_19 (Nat.le_of_ble_eq_true rfl) rfl ?_
      refine A_pc (pc' := 21) rfl ?_
      exact hX21 (0) (0) (0) h1  hb2 H
    · replace H := H.2 c
      refine A_pc (pc' := 12) rfl ?_
      refine A_free (L' := [none, none, none, none, none, none, none]) trivial ?_
      exact b_MD_width_12    hb2 H
theorem c_MD_width {G : cx_T} {s : Nat} {a1 : Int} {h : ah_T} {Q : Option av_T → ah_T → Prop} {X21 : Int → Int → Int → ah_T → Prop} (hX21 : ∀ (v2 : Int) (v3 : Int) (v4 : Int) (h : ah_T), hb s h → X21 v2 v3 v4 h → aw G (rm_R 4 0 0) m_MD_width 0 0 21 [some (av_R (some 170)), some (av_I a1), some (av_I v2), some (av_I v3), some (av_I v4), none, none] [] h Q) (hb0 : hb s h) (H : i32 a1 → B_MD_width_0 G s a1 h Q X21) : con G 4 0 0 m_MD_width [av_R (some 170), av_I a1] h Q := by
  have hS : isS s := hb0.2.1
  refine con_of (L := [some (av_R (some 170)), some (av_I a1), none, none, none, none, none]) (by decide +kernel) (Nat.le_of_ble_eq_true rfl) rfl ?_
  refine A_locI 1 rfl (fun ra1 => ?_)
  exact b_MD_width_0  hX21 hb0 (H ra1)
def B_MD_breaks_213 (G : cx_T) (s : Nat) (a1 : Int) (v2 : Int) (v3 : Int) (h : ah_T) (Q : Option av_T → ah_T → Prop) (X213 : Int → Int → ah_T → Prop) : Prop :=
 ((v2 ≤ v3 → ∀ x2 : Int, x2 = h.2.1 226 0 → -2147483648 ≤ x2 → x2 ≤ 2147483647 → Q (some (av_I x2)) h) ∧ (¬ v2 ≤ v3 → ∀ x4 : Int, x4 = h.2.1 170 89 → -2147483648 ≤ x4 → x4 ≤ 2147483647 → (0 ≤ v3 ∧ v3 < 340) ∧ ∀ x6 : Int, x6 = h.2.1 227 (v3).toNat → -2147483648 ≤ x6 → x6 ≤ 2147483647 → (0 ≤ x4 ∧ x4 < 16) ∧ ∀ h9 : ah_T, h9 = st_i h 228 (x4).toNat x6 → ((-2147483648) ≤ (x4 + 1) ∧ (x4 + 1) ≤ 2147483647) ∧ ∀ h13 : ah_T, h13 = st_i h9 170 89 (x4 + 1) → ((-2147483648) ≤ (v3 + x6) ∧ (v3 + x6) ≤ 2147483647) ∧ X213 (v2) ((v3 + x6)) h13))
theorem b_MD_breaks_213 {G : cx_T} {s : Nat} {a1 : Int} {v2 : Int} {v3 : Int} {h : ah_T} {Q : Option av_T → ah_T → Prop} {X213 : Int → Int → ah_T → Prop} (hX213 : ∀ (v2 : Int) (v3 : Int) (h : ah_T), hb s h → X213 v2 v3 h → aw G (rm_R 5 0 0) m_MD_breaks 0 0 213 [some (av_R (some 170)), none, some (av_I v2), some (av_I v3), none, none, none, none, none] [] h Q) (hb0 : hb s h) (H : B_MD_breaks_213 G s a1 v2 v3 h Q X213) : aw G (rm_R 5 0 0) m_MD_breaks 0 0 213 [some (av_R (some 170)), none, some (av_I v2), some (av_I v3), none, none, none, none, none] [] h Q := by
  unfold B_MD_breaks_213 at H
  have hS : isS s := hb0.2.1
  refine A_iload_n 3 d_MD_breaks_213 rfl rfl ?_
  refine A_iload_n 2 d_MD_breaks_214 rfl rfl ?_
  refine A_icmp_ge (tgt := 255) d_MD_breaks_215 (by decide) (fun c => ?_) (fun c => ?_)
  · replace H := H.1 c
    refine A_aload_n 0 d_MD_breaks_255 rfl rfl ?_
    refine A_getAv (z := some 226) T_ok d_MD_breaks_256 f_MD_181 (hb_s hb0 sf_170) (hb_m hb0 rfm_87) ?_
    refine A_iconst d_MD_breaks_259 rfl ?_
    refine A_ialoadf d_MD_breaks_260 (hb_s hb0 sf_226) (by decide) (by decide) (fun x2 ex2 lx2 ux2 => ?_)
    replace H := H x2 ex2 lx2 ux2
    exact A_iret d_MD_breaks_261 (by decide) rfl H
  · replace H := H.2 c
    refine A_aload_n 0 d_MD_breaks_218 rfl rfl ?_
    refine A_getAv (z := some 228) T_ok d_MD_breaks_219 f_MD_187 (hb_s hb0 sf_170) (hb_m hb0 rfm_90) ?_
    refine A_aload_n 0 d_MD_breaks_222 rfl rfl ?_
    refine A_getIf T_ok d_MD_breaks_223 f_MD_477 (hb_s hb0 sf_170) (fun x4 ex4 lx4 ux4 => ?_)
    replace H := H x4 ex4 lx4 ux4
    refine A_aload_n 0 d_MD_breaks_226 rfl rfl ?_
    refine A_pc (pc' := 227) rfl ?_
    refine A_getAv (z := some 227) T_ok d_MD_breaks_227 f_MD_184 (hb_s hb0 sf_170) (hb_m hb0 rfm_88) ?_
    refine A_iload_n 3 d_MD_breaks_230 rfl rfl ?_
    have g7 := H.1
    replace H := H.2
    refine A_ialoadf d_MD_breaks_231 (hb_s hb0 sf_227) g7.1 g7.2 (fun x6 ex6 lx6 ux6 => ?_)
    replace H := H x6 ex6 lx6 ux6
    have g8 := H.1
    replace H := H.2
    refine A_iastoreN d_MD_breaks_232 (hb_s hb0 sf_228) g8.1 g8.2 ?_
    refine A_hn (fun h9 eh9 => ?_)
    have hb10 := hb_i hb0 eh9
    replace H := H h9 eh9
    refine A_aload_n 0 d_MD_breaks_233 rfl rfl ?_
    refine A_dupR d_MD_breaks_234 ?_
    refine A_pc (pc' := 235) rfl ?_
    refine A_getIv (z := x4) T_ok d_MD_breaks_235 f_MD_477 (hb_s hb10 sf_170) ((mm_i eh9 (fun q => absurd q.1 (by decide))).trans ex4.symm) ?_
    refine A_iconst d_MD_breaks_238 rfl ?_
    have g12 := H.1
    replace H := H.2
    refine A_iaddv (z := (x4 + 1)) d_MD_breaks_239 (w32_to (by omega) (by unfold i32; omega)) ?_
    refine A_putI T_ok d_MD_breaks_240 f_MD_477 (hb_s hb10 sf_170) fin_f ?_
    refine A_hn (fun h13 eh13 => ?_)
    have hb14 := hb_i hb10 eh13
    replace H := H h13 eh13
    refine A_iload_n 3 d_MD_breaks_243 rfl rfl ?_
    refine A_aload_n 0 d_MD_breaks_244 rfl rfl ?_
    refine A_pc (pc' := 245) rfl ?_
    refine A_getAv (z := some 227) T_ok d_MD_breaks_245 f_MD_184 (hb_s hb14 sf_170) (hb_m hb14 rfm_88) ?_
    refine A_iload_n 3 d_MD_breaks_248 rfl rfl ?_
    refine A_ialoadv (z := x6) d_MD_breaks_249 (hb_s hb14 sf_227) (by omega) (by omega) ((mm_i eh13 (fun q => absurd q.1 (by decide))).trans ((mm_i eh9 (fun q => absurd q.1 (by decide))).trans ex6.symm)) ?_
    have g17 := H.1
    replace H := H.2
    refine A_iaddv (z := (v3 + x6)) d_MD_breaks_250 (w32_to (by omega) (by unfold i32; omega)) ?_
    refine A_istore_n 3 (L' := [some (av_R (some 170)), none, some (av_I v2), some (av_I (v3 + x6)), none, none, none, none, none]) d_MD_breaks_251 rfl (Nat.le_of_ble_eq_true rfl) rfl ?_
    refine A_goto (tgt := 213) d_MD_breaks_252 (by decide) ?_
    refine A_pc (pc' := 213) rfl ?_
    exact hX213 (v2) ((v3 + x6)) h13  hb14 H
theorem lp_MD_breaks_213 {G : cx_T} {s : Nat} {a1 : Int} {Q : Option av_T → ah_T → Prop} (I : Int → Int → ah_T → Prop) (μ : Int → Int → ah_T → Nat) (hI : ∀ (v2 : Int) (v3 : Int) (h : ah_T), hb s h → I v2 v3 h → B_MD_breaks_213 G s a1 v2 v3 h Q (fun v2' v3' h' => I v2' v3' h' ∧ μ v2' v3' h' < μ v2 v3 h)) : ∀ (v2 : Int) (v3 : Int) (h : ah_T), hb s h → I v2 v3 h → aw G (rm_R 5 0 0) m_MD_breaks 0 0 213 [some (av_R (some 170)), none, some (av_I v2), some (av_I v3), none, none, none, none, none] [] h Q := by
  have key : ∀ (n : Nat) (v2 : Int) (v3 : Int) (h : ah_T), hb s h → I v2 v3 h → μ v2 v3 h < n → aw G (rm_R 5 0 0) m_MD_breaks 0 0 213 [some (av_R (some 170)), none, some (av_I v2), some (av_I v3), none, none, none, none, none] [] h Q := by
    intro n
    induction n with
    | zero => intro v2 v3 h  hb0 hi hm; omega
    | succ n ih => intro v2 v3 h  hb0 hi hm; exact b_MD_breaks_213  (fun v2' v3' h'  hb' hx => ih v2' v3' h'  hb' hx.1 (by have := hx.2; omega))  hb0 (hI v2 v3 h  hb0 hi)
  exact fun v2 v3 h  hb0 hi => key _ v2 v3 h  hb0 hi (Nat.lt_succ_self _)
def B_MD_breaks_186 (G : cx_T) (s : Nat) (a1 : Int) (v2 : Int) (v3 : Int) (v4 : Int) (v5 : Int) (v6 : Int) (h : ah_T) (Q : Option av_T → ah_T → Prop) (X65 : Int → Int → Int → Int → Int → ah_T → Prop) : Prop :=
 ((-2147483648) ≤ (v6 + 1) ∧ (v6 + 1) ≤ 2147483647) ∧ X65 (v2) (v3) (v4) (v5) ((v6 + 1)) h
theorem b_MD_breaks_186 {G : cx_T} {s : Nat} {a1 : Int} {v2 : Int} {v3 : Int} {v4 : Int} {v5 : Int} {v6 : Int} {h : ah_T} {Q : Option av_T → ah_T → Prop} {X65 : Int → Int → Int → Int → Int → ah_T → Prop} (hX65 : ∀ (v2 : Int) (v3 : Int) (v4 : Int) (v5 : Int) (v6 : Int) (h : ah_T), hb s h → X65 v2 v3 v4 v5 v6 h → aw G (rm_R 5 0 0) m_MD_breaks 0 0 65 [some (av_R (some 170)), some (av_I a1), some (av_I v2), some (av_I v3), some (av_I v4), some (av_I v5), some (av_I v6), none, none] [] h Q) (hb0 : hb s h) (H : B_MD_breaks_186 G s a1 v2 v3 v4 v5 v6 h Q X65) : aw G (rm_R 5 0 0) m_MD_breaks 0 0 186 [some (av_R (some 170)), some (av_I a1), some (av_I v2), some (av_I v3), some (av_I v4), some (av_I v5), some (av_I v6), none, none] [] h Q := by
  unfold B_MD_breaks_186 at H
  have hS : isS s := hb0.2.1
  have g1 := H.1
  replace H := H.2
  refine A_iincv (z := (v6 + 1)) (L' := [some (av_R (some 170)), some (av_I a1), some (av_I v2), some (av_I v3), some (av_I v4), some (av_I v5), some (av_I (v6 + 1)), none, none]) d_MD_breaks_186 rfl (w32_to (by omega) (by unfold i32; omega)) rfl ?_
  refine A_goto (tgt := 65) d_MD_breaks_189 (by decide) ?_
  refine A_pc (pc' := 65) rfl ?_
  exact hX65 (v2) (v3) (v4) (v5) ((v6 + 1)) h  hb0 H
def B_MD_breaks_174 (G : cx_T) (s : Nat) (a1 : Int) (v2 : Int) (v3 : Int) (v5 : Int) (v6 : Int) (v8 : Int) (h : ah_T) (Q : Option av_T → ah_T → Prop) (X65 : Int → Int → Int → Int → Int → ah_T → Prop) : Prop :=
 (0 ≤ v3 ∧ v3 < 340) ∧ ∀ h3 : ah_T, h3 = st_i h 226 (v3).toNat v8 → B_MD_breaks_186 G s a1 (v2) (v3) (v6) (v5) (v6) h3 Q X65
theorem b_MD_breaks_174 {G : cx_T} {s : Nat} {a1 : Int} {v2 : Int} {v3 : Int} {v5 : Int} {v6 : Int} {v8 : Int} {h : ah_T} {Q : Option av_T → ah_T → Prop} {X65 : Int → Int → Int → Int → Int → ah_T → Prop} (hX65 : ∀ (v2 : Int) (v3 : Int) (v4 : Int) (v5 : Int) (v6 : Int) (h : ah_T), hb s h → X65 v2 v3 v4 v5 v6 h → aw G (rm_R 5 0 0) m_MD_breaks 0 0 65 [some (av_R (some 170)), some (av_I a1), some (av_I v2), some (av_I v3), some (av_I v4), some (av_I v5), some (av_I v6), none, none] [] h Q) (hb0 : hb s h) (H : B_MD_breaks_174 G s a1 v2 v3 v5 v6 v8 h Q X65) : aw G (rm_R 5 0 0) m_MD_breaks 0 0 174 [some (av_R (some 170)), some (av_I a1), some (av_I v2), some (av_I v3), none, some (av_I v5), some (av_I v6), none, some (av_I v8)] [] h Q := by
  unfold B_MD_breaks_174 at H
  have hS : isS s := hb0.2.1
  refine A_iload d_MD_breaks_174 rfl ?_
  refine A_istore (L' := [some (av_R (some 170)), some (av_I a1), some (av_I v2), some (av_I v3), some (av_I v6), some (av_I v5), some (av_I v6), none, some (av_I v8)]) d_MD_breaks_176 (Nat.le_of_ble_eq_true rfl) rfl ?_
  refine A_aload_n 0 d_MD_breaks_178 rfl rfl ?_
  refine A_getAv (z := some 226) T_ok d_MD_breaks_179 f_MD_181 (hb_s hb0 sf_170) (hb_m hb0 rfm_87) ?_
  refine A_iload_n 3 d_MD_breaks_182 rfl rfl ?_
  refine A_pc (pc' := 183) rfl ?_
  refine A_iload d_MD_breaks_183 rfl ?_
  have g2 := H.1
  replace H := H.2
  refine A_iastoreN d_MD_breaks_185 (hb_s hb0 sf_226) g2.1 g2.2 ?_
  refine A_hn (fun h3 eh3 => ?_)
  have hb4 := hb_i hb0 eh3
  replace H := H h3 eh3
  refine A_pc (pc' := 186) rfl ?_
  refine A_free (L' := [some (av_R (some 170)), some (av_I a1), some (av_I v2), some (av_I v3), some (av_I v6), some (av_I v5), some (av_I v6), none, none]) (And.intro rfl (And.intro rfl (And.intro rfl (And.intro rfl (And.intro rfl (And.intro rfl (And.intro rfl trivial))))))) ?_
  exact b_MD_breaks_186  hX65  hb4 H
def B_MD_breaks_142 (G : cx_T) (s : Nat) (a1 : Int) (v2 : Int) (v3 : Int) (v4 : Int) (v5 : Int) (v6 : Int) (t0 : Int) (h : ah_T) (Q : Option av_T → ah_T → Prop) (X65 : Int → Int → Int → Int → Int → ah_T → Prop) : Prop :=
 ((-2147483648) ≤ (v3 + v6) ∧ (v3 + v6) ≤ 2147483647) ∧ (0 ≤ (v3 + v6) ∧ (v3 + v6) < 340) ∧ ∀ x3 : Int, x3 = h.2.1 226 ((v3 + v6)).toNat → -2147483648 ≤ x3 → x3 ≤ 2147483647 → ((-2147483648) ≤ (t0 + x3) ∧ (t0 + x3) ≤ 2147483647) ∧ ((v4 < 0 → B_MD_breaks_174 G s a1 (v2) (v3) (v5) (v6) ((t0 + x3)) h Q X65) ∧ (¬ v4 < 0 → (0 ≤ v3 ∧ v3 < 340) ∧ ∀ x7 : Int, x7 = h.2.1 226 (v3).toNat → -2147483648 ≤ x7 → x7 ≤ 2147483647 → ((x7 < (t0 + x3) → B_MD_breaks_186 G s a1 (v2) (v3) (v4) (v5) (v6) h Q X65) ∧ (¬ x7 < (t0 + x3) → B_MD_breaks_174 G s a1 (v2) (v3) (v5) (v6) ((t0 + x3)) h Q X65))))
theorem b_MD_breaks_142 {G : cx_T} {s : Nat} {a1 : Int} {v2 : Int} {v3 : Int} {v4 : Int} {v5 : Int} {v6 : Int} {t0 : Int} {h : ah_T} {Q : Option av_T → ah_T → Prop} {X65 : Int → Int → Int → Int → Int → ah_T → Prop} (hX65 : ∀ (v2 : Int) (v3 : Int) (v4 : Int) (v5 : Int) (v6 : Int) (h : ah_T), hb s h → X65 v2 v3 v4 v5 v6 h → aw G (rm_R 5 0 0) m_MD_breaks 0 0 65 [some (av_R (some 170)), some (av_I a1), some (av_I v2), some (av_I v3), some (av_I v4), some (av_I v5), some (av_I v6), none, none] [] h Q) (hb0 : hb s h) (H : B_MD_breaks_142 G s a1 v2 v3 v4 v5 v6 t0 h Q X65) : aw G (rm_R 5 0 0) m_MD_breaks 0 0 142 [some (av_R (some 170)), some (av_I a1), some (av_I v2), some (av_I v3), some (av_I v4), some (av_I v5), some (av_I v6), none, none] [av_I t0] h Q := by
  unfold B_MD_breaks_142 at H
  have hS : isS s := hb0.2.1
  refine A_istore (L' := [some (av_R (some 170)), some (av_I a1), some (av_I v2), some (av_I v3), some (av_I v4), some (av_I v5), some (av_I v6), none, some (av_I t0)]) d_MD_breaks_142 (Nat.le_of_ble_eq_true rfl) rfl ?_
  refine A_iload d_MD_breaks_144 rfl ?_
  refine A_aload_n 0 d_MD_breaks_146 rfl rfl ?_
  refine A_getAv (z := some 226) T_ok d_MD_breaks_147 f_MD_181 (hb_s hb0 sf_170) (hb_m hb0 rfm_87) ?_
  refine A_iload_n 3 d_MD_breaks_150 rfl rfl ?_
  refine A_pc (pc' := 151) rfl ?_
  refine A_iload d_MD_breaks_151 rfl ?_
  have g2 := H.1
  replace H := H.2
  refine A_iaddv (z := (v3 + v6)) d_MD_breaks_153 (w32_to (by omega) (by unfold i32; omega)) ?_
  have g4 := H.1
  replace H := H.2
  refine A_ialoadf d_MD_breaks_154 (hb_s hb0 sf_226) g4.1 g4.2 (fun x3 ex3 lx3 ux3 => ?_)
  replace H := H x3 ex3 lx3 ux3
  have g5 := H.1
  replace H := H.2
  refine A_iaddv (z := (t0 + x3)) d_MD_breaks_155 (w32_to (by omega) (by unfold i32; omega)) ?_
  refine A_istore (L' := [some (av_R (some 170)), some (av_I a1), some (av_I v2), some (av_I v3), some (av_I v4), some (av_I v5), some (av_I v6), none, some (av_I (t0 + x3))]) d_MD_breaks_156 (Nat.le_of_ble_eq_true rfl) rfl ?_
  refine A_iload d_MD_breaks_158 rfl ?_
  refine A_pc (pc' := 160) rfl ?_
  refine A_if_lt (tgt := 174) d_MD_breaks_160 (by decide) (fun c => ?_) (fun c => ?_)
  · replace H := H.1 c
    refine A_pc (pc' := 174) rfl ?_
    refine A_free (L' := [some (av_R (some 170)), some (av_I a1), some (av_I v2), some (av_I v3), none, some (av_I v5), some (av_I v6), none, some (av_I (t0 + x3))]) (And.intro rfl (And.intro rfl (And.intro rfl (And.intro rfl (And.intro rfl (And.intro rfl (And.intro rfl trivial))))))) ?_
    exact b_MD_breaks_174  hX65  hb0 H
  · replace H := H.2 c
    refine A_iload d_MD_breaks_163 rfl ?_
    refine A_aload_n 0 d_MD_breaks_165 rfl rfl ?_
    refine A_getAv (z := some 226) T_ok d_MD_breaks_166 f_MD_181 (hb_s hb0 sf_170) (hb_m hb0 rfm_87) ?_
    refine A_iload_n 3 d_MD_breaks_169 rfl rfl ?_
    have g8 := H.1
    replace H := H.2
    refine A_ialoadf d_MD_breaks_170 (hb_s hb0 sf_226) g8.1 g8.2 (fun x7 ex7 lx7 ux7 => ?_)
    replace H := H x7 ex7 lx7 ux7
    refine A_pc (pc' := 171) rfl ?_
    refine A_icmp_gt (tgt := 186) d_MD_breaks_171 (by decide) (fun c => ?_) (fun c => ?_)
    · replace H := H.1 c
      refine A_pc (pc' := 186) rfl ?_
      refine A_free (L' := [some (av_R (some 170)), some (av_I a1), some (av_I v2), some (av_I v3), some (av_I v4), some (av_I v5), some (av_I v6), none, none]) (And.intro rfl (And.intro rfl (And.intro rfl (And.intro rfl (And.intro rfl (And.intro rfl (And.intro rfl trivial))))))) ?_
      exact b_MD_breaks_186  hX65  hb0 H
    · replace H := H.2 c
      refine A_pc (pc' := 174) rfl ?_
      refine A_free (L' := [some (av_R (some 170)), some (av_I a1), some (av_I v2), some (av_I v3), none, some (av_I v5), some (av_I v6), none, some (av_I (t0 + x3))]) (And.intro rfl (And.intro rfl (And.intro rfl (And.intro rfl (And.intro rfl (And.intro rfl (And.intro rfl trivial))))))) ?_
      exact b_MD_breaks_174  hX65  hb0 H
def B_MD_breaks_108 (G : cx_T) (s : Nat) (a1 : Int) (v2 : Int) (v3 : Int) (v4 : Int) (v5 : Int) (v6 : Int) (v7 : Int) (h : ah_T) (Q : Option av_T → ah_T → Prop) (X65 : Int → Int → Int → Int → Int → ah_T → Prop) : Prop :=
 ((0 ≤ v7 → ((-2147483648) ≤ (v3 + v6) ∧ (v3 + v6) ≤ 2147483647) ∧ (((v3 + v6) = v2 → B_MD_breaks_142 G s a1 (v2) (v3) (v4) (v5) (v6) (0) h Q X65) ∧ (¬ (v3 + v6) = v2 → ∀ x2 : Int, x2 = v7 * v7 → ((-2147483648) ≤ x2 ∧ x2 ≤ 2147483647) ∧ B_MD_breaks_142 G s a1 (v2) (v3) (v4) (v5) (v6) (x2) h Q X65))) ∧ (¬ 0 ≤ v7 → ∀ x4 : Int, x4 = v7 * v7 → ((-2147483648) ≤ x4 ∧ x4 ≤ 2147483647) ∧ ((-2147483648) ≤ (x4 + 10000) ∧ (x4 + 10000) ≤ 2147483647) ∧ B_MD_breaks_142 G s a1 (v2) (v3) (v4) (v5) (v6) ((x4 + 10000)) h Q X65))
theorem b_MD_breaks_108 {G : cx_T} {s : Nat} {a1 : Int} {v2 : Int} {v3 : Int} {v4 : Int} {v5 : Int} {v6 : Int} {v7 : Int} {h : ah_T} {Q : Option av_T → ah_T → Prop} {X65 : Int → Int → Int → Int → Int → ah_T → Prop} (hX65 : ∀ (v2 : Int) (v3 : Int) (v4 : Int) (v5 : Int) (v6 : Int) (h : ah_T), hb s h → X65 v2 v3 v4 v5 v6 h → aw G (rm_R 5 0 0) m_MD_breaks 0 0 65 [some (av_R (some 170)), some (av_I a1), some (av_I v2), some (av_I v3), some (av_I v4), some (av_I v5), some (av_I v6), none, none] [] h Q) (hb0 : hb s h) (H : B_MD_breaks_108 G s a1 v2 v3 v4 v5 v6 v7 h Q X65) : aw G (rm_R 5 0 0) m_MD_breaks 0 0 108 [some (av_R (some 170)), some (av_I a1), some (av_I v2), some (av_I v3), some (av_I v4), some (av_I v5), some (av_I v6), some (av_I v7), none] [] h Q := by
  unfold B_MD_breaks_108 at H
  have hS : isS s := hb0.2.1
  refine A_iload d_MD_breaks_108 rfl ?_
  refine A_if_ge (tgt := 125) d_MD_breaks_110 (by decide) (fun c => ?_) (fun c => ?_)
  · replace H := H.1 c
    refine A_iload_n 3 d_MD_breaks_125 rfl rfl ?_
    refine A_iload d_MD_breaks_126 rfl ?_
    have g1 := H.1
    replace H := H.2
    refine A_iaddv (z := (v3 + v6)) d_MD_breaks_128 (w32_to (by omega) (by unfold i32; omega)) ?_
    refine A_iload_n 2 d_MD_breaks_129 rfl rfl ?_
    refine A_icmp_ne (tgt := 137) d_MD_breaks_130 (by decide) (fun c => ?_) (fun c => ?_)
    · replace H := H.2 c
      refine A_iload d_MD_breaks_137 rfl ?_
      refine A_iload d_MD_breaks_139 rfl ?_
      obtain ⟨x2, ex2⟩ : ∃ z : Int, z = v7 * v7 := ⟨_, rfl⟩
      replace H := H x2 ex2
      have g3 := H.1
      replace H := H.2
      refine A_imulv (z := x2) d_MD_breaks_141 (w32_to ex2.symm (by unfold i32; omega)) ?_
      refine A_pc (pc' := 142) rfl ?_
      refine A_free (L' := [some (av_R (some 170)), some (av_I a1), some (av_I v2), some (av_I v3), some (av_I v4), some (av_I v5), some (av_I v6), none, none]) (And.intro rfl (And.intro rfl (And.intro rfl (And.intro rfl (And.intro rfl (And.intro rfl (And.intro rfl trivial))))))) ?_
      exact b_MD_breaks_142  hX65  hb0 H
    · replace H := H.1 c
      refine A_iconst d_MD_breaks_133 rfl ?_
      refine A_goto (tgt := 142) d_MD_breaks_134 (by decide) ?_
      refine A_pc (pc' := 142) rfl ?_
      refine A_free (L' := [some (av_R (some 170)), some (av_I a1), some (av_I v2), some (av_I v3), some (av_I v4), some (av_I v5), some (av_I v6), none, none]) (And.intro rfl (And.intro rfl (And.intro rfl (And.intro rfl (And.intro rfl (And.intro rfl (And.intro rfl trivial))))))) ?_
      exact b_MD_breaks_142  hX65  hb0 H
  · replace H := H.2 c
    refine A_sipush d_MD_breaks_113 rfl ?_
    refine A_iload d_MD_breaks_116 rfl ?_
    refine A_iload d_MD_breaks_118 rfl ?_
    obtain ⟨x4, ex4⟩ : ∃ z : Int, z = v7 * v7 := ⟨_, rfl⟩
    replace H := H x4 ex4
    have g5 := H.1
    replace H := H.2
    refine A_imulv (z := x4) d_MD_breaks_120 (w32_to ex4.symm (by unfold i32; omega)) ?_
    have g6 := H.1
    replace H := H.2
    refine A_iaddv (z := (x4 + 10000)) d_MD_breaks_121 (w32_to (by omega) (by unfold i32; omega)) ?_
    refine A_pc (pc' := 122) rfl ?_
    refine A_goto (tgt := 142) d_MD_breaks_122 (by decide) ?_
    refine A_pc (pc' := 142) rfl ?_
    refine A_free (L' := [some (av_R (some 170)), some (av_I a1), some (av_I v2), some (av_I v3), some (av_I v4), some (av_I v5), some (av_I v6), none, none]) (And.intro rfl (And.intro rfl (And.intro rfl (And.intro rfl (And.intro rfl (And.intro rfl (And.intro rfl trivial))))))) ?_
    exact b_MD_breaks_142  hX65  hb0 H
def B_MD_breaks_65 (G : cx_T) (s : Nat) (a1 : Int) (v2 : Int) (v3 : Int) (v4 : Int) (v5 : Int) (v6 : Int) (h : ah_T) (Q : Option av_T → ah_T → Prop) (X51 : Int → Int → ah_T → Prop) (X65 : Int → Int → Int → Int → Int → ah_T → Prop) : Prop :=
 ((-2147483648) ≤ (v3 + v6) ∧ (v3 + v6) ≤ 2147483647) ∧ ((v2 < (v3 + v6) → (0 ≤ v3 ∧ v3 < 340) ∧ ∀ h4 : ah_T, h4 = st_i h 227 (v3).toNat v4 → ((-2147483648) ≤ (v3 - 1) ∧ (v3 - 1) ≤ 2147483647) ∧ X51 (v2) ((v3 - 1)) h4) ∧ (¬ v2 < (v3 + v6) → ((-2147483648) ≤ (v3 + v6 - 1) ∧ (v3 + v6 - 1) ≤ 2147483647) ∧ con G 4 0 0 m_MD_width [av_R (some 170), av_I (v3 + v6 - 1)] h (fun r h8 => ∃ z10 : Int, r = some (av_I z10) ∧ hb s h8 ∧ ((-2147483648) ≤ (v5 + z10) ∧ (v5 + z10) ≤ 2147483647) ∧ ((-2147483648) ≤ (a1 - v5 - z10) ∧ (a1 - v5 - z10) ≤ 2147483647) ∧ ((0 ≤ (a1 - v5 - z10) → B_MD_breaks_108 G s a1 (v2) (v3) (v4) ((v5 + z10)) (v6) ((a1 - v5 - z10)) h8 Q X65) ∧ (¬ 0 ≤ (a1 - v5 - z10) → ((v6 ≤ 1 → B_MD_breaks_108 G s a1 (v2) (v3) (v4) ((v5 + z10)) (v6) ((a1 - v5 - z10)) h8 Q X65) ∧ (¬ v6 ≤ 1 → B_MD_breaks_186 G s a1 (v2) (v3) (v4) ((v5 + z10)) (v6) h8 Q X65)))))))
theorem b_MD_breaks_65 {G : cx_T} {s : Nat} {a1 : Int} {v2 : Int} {v3 : Int} {v4 : Int} {v5 : Int} {v6 : Int} {h : ah_T} {Q : Option av_T → ah_T → Prop} {X51 : Int → Int → ah_T → Prop} {X65 : Int → Int → Int → Int → Int → ah_T → Prop} (hX51 : ∀ (v2 : Int) (v3 : Int) (h : ah_T), hb s h → X51 v2 v3 h → aw G (rm_R 5 0 0) m_MD_breaks 0 0 51 [some (av_R (some 170)), some (av_I a1), some (av_I v2), some (av_I v3), none, none, none, none, none] [] h Q) (hX65 : ∀ (v2 : Int) (v3 : Int) (v4 : Int) (v5 : Int) (v6 : Int) (h : ah_T), hb s h → X65 v2 v3 v4 v5 v6 h → aw G (rm_R 5 0 0) m_MD_breaks 0 0 65 [some (av_R (some 170)), some (av_I a1), some (av_I v2), some (av_I v3), some (av_I v4), some (av_I v5), some (av_I v6), none, none] [] h Q) (hb0 : hb s h) (H : B_MD_breaks_65 G s a1 v2 v3 v4 v5 v6 h Q X51 X65) : aw G (rm_R 5 0 0) m_MD_breaks 0 0 65 [some (av_R (some 170)), some (av_I a1), some (av_I v2), some (av_I v3), some (av_I v4), some (av_I v5), some (av_I v6), none, none] [] h Q := by
  unfold B_MD_breaks_65 at H
  have hS : isS s := hb0.2.1
  refine A_iload_n 3 d_MD_breaks_65 rfl rfl ?_
  refine A_iload d_MD_breaks_66 rfl ?_
  have g1 := H.1
  replace H := H.2
  refine A_iaddv (z := (v3 + v6)) d_MD_breaks_68 (w32_to (by omega) (by unfold i32; omega)) ?_
  refine A_iload_n 2 d_MD_breaks_69 rfl rfl ?_
  refine A_icmp_gt (tgt := 192) d_MD_breaks_70 (by decide) (fun c => ?_) (fun c => ?_)
  · replace H := H.1 c
    refine A_aload_n 0 d_MD_breaks_192 rfl rfl ?_
    refine A_getAv (z := some 227) T_ok d_MD_breaks_193 f_MD_184 (hb_s hb0 sf_170) (hb_m hb0 rfm_88) ?_
    refine A_iload_n 3 d_MD_breaks_196 rfl rfl ?_
    refine A_iload d_MD_breaks_197 rfl ?_
    have g3 := H.1
    replace H := H.2
    refine A_iastoreN d_MD_breaks_199 (hb_s hb0 sf_227) g3.1 g3.2 ?_
    refine A_hn (fun h4 eh4 => ?_)
    have hb5 := hb_i hb0 eh4
    replace H := H h4 eh4
    refine A_pc (pc' := 200) rfl ?_
    have g6 := H.1
    replace H := H.2
    refine A_iincv (z := (v3 - 1)) (L' := [some (av_R (some 170)), some (av_I a1), some (av_I v2), some (av_I (v3 - 1)), some (av_I v4), some (av_I v5), some (av_I v6), none, none]) d_MD_breaks_200 rfl (w32_to (by omega) (by unfold i32; omega)) rfl ?_
    refine A_goto (tgt := 51) d_MD_breaks_203 (by decide) ?_
    refine A_pc (pc' := 51) rfl ?_
    refine A_free (L' := [some (av_R (some 170)), some (av_I a1), some (av_I v2), some (av_I (v3 - 1)), none, none, none, none, none]) (And.intro rfl (And.intro rfl (And.intro rfl (And.intro rfl trivial)))) ?_
    exact hX51 (v2) ((v3 - 1)) h4  hb5 H
  · replace H := H.2 c
    refine A_iload d_MD_breaks_73 rfl ?_
    refine A_aload_n 0 d_MD_breaks_75 rfl rfl ?_
    refine A_iload_n 3 d_MD_breaks_76 rfl rfl ?_
    refine A_iload d_MD_breaks_77 rfl ?_
    refine A_iaddv (z := (v3 + v6)) d_MD_breaks_79 (w32_to (by omega) (by unfold i32; omega)) ?_
    refine A_pc (pc' := 80) rfl ?_
    refine A_iconst d_MD_breaks_80 rfl ?_
    have g7 := H.1
    replace H := H.2
    refine A_isubv (z := (v3 + v6 - 1)) d_MD_breaks_81 (w32_to (by omega) (by unfold i32; omega)) ?_
    refine A_callV1 m_MD_width T_ok d_MD_breaks_82 l_MD_552 k_MD_width (hb_s hb0 sf_170) rfl (by decide +kernel) (by decide) (Nat.le_of_ble_eq_true rfl) H (fun r h8 hq => ?_)
    clear H
    obtain ⟨z10, rfl, hb9, H⟩ := hq
    have g11 := H.1
    replace H := H.2
    refine A_iaddv (z := (v5 + z10)) d_MD_breaks_85 (w32_to (by omega) (by unfold i32; omega)) ?_
    refine A_istore (L' := [some (av_R (some 170)), some (av_I a1), some (av_I v2), some (av_I v3), some (av_I v4), some (av_I (v5 + z10)), some (av_I v6), none, none]) d_MD_breaks_86 (Nat.le_of_ble_eq_true rfl) rfl ?_
    refine A_iload_n 1 d_MD_breaks_88 rfl rfl ?_
    refine A_iload d_MD_breaks_89 rfl ?_
    have g12 := H.1
    replace H := H.2
    refine A_isubv (z := (a1 - v5 - z10)) d_MD_breaks_91 (w32_to (by omega) (by unfold i32; omega)) ?_
    refine A_pc (pc' := 92) rfl ?_
    refine A_istore (L' := [some (av_R (some 170)), some (av_I a1), some (av_I v2), some (av_I v3), some (av_I v4), some (av_I (v5 + z10)), some (av_I v6), some (av_I (a1 - v5 - z10)), none]) d_MD_breaks_92 (Nat.le_of_ble_eq_true rfl) rfl ?_
    refine A_iload d_MD_breaks_94 rfl ?_
    refine A_if_ge (tgt := 108) d_MD_breaks_96 (by decide) (fun c => ?_) (fun c => ?_)
    · replace H := H.1 c
      refine A_pc (pc' := 108) rfl ?_
      exact b_MD_breaks_108  hX65  hb9 H
    · replace H := H.2 c
      refine A_iload d_MD_breaks_99 rfl ?_
      refine A_iconst d_MD_breaks_101 rfl ?_
      refine A_icmp_le (tgt := 108) d_MD_breaks_102 (by decide) (fun c => ?_) (fun c => ?_)
      · replace H := H.1 c
        refine A_pc (pc' := 108) rfl ?_
        exact b_MD_breaks_108  hX65  hb9 H
      · replace H := H.2 c
        refine A_goto (tgt := 186) d_MD_breaks_105 (by decide) ?_
        refine A_pc (pc' := 186) rfl ?_
        refine A_free (L' := [some (av_R (some 170)), some (av_I a1), some (av_I v2), some (av_I v3), some (av_I v4), some (av_I (v5 + z10)), some (av_I v6), none, none]) (And.intro rfl (And.intro rfl (And.intro rfl (And.intro rfl (And.intro rfl (And.intro rfl (And.intro rfl trivial))))))) ?_
        exact b_MD_breaks_186  hX65  hb9 H
theorem lp_MD_breaks_65 {G : cx_T} {s : Nat} {a1 : Int} {Q : Option av_T → ah_T → Prop} {X51 : Int → Int → ah_T → Prop} (hX51 : ∀ (v2 : Int) (v3 : Int) (h : ah_T), hb s h → X51 v2 v3 h → aw G (rm_R 5 0 0) m_MD_breaks 0 0 51 [some (av_R (some 170)), some (av_I a1), some (av_I v2), some (av_I v3), none, none, none, none, none] [] h Q) (I : Int → Int → Int → Int → Int → ah_T → Prop) (μ : Int → Int → Int → Int → Int → ah_T → Nat) (hI : ∀ (v2 : Int) (v3 : Int) (v4 : Int) (v5 : Int) (v6 : Int) (h : ah_T), hb s h → I v2 v3 v4 v5 v6 h → B_MD_breaks_65 G s a1 v2 v3 v4 v5 v6 h Q X51 (fun v2' v3' v4' v5' v6' h' => I v2' v3' v4' v5' v6' h' ∧ μ v2' v3' v4' v5' v6' h' < μ v2 v3 v4 v5 v6 h)) : ∀ (v2 : Int) (v3 : Int) (v4 : Int) (v5 : Int) (v6 : Int) (h : ah_T), hb s h → I v2 v3 v4 v5 v6 h → aw G (rm_R 5 0 0) m_MD_breaks 0 0 65 [some (av_R (some 170)), some (av_I a1), some (av_I v2), some (av_I v3), some (av_I v4), some (av_I v5), some (av_I v6), none, none] [] h Q := by
  have key : ∀ (n : Nat) (v2 : Int) (v3 : Int) (v4 : Int) (v5 : Int) (v6 : Int) (h : ah_T), hb s h → I v2 v3 v4 v5 v6 h → μ v2 v3 v4 v5 v6 h < n → aw G (rm_R 5 0 0) m_MD_breaks 0 0 65 [some (av_R (some 170)), some (av_I a1), some (av_I v2), some (av_I v3), some (av_I v4), some (av_I v5), some (av_I v6), none, none] [] h Q := by
    intro n
    induction n with
    | zero => intro v2 v3 v4 v5 v6 h  hb0 hi hm; omega
    | succ n ih => intro v2 v3 v4 v5 v6 h  hb0 hi hm; exact b_MD_breaks_65  hX51 (fun v2' v3' v4' v5' v6' h'  hb' hx => ih v2' v3' v4' v5' v6' h'  hb' hx.1 (by have := hx.2; omega))  hb0 (hI v2 v3 v4 v5 v6 h  hb0 hi)
  exact fun v2 v3 v4 v5 v6 h  hb0 hi => key _ v2 v3 v4 v5 v6 h  hb0 hi (Nat.lt_succ_self _)
def B_MD_breaks_51 (G : cx_T) (s : Nat) (a1 : Int) (v2 : Int) (v3 : Int) (h : ah_T) (Q : Option av_T → ah_T → Prop) (X65 : Int → Int → Int → Int → Int → ah_T → Prop) (X213 : Int → Int → ah_T → Prop) : Prop :=
 ((v3 < 0 → ∀ h1 : ah_T, h1 = st_i h 170 89 0 → X213 (v2) (0) h1) ∧ (¬ v3 < 0 → X65 (v2) (v3) ((-2)) (0) (1) h))
theorem b_MD_breaks_51 {G : cx_T} {s : Nat} {a1 : Int} {v2 : Int} {v3 : Int} {h : ah_T} {Q : Option av_T → ah_T → Prop} {X65 : Int → Int → Int → Int → Int → ah_T → Prop} {X213 : Int → Int → ah_T → Prop} (hX65 : ∀ (v2 : Int) (v3 : Int) (v4 : Int) (v5 : Int) (v6 : Int) (h : ah_T), hb s h → X65 v2 v3 v4 v5 v6 h → aw G (rm_R 5 0 0) m_MD_breaks 0 0 65 [some (av_R (some 170)), some (av_I a1), some (av_I v2), some (av_I v3), some (av_I v4), some (av_I v5), some (av_I v6), none, none] [] h Q) (hX213 : ∀ (v2 : Int) (v3 : Int) (h : ah_T), hb s h → X213 v2 v3 h → aw G (rm_R 5 0 0) m_MD_breaks 0 0 213 [some (av_R (some 170)), none, some (av_I v2), some (av_I v3), none, none, none, none, none] [] h Q) (hb0 : hb s h) (H : B_MD_breaks_51 G s a1 v2 v3 h Q X65 X213) : aw G (rm_R 5 0 0) m_MD_breaks 0 0 51 [some (av_R (some 170)), some (av_I a1), some (av_I v2), some (av_I v3), none, none, none, none, none] [] h Q := by
  unfold B_MD_breaks_51 at H
  have hS : isS s := hb0.2.1
  refine A_iload_n 3 d_MD_breaks_51 rfl rfl ?_
  refine A_if_lt (tgt := 206) d_MD_breaks_52 (by decide) (fun c => ?_) (fun c => ?_)
  · replace H := H.1 c
    refine A_aload_n 0 d_MD_breaks_206 rfl rfl ?_
    refine A_iconst d_MD_breaks_207 rfl ?_
    refine A_putI T_ok d_MD_breaks_208 f_MD_477 (hb_s hb0 sf_170) fin_f ?_
    refine A_hn (fun h1 eh1 => ?_)
    have hb2 := hb_i hb0 eh1
    replace H := H h1 eh1
    refine A_iconst d_MD_breaks_211 rfl ?_
    refine A_istore_n 3 (L' := [some (av_R (some 170)), some (av_I a1), some (av_I v2), some (av_I 0), none, none, none, none, none]) d_MD_breaks_212 rfl (Nat.le_of_ble_eq_true rfl) rfl ?_
    refine A_pc (pc' := 213) rfl ?_
    refine A_free (L' := [some (av_R (some 170)), none, some (av_I v2), some (av_I 0), none, none, none, none, none]) (And.intro rfl (And.intro rfl (And.intro rfl trivial))) ?_
    exact hX213 (v2) (0) h1  hb2 H
  · replace H := H.2 c
    refine A_bipush d_MD_breaks_55 rfl ?_
    refine A_istore (L' := [some (av_R (some 170)), some (av_I a1), some (av_I v2), some (av_I v3), some (av_I (-2)), none, none, none, none]) d_MD_breaks_57 (Nat.le_of_ble_eq_true rfl) rfl ?_
    refine A_iconst d_MD_breaks_59 rfl ?_
    refine A_istore (L' := [some (av_R (some 170)), some (av_I a1), some (av_I v2), some (av_I v3), some (av_I (-2)), some (av_I 0), none, none, none]) d_MD_breaks_60 (Nat.le_of_ble_eq_true rfl) rfl ?_
    refine A_iconst d_MD_breaks_62 rfl ?_
    refine A_pc (pc' := 63) rfl ?_
    refine A_istore (L' := [some (av_R (some 170)), some (av_I a1), some (av_I v2), some (av_I v3), some (av_I (-2)), some (av_I 0), some (av_I 1), none, none]) d_MD_breaks_63 (Nat.le_of_ble_eq_true rfl) rfl ?_
    refine A_pc (pc' := 65) rfl ?_
    exact hX65 (v2) (v3) ((-2)) (0) (1) h  hb0 H
theorem lp_MD_breaks_51 {G : cx_T} {s : Nat} {a1 : Int} {Q : Option av_T → ah_T → Prop} {X65 : Int → Int → Int → Int → Int → ah_T → Prop} {X213 : Int → Int → ah_T → Prop} (hX65 : ∀ (v2 : Int) (v3 : Int) (v4 : Int) (v5 : Int) (v6 : Int) (h : ah_T), hb s h → X65 v2 v3 v4 v5 v6 h → aw G (rm_R 5 0 0) m_MD_breaks 0 0 65 [some (av_R (some 170)), some (av_I a1), some (av_I v2), some (av_I v3), some (av_I v4), some (av_I v5), some (av_I v6), none, none] [] h Q) (hX213 : ∀ (v2 : Int) (v3 : Int) (h : ah_T), hb s h → X213 v2 v3 h → aw G (rm_R 5 0 0) m_MD_breaks 0 0 213 [some (av_R (some 170)), none, some (av_I v2), some (av_I v3), none, none, none, none, none] [] h Q) (I : Int → Int → ah_T → Prop) (μ : Int → Int → ah_T → Nat) (hI : ∀ (v2 : Int) (v3 : Int) (h : ah_T), hb s h → I v2 v3 h → B_MD_breaks_51 G s a1 v2 v3 h Q X65 X213) : ∀ (v2 : Int) (v3 : Int) (h : ah_T), hb s h → I v2 v3 h → aw G (rm_R 5 0 0) m_MD_breaks 0 0 51 [some (av_R (some 170)), some (av_I a1), some (av_I v2), some (av_I v3), none, none, none, none, none] [] h Q := by
  have key : ∀ (n : Nat) (v2 : Int) (v3 : Int) (h : ah_T), hb s h → I v2 v3 h → μ v2 v3 h < n → aw G (rm_R 5 0 0) m_MD_breaks 0 0 51 [some (av_R (some 170)), some (av_I a1), some (av_I v2), some (av_I v3), none, none, none, none, none] [] h Q := by
    intro n
    induction n with
    | zero => intro v2 v3 h  hb0 hi hm; omega
    | succ n ih => intro v2 v3 h  hb0 hi hm; exact b_MD_breaks_51  hX65 hX213  hb0 (hI v2 v3 h  hb0 hi)
  exact fun v2 v3 h  hb0 hi => key _ v2 v3 h  hb0 hi (Nat.lt_succ_self _)
def B_MD_breaks_12 (G : cx_T) (s : Nat) (a1 : Int) (h : ah_T) (Q : Option av_T → ah_T → Prop) : Prop :=
 Q (some (av_I (-1))) h
theorem b_MD_breaks_12 {G : cx_T} {s : Nat} {a1 : Int} {h : ah_T} {Q : Option av_T → ah_T → Prop} (hb0 : hb s h) (H : B_MD_breaks_12 G s a1 h Q ) : aw G (rm_R 5 0 0) m_MD_breaks 0 0 12 [none, none, none, none, none, none, none, none, none] [] h Q := by
  unfold B_MD_breaks_12 at H
  have hS : isS s := hb0.2.1
  refine A_iconst d_MD_breaks_12 rfl ?_
  exact A_iret d_MD_breaks_13 (by decide) rfl H
def B_MD_breaks_0 (G : cx_T) (s : Nat) (a1 : Int) (h : ah_T) (Q : Option av_T → ah_T → Prop) (X51 : Int → Int → ah_T → Prop) : Prop :=
 ((a1 < 1 → B_MD_breaks_12 G s a1 h Q ) ∧ (¬ a1 < 1 → ((a1 ≤ 1000 → ∀ x2 : Int, x2 = h.2.1 172 0 → -2147483648 ≤ x2 → x2 ≤ 2147483647 → ((x2 = 0 → Q (some (av_I (-2))) h) ∧ (¬ x2 = 0 → con G 0 0 0 m_MD_pageBars [av_R (some 170)] h (fun r h3 => ∃ z5 : Int, r = some (av_I z5) ∧ hb s h3 ∧ ((z5 ≤ 14 → (0 ≤ z5 ∧ z5 < 340) ∧ ∀ h8 : ah_T, h8 = st_i h3 226 (z5).toNat 0 → ((-2147483648) ≤ (z5 - 1) ∧ (z5 - 1) ≤ 2147483647) ∧ X51 (z5) ((z5 - 1)) h8) ∧ (¬ z5 ≤ 14 → Q (some (av_I (-4))) h3)))))) ∧ (¬ a1 ≤ 1000 → B_MD_breaks_12 G s a1 h Q ))))
theorem b_MD_breaks_0 {G : cx_T} {s : Nat} {a1 : Int} {h : ah_T} {Q : Option av_T → ah_T → Prop} {X51 : Int → Int → ah_T → Prop} (hX51 : ∀ (v2 : Int) (v3 : Int) (h : ah_T), hb s h → X51 v2 v3 h → aw G (rm_R 5 0 0) m_MD_breaks 0 0 51 [some (av_R (some 170)), some (av_I a1), some (av_I v2), some (av_I v3), none, none, none, none, none] [] h Q) (hb0 : hb s h) (H : B_MD_breaks_0 G s a1 h Q X51) : aw G (rm_R 5 0 0) m_MD_breaks 0 0 0 [some (av_R (some 170)), some (av_I a1), none, none, none, none, none, none, none] [] h Q := by
  unfold B_MD_breaks_0 at H
  have hS : isS s := hb0.2.1
  refine A_iload_n 1 d_MD_breaks_0 rfl rfl ?_
  refine A_iconst d_MD_breaks_1 rfl ?_
  refine A_icmp_lt (tgt := 12) d_MD_breaks_2 (by decide) (fun c => ?_) (fun c => ?_)
  · replace H := H.1 c
    refine A_pc (pc' := 12) rfl ?_
    refine A_free (L' := [none, none, none, none, none, none, none, none, none]) trivial ?_
    exact b_MD_breaks_12    hb0 H
  · replace H := H.2 c
    refine A_iload_n 1 d_MD_breaks_5 rfl rfl ?_
    refine A_sipush d_MD_breaks_6 rfl ?_
    refine A_icmp_le (tgt := 14) d_MD_breaks_9 (by decide) (fun c => ?_) (fun c => ?_)
    · replace H := H.1 c
      refine A_aload_n 0 d_MD_breaks_14 rfl rfl ?_
      refine A_getAv (z := some 172) T_ok d_MD_breaks_15 f_MD_17 (hb_s hb0 sf_170) (hb_m hb0 rfm_14) ?_
      refine A_iconst d_MD_breaks_18 rfl ?_
      refine A_ialoadf d_MD_breaks_19 (hb_s hb0 sf_172) (by decide) (by decide) (fun x2 ex2 lx2 ux2 => ?_)
      replace H := H x2 ex2 lx2 ux2
      refine A_if_ne (tgt := 26) d_MD_breaks_20 (by decide) (fun c => ?_) (fun c => ?_)
      · replace H := H.2 c
        refine A_aload_n 0 d_MD_breaks_26 rfl rfl ?_
        refine A_callV0 m_MD_pageBars T_ok d_MD_breaks_27 l_MD_492 k_MD_pageBars (hb_s hb0 sf_170) rfl (by decide +kernel) (by decide) (Nat.le_of_ble_eq_true rfl) H (fun r h3 hq => ?_)
        clear H
        obtain ⟨z5, rfl, hb4, H⟩ := hq
        refine A_istore_n 2 (L' := [some (av_R (some 170)), some (av_I a1), some (av_I z5), none, none, none, none, none, none]) d_MD_breaks_30 rfl (Nat.le_of_ble_eq_true rfl) rfl ?_
        refine A_iload_n 2 d_MD_breaks_31 rfl rfl ?_
        refine A_bipush d_MD_breaks_32 rfl ?_
        refine A_icmp_le (tgt := 40) d_MD_breaks_34 (by decide) (fun c => ?_) (fun c => ?_)
        · replace H := H.1 c
          refine A_aload_n 0 d_MD_breaks_40 rfl rfl ?_
          refine A_getAv (z := some 226) T_ok d_MD_breaks_41 f_MD_181 (hb_s hb4 sf_170) (hb_m hb4 rfm_87) ?_
          refine A_iload_n 2 d_MD_breaks_44 rfl rfl ?_
          refine A_iconst d_MD_breaks_45 rfl ?_
          have g7 := H.1
          replace H := H.2
          refine A_iastoreN d_MD_breaks_46 (hb_s hb4 sf_226) g7.1 g7.2 ?_
          refine A_hn (fun h8 eh8 => ?_)
          have hb9 := hb_i hb4 eh8
          replace H := H h8 eh8
          refine A_pc (pc' := 47) rfl ?_
          refine A_iload_n 2 d_MD_breaks_47 rfl rfl ?_
          refine A_iconst d_MD_breaks_48 rfl ?_
          have g10 := H.1
          replace H := H.2
          refine A_isubv (z := (z5 - 1)) d_MD_breaks_49 (w32_to (by omega) (by unfold i32; omega)) ?_
          refine A_istore_n 3 (L' := [some (av_R (some 170)), some (av_I a1), some (av_I z5), some (av_I (z5 - 1)), none, none, none, none, none]) d_MD_breaks_50 rfl (Nat.le_of_ble_eq_true rfl) rfl ?_
          refine A_pc (pc' := 51) rfl ?_
          exact hX51 (z5) ((z5 - 1)) h8  hb9 H
        · replace H := H.2 c
          refine A_bipush d_MD_breaks_37 rfl ?_
          exact A_iret d_MD_breaks_39 (by decide) rfl H
      · replace H := H.1 c
        refine A_bipush d_MD_breaks_23 rfl ?_
        exact A_iret d_MD_breaks_25 (by decide) rfl H
    · replace H := H.2 c
      refine A_pc (pc' := 12) rfl ?_
      refine A_free (L' := [none, none, none, none, none, none, none, none, none]) trivial ?_
      exact b_MD_breaks_12    hb0 H
theorem c_MD_breaks {G : cx_T} {s : Nat} {a1 : Int} {h : ah_T} {Q : Option av_T → ah_T → Prop} {X51 : Int → Int → ah_T → Prop} (hX51 : ∀ (v2 : Int) (v3 : Int) (h : ah_T), hb s h → X51 v2 v3 h → aw G (rm_R 5 0 0) m_MD_breaks 0 0 51 [some (av_R (some 170)), some (av_I a1), some (av_I v2), some (av_I v3), none, none, none, none, none] [] h Q) (hb0 : hb s h) (H : i32 a1 → B_MD_breaks_0 G s a1 h Q X51) : con G 5 0 0 m_MD_breaks [av_R (some 170), av_I a1] h Q := by
  have hS : isS s := hb0.2.1
  refine con_of (L := [some (av_R (some 170)), some (av_I a1), none, none, none, none, none, none, none]) (by decide +kernel) (Nat.le_of_ble_eq_true rfl) rfl ?_
  refine A_locI 1 rfl (fun ra1 => ?_)
  exact b_MD_breaks_0  hX51 hb0 (H ra1)
def B_MD_line_22 (G : cx_T) (s : Nat) (a1 : Int) (t0 : Int) (h : ah_T) (Q : Option av_T → ah_T → Prop) : Prop :=
 Q (some (av_I t0)) h
theorem b_MD_line_22 {G : cx_T} {s : Nat} {a1 : Int} {t0 : Int} {h : ah_T} {Q : Option av_T → ah_T → Prop} (hb0 : hb s h) (H : B_MD_line_22 G s a1 t0 h Q ) : aw G (rm_R 0 0 0) m_MD_line 0 0 22 [none, none] [av_I t0] h Q := by
  unfold B_MD_line_22 at H
  have hS : isS s := hb0.2.1
  exact A_iret d_MD_line_22 (by decide) rfl H
def B_MD_line_21 (G : cx_T) (s : Nat) (a1 : Int) (h : ah_T) (Q : Option av_T → ah_T → Prop) : Prop :=
 B_MD_line_22 G s a1 (0) h Q 
theorem b_MD_line_21 {G : cx_T} {s : Nat} {a1 : Int} {h : ah_T} {Q : Option av_T → ah_T → Prop} (hb0 : hb s h) (H : B_MD_line_21 G s a1 h Q ) : aw G (rm_R 0 0 0) m_MD_line 0 0 21 [none, none] [] h Q := by
  unfold B_MD_line_21 at H
  have hS : isS s := hb0.2.1
  refine A_iconst d_MD_line_21 rfl ?_
  refine A_pc (pc' := 22) rfl ?_
  exact b_MD_line_22    hb0 H
def B_MD_line_0 (G : cx_T) (s : Nat) (a1 : Int) (h : ah_T) (Q : Option av_T → ah_T → Prop) : Prop :=
 ((a1 < 0 → B_MD_line_21 G s a1 h Q ) ∧ (¬ a1 < 0 → ∀ x1 : Int, x1 = h.2.1 170 89 → -2147483648 ≤ x1 → x1 ≤ 2147483647 → ((x1 ≤ a1 → B_MD_line_21 G s a1 h Q ) ∧ (¬ x1 ≤ a1 → (0 ≤ a1 ∧ a1 < 16) ∧ ∀ x3 : Int, x3 = h.2.1 228 (a1).toNat → -2147483648 ≤ x3 → x3 ≤ 2147483647 → B_MD_line_22 G s a1 (x3) h Q ))))
theorem b_MD_line_0 {G : cx_T} {s : Nat} {a1 : Int} {h : ah_T} {Q : Option av_T → ah_T → Prop} (hb0 : hb s h) (H : B_MD_line_0 G s a1 h Q ) : aw G (rm_R 0 0 0) m_MD_line 0 0 0 [some (av_R (some 170)), some (av_I a1)] [] h Q := by
  unfold B_MD_line_0 at H
  have hS : isS s := hb0.2.1
  refine A_iload_n 1 d_MD_line_0 rfl rfl ?_
  refine A_if_lt (tgt := 21) d_MD_line_1 (by decide) (fun c => ?_) (fun c => ?_)
  · replace H := H.1 c
    refine A_pc (pc' := 21) rfl ?_
    refine A_free (L' := [none, none]) trivial ?_
    exact b_MD_line_21    hb0 H
  · replace H := H.2 c
    refine A_iload_n 1 d_MD_line_4 rfl rfl ?_
    refine A_aload_n 0 d_MD_line_5 rfl rfl ?_
    refine A_getIf T_ok d_MD_line_6 f_MD_477 (hb_s hb0 sf_170) (fun x1 ex1 lx1 ux1 => ?_)
    replace H := H x1 ex1 lx1 ux1
    refine A_icmp_ge (tgt := 21) d_MD_line_9 (by decide) (fun c => ?_) (fun c => ?_)
    · replace H := H.1 c
      refine A_pc (pc' := 21) rfl ?_
      refine A_free (L' := [none, none]) trivial ?_
      exact b_MD_line_21    hb0 H
    · replace H := H.2 c
      refine A_aload_n 0 d_MD_line_12 rfl rfl ?_
      refine A_getAv (z := some 228) T_ok d_MD_line_13 f_MD_187 (hb_s hb0 sf_170) (hb_m hb0 rfm_90) ?_
      refine A_iload_n 1 d_MD_line_16 rfl rfl ?_
      have g4 := H.1
      replace H := H.2
      refine A_ialoadf d_MD_line_17 (hb_s hb0 sf_228) g4.1 g4.2 (fun x3 ex3 lx3 ux3 => ?_)
      replace H := H x3 ex3 lx3 ux3
      refine A_goto (tgt := 22) d_MD_line_18 (by decide) ?_
      refine A_pc (pc' := 22) rfl ?_
      refine A_free (L' := [none, none]) trivial ?_
      exact b_MD_line_22    hb0 H
theorem c_MD_line {G : cx_T} {s : Nat} {a1 : Int} {h : ah_T} {Q : Option av_T → ah_T → Prop} (hb0 : hb s h) (H : i32 a1 → B_MD_line_0 G s a1 h Q ) : con G 0 0 0 m_MD_line [av_R (some 170), av_I a1] h Q := by
  have hS : isS s := hb0.2.1
  refine con_of (L := [some (av_R (some 170)), some (av_I a1)]) (by decide +kernel) (Nat.le_of_ble_eq_true rfl) rfl ?_
  refine A_locI 1 rfl (fun ra1 => ?_)
  exact b_MD_line_0   hb0 (H ra1)

/-! ===== compareFractions, exact ===== -/
theorem cf_q {p q r t : Int} (hp : 0 ≤ p) (hq : 1 ≤ q) (hr : 0 ≤ r) (ht : 1 ≤ t) :
    (p / q < r / t → p * t < r * q) ∧ (p / q = r / t → (p * t - r * q = (p % q) * t - (r % t) * q)) := by
  have ep : p = q * (p / q) + p % q := (Int.mul_ediv_add_emod p q).symm
  have er : r = t * (r / t) + r % t := (Int.mul_ediv_add_emod r t).symm
  have p1 := Int.emod_nonneg p (show q ≠ 0 by omega)
  have p2 := Int.emod_lt_of_pos p (show 0 < q by omega)
  have r1 := Int.emod_nonneg r (show t ≠ 0 by omega)
  have r2 := Int.emod_lt_of_pos r (show 0 < t by omega)
  generalize p / q = Q at *
  generalize r / t = R at *
  generalize p % q = x at *
  generalize r % t = y at *
  constructor
  · intro h
    have h1 : q * (Q + 1) * t ≤ q * R * t := Int.mul_le_mul_of_nonneg_right (Int.mul_le_mul_of_nonneg_left (by omega) (by omega)) (by omega)
    have h2 : p * t < q * (Q + 1) * t := Int.mul_lt_mul_of_pos_right (by rw [Int.mul_add]; omega) (by omega)
    have h3 : q * R * t ≤ r * q := by
      have e1 : q * R * t = (t * R) * q := by rw [Int.mul_assoc, Int.mul_comm R t, Int.mul_comm]
      rw [e1]
      exact Int.mul_le_mul_of_nonneg_right (by omega) (by omega)
    omega
  · rintro rfl
    rw [ep, er, Int.add_mul, Int.add_mul]
    have : q * Q * t = t * Q * q := by rw [Int.mul_assoc, Int.mul_comm Q t, Int.mul_comm]
    omega
theorem t_PM_compareFractions {G : cx_T} {s : Nat} {h : ah_T} {a b c d : Int} (hb0 : hb s h) (ha : 0 ≤ a) (hb1 : 1 ≤ b) (hc : 0 ≤ c) (hd : 1 ≤ d) : con G 1 0 0 m_PM_compareFractions [av_L a, av_L b, av_L c, av_L d] h (fun r h' => ∃ z : Int, r = some (av_I z) ∧ hb s h' ∧ h' = h ∧ (z = 0 ↔ a * d = c * b) ∧ (z < 0 ↔ a * d < c * b)) := by
  refine c_PM_compareFractions (X17 := fun v8 v10 v12 v14 v16 hh => hh = h ∧ ∃ k : Nat, v16 = (k : Int) ∧ (0 ≤ v8 ∧ 1 ≤ v10 ∧ 0 ≤ v12 ∧ 1 ≤ v14) ∧ (v8 ≤ 9223372036854775807 ∧ v12 ≤ 9223372036854775807 ∧ v10 ≤ 9223372036854775807 ∧ v14 ≤ 9223372036854775807) ∧ (v10 * 2 ^ (k / 2) ≤ 9223372036854775808 ∧ v14 * 2 ^ (k / 2) ≤ 9223372036854775808) ∧ (1 ≤ k → (v10 < v8 ∧ v14 < v12) ∧ (v8 * 2 ^ ((k - 1) / 2) ≤ 9223372036854775808 ∧ v12 * 2 ^ ((k - 1) / 2) ≤ 9223372036854775808)) ∧ (v8 * v14 = v12 * v10 ↔ a * d = c * b) ∧ (v8 * v14 < v12 * v10 ↔ a * d < c * b)) ?_ hb0 (fun h1 h2 h3 h4 => ?_)
  · refine lp_PM_compareFractions_17 (a0 := a) (a1 := b) (a2 := c) (a3 := d) _ (fun _ _ _ _ v16 _ => (300 - v16).toNat) ?_
    rintro p q r t v16 hh hb2 ⟨rfl, k, rfl, ⟨hp, hq, hr, ht⟩, ⟨bp, br, bq', bt'⟩, ⟨bq, bt⟩, prev, e1, e2⟩
    have k127 : k ≤ 127 := by
      by_cases kk : k ≤ 127
      · exact kk
      · have hk2 : 64 ≤ k / 2 := by omega
        have : (2 : Int) ^ 64 ≤ 2 ^ (k / 2) := by
          have := Nat.pow_le_pow_right (show 0 < 2 by decide) hk2
          exact_mod_cast this
        have m : (1 : Int) * 2 ^ 64 ≤ q * 2 ^ (k / 2) := Int.mul_le_mul hq this (by decide) (by omega)
        have : (2 : Int) ^ 64 = 18446744073709551616 := by decide
        omega
    unfold B_PM_compareFractions_17 B_PM_compareFractions_97 B_PM_compareFractions_127
    obtain ⟨cq1, cq2⟩ := cf_q hp hq hr ht
    obtain ⟨cr1, -⟩ := cf_q hr ht hp hq
    have m1 := Int.emod_nonneg p (show q ≠ 0 by omega)
    have m2 := Int.emod_lt_of_pos p (show 0 < q by omega)
    have m3 := Int.emod_nonneg r (show t ≠ 0 by omega)
    have m4 := Int.emod_lt_of_pos r (show 0 < t by omega)
    refine ⟨fun w => by omega, fun w => ⟨fun w2 => by omega, fun w2 => ⟨fun w3 => by omega, fun w3 => ⟨by omega, fun x3 e3 _ _ => ⟨by omega, fun x4 e4 _ _ => ⟨by omega, fun x5 e5 _ _ => ⟨by omega, fun x6 e6 _ _ => ?_⟩⟩⟩⟩⟩⟩⟩
    rw [w64_d hp bp hq] at e3
    rw [w64_d hr br ht] at e4
    rw [Int.tmod_eq_emod_of_nonneg hp] at e5
    rw [Int.tmod_eq_emod_of_nonneg hr] at e6
    have x5n : 0 ≤ x5 := by omega
    have x6n : 0 ≤ x6 := by omega
    refine ⟨fun eq => ?_, fun ne => ?_⟩
    · have key := cq2 (by omega)
      rw [← e5, ← e6] at key
      have last : (x5 = 0 ∨ x6 = 0) → con G 0 0 0 m_JLong_compare [av_L x5, av_L x6] hh (fun r h1 => ∃ z3 : Int, r = some (av_I z3) ∧ hb s h1 ∧ ∃ z : Int, some (av_I z3) = some (av_I z) ∧ hb s h1 ∧ h1 = hh ∧ (z = 0 ↔ a * d = c * b) ∧ (z < 0 ↔ a * d < c * b)) := by
        intro z0
        refine con_mono s_JLong_compare ?_
        rintro rr h5 ⟨z, rfl, -, ⟨g1, g2, g3⟩, rfl⟩
        refine ⟨z, rfl, hb2, z, rfl, hb2, rfl, ?_⟩
        have y5 : x5 ≤ x5 * t := by
          have := Int.mul_le_mul_of_nonneg_left ht x5n
          omega
        have y6 : x6 ≤ x6 * q := by
          have := Int.mul_le_mul_of_nonneg_left hq x6n
          omega
        rw [← e1, ← e2]
        rcases z0 with z0 | z0
        · rw [z0, Int.zero_mul] at key
          subst z0
          by_cases c6 : x6 = 0
          · subst c6
            rw [Int.zero_mul] at key
            have := g2 rfl
            omega
          · have := g1 (by omega)
            omega
        · rw [z0, Int.zero_mul] at key
          subst z0
          by_cases c5 : x5 = 0
          · subst c5
            rw [Int.zero_mul] at key
            have := g2 rfl
            omega
          · have := g3 (by omega)
            omega
      refine ⟨fun z5 => last (Or.inl z5), fun z5 => ⟨fun z6 => last (Or.inr z6), fun z6 => ⟨⟨by omega, by omega⟩, ⟨rfl, k + 1, by omega, ⟨by omega, by omega, by omega, by omega⟩, ⟨by omega, by omega, by omega, by omega⟩, ?_, fun _ => ⟨⟨by omega, by omega⟩, ?_⟩, ?_, ?_⟩, by omega⟩⟩⟩
      · by_cases k0 : k = 0
        · subst k0
          show x6 * 1 ≤ _ ∧ x5 * 1 ≤ _
          omega
        · obtain ⟨⟨pq, rt⟩, u1, u2⟩ := prev (by omega)
          have e2k : (k + 1) / 2 = (k - 1) / 2 + 1 := by omega
          rw [e2k, Int.pow_succ]
          have pp : (0 : Int) ≤ 2 ^ ((k - 1) / 2) := by
            have : (0 : Int) < 2 ^ ((k - 1) / 2) := Int.pow_pos (by decide)
            omega
          have d5 : x5 * 2 ≤ p := by
            have dv := Int.mul_ediv_add_emod p q
            have q1 : 1 ≤ p / q := (Int.le_ediv_iff_mul_le (by omega)).mpr (by omega)
            have := Int.mul_le_mul_of_nonneg_left q1 (show 0 ≤ q by omega)
            omega
          have d6 : x6 * 2 ≤ r := by
            have dv := Int.mul_ediv_add_emod r t
            have q1 : 1 ≤ r / t := (Int.le_ediv_iff_mul_le (by omega)).mpr (by omega)
            have := Int.mul_le_mul_of_nonneg_left q1 (show 0 ≤ t by omega)
            omega
          have f5 : x5 * (2 ^ ((k - 1) / 2) * 2) = x5 * 2 * 2 ^ ((k - 1) / 2) := by rw [Int.mul_comm (2 ^ ((k - 1) / 2)) 2, Int.mul_assoc]
          have f6 : x6 * (2 ^ ((k - 1) / 2) * 2) = x6 * 2 * 2 ^ ((k - 1) / 2) := by rw [Int.mul_comm (2 ^ ((k - 1) / 2)) 2, Int.mul_assoc]
          have g5 := Int.mul_le_mul_of_nonneg_right d5 pp
          have g6 := Int.mul_le_mul_of_nonneg_right d6 pp
          rw [f5, f6]
          omega
      · rw [show (k + 1 - 1) / 2 = k / 2 by omega]
        exact ⟨bt, bq⟩
      · rw [← e1, Int.mul_comm t x5, Int.mul_comm q x6]; omega
      · rw [← e2, Int.mul_comm t x5, Int.mul_comm q x6]; omega
    · refine con_mono s_JLong_compare ?_
      rintro rr h5 ⟨z, rfl, -, ⟨g1, g2, g3⟩, rfl⟩
      refine ⟨z, rfl, hb2, z, rfl, hb2, rfl, ?_⟩
      rw [← e1, ← e2]
      by_cases lt : x3 < x4
      · have := cq1 (by omega)
        have := g1 lt
        omega
      · have := cr1 (by omega)
        have := g3 (by omega)
        omega
  · unfold B_PM_compareFractions_0
    unfold i64 at *
    exact ⟨rfl, 0, rfl, ⟨ha, hb1, hc, hd⟩, ⟨by omega, by omega, by omega, by omega⟩, ⟨by show b * 1 ≤ _; omega, by show d * 1 ≤ _; omega⟩, fun w => by omega, Iff.rfl, Iff.rfl⟩

/-! ===== page, the class: signs of an event, the cost of a line ===== -/
theorem nat_wh {k : Int} (h0 : 0 ≤ k) (h7 : k < 7) : ([0, 2, 4, 5, 7, 9, 11] : List Int).getD k.toNat 0 = wh ((k + 2) % 7 + 65) := by
  obtain rfl | rfl | rfl | rfl | rfl | rfl | rfl : k = 0 ∨ k = 1 ∨ k = 2 ∨ k = 3 ∨ k = 4 ∨ k = 5 ∨ k = 6 := by omega
  all_goals decide
theorem sgk_b {v st : Int} (h1 : -2 ≤ v ∧ v ≤ 109) (h2 : 0 ≤ st ∧ st ≤ 62) : 0 ≤ sgk v st ∧ sgk v st ≤ 200 := by
  have w := wh_b (b := (st % 7 + 2) % 7 + 65)
  unfold sgk
  split <;> omega
theorem sgm_b {μ : pm_T} {R e : Nat} (h : ∀ p : Nat, (p : Int) < μ (R + 4) e → (-2 ≤ μ (R + (10 + p)) e ∧ μ (R + (10 + p)) e ≤ 109) ∧ 0 ≤ μ (R + (20 + p)) e ∧ μ (R + (20 + p)) e ≤ 62) : ∀ k : Nat, (k : Int) ≤ μ (R + 4) e → 0 ≤ sgm μ R e k ∧ sgm μ R e k ≤ 200 * (k : Int)
  | 0, _ => by rw [sgm]; omega
  | k + 1, hk => by
    have ih := sgm_b h k (by omega)
    have := sgk_b (h k (by omega)).1 (h k (by omega)).2
    rw [sgm]
    omega
theorem j_signs {G : cx_T} {s c n e : Nat} {h : ah_T} {μ : pm_T} (hb0 : hb s h) (H : CV μ c h) (hn : (n : Int) < μ 0 7) (he : (e : Int) < μ (10 + n) 0) : con G 1 0 0 m_Voice_signsOf [av_R (some (c + 7 + 14 * n)), av_I (e : Int)] h (fun r h' => r = some (av_I (μ (100 + 40 * n + 9) e)) ∧ hb s h' ∧ h' = h) := by
  have E := CV_e H hn he
  have M := E.2.2.2.1
  have hM := M.1
  have bd := M.2.2.2.2.2.2.1
  have eq9 := M.2.2.2.2.2.2.2
  have sb := sgm_b bd
  refine c_Voice_signsOf E.1 (X4 := fun v2 v3 hh => hh = h ∧ ∃ k : Nat, v3 = (k : Int) ∧ (k : Int) ≤ μ (100 + 40 * n + 4) e ∧ v2 = sgm μ (100 + 40 * n) e k) ?_ hb0 (fun _ => ?_)
  · refine lp_Voice_signsOf_4 E.1 _ (fun _ v3 _ => (5 - v3).toNat) ?_
    rintro v2 v3 hh hb1 ⟨rfl, k, rfl, hk, rfl⟩
    have sk := sb k hk
    unfold B_Voice_signsOf_4
    refine con_mono (t_Voice_pitchesOf hb1 E) ?_
    rintro r h2 ⟨hb2, rfl, rfl⟩
    refine ⟨_, rfl, hb2, fun q => ⟨?_, hb2, rfl⟩, fun q => ?_⟩
    · rw [eq9, show (μ (100 + 40 * n + 4) e).toNat = k by omega]
    have bk := bd k (by omega)
    have s1 := sb (k + 1) (by omega)
    refine con_mono (t_Voice_stepOf hb2 E (p := k) (by omega)) ?_
    rintro r h3 ⟨hb3, rfl, rfl⟩
    refine ⟨_, rfl, hb3, ?_⟩
    refine con_mono (s_JMath_floorDiv (by decide) (by decide)) ?_
    rintro r h4 ⟨z9, rfl, -, e9, rfl⟩
    have e9 : z9 = μ (100 + 40 * n + (20 + k)) e / 7 := e9
    refine ⟨_, rfl, hb3, by omega, ?_⟩
    refine con_mono (s_JMath_floorMod (by decide) (by decide)) ?_
    rintro r h5 ⟨z13, rfl, -, ⟨-, e13⟩, rfl⟩
    refine ⟨_, rfl, hb3, by omega, fun x14 e14 => ?_⟩
    have ex : x14 = wh ((μ (100 + 40 * n + (20 + k)) e % 7 + 2) % 7 + 65) := by
      rw [e14, nat_wh (by omega) (by omega), e13]
    have wb := wh_b (b := (μ (100 + 40 * n + (20 + k)) e % 7 + 2) % 7 + 65)
    refine ⟨by omega, ?_⟩
    refine con_mono (t_Voice_keyOf hb3 E (p := k) (by omega)) ?_
    rintro r h6 ⟨hb6, rfl, rfl⟩
    refine ⟨_, rfl, hb6, by omega, fun x20 e20 _ _ => ?_⟩
    have es : x20 = sgk (μ (100 + 40 * n + (10 + k)) e) (μ (100 + 40 * n + (20 + k)) e) := by
      rw [e20, ex, e9]
      unfold sgk
      split
      · rw [if_pos (by omega)]; omega
      · rw [if_neg (by omega), w32_id (by unfold i32; omega)]; omega
    have er : sgm μ (100 + 40 * n) e (k + 1) = sgm μ (100 + 40 * n) e k + sgk (μ (100 + 40 * n + (10 + k)) e) (μ (100 + 40 * n + (20 + k)) e) := rfl
    exact ⟨by omega, by omega, ⟨rfl, k + 1, by omega, by omega, by rw [er, es]⟩, by omega⟩
  · unfold B_Voice_signsOf_0
    exact ⟨rfl, 0, rfl, by omega, rfl⟩
/-- the cost of a line with this much left -/
def lnC (left : Int) (last : Bool) : Int := if left < 0 then 10000 + left * left else if last then 0 else left * left
theorem j_lineCost {G : cx_T} {s : Nat} {h : ah_T} {a b : Int} (hb0 : hb s h) (ha : -1000000 ≤ a ∧ a ≤ 1000000) : con G 0 0 0 m_Page_lineCost [av_L a, av_I b] h (fun r h' => r = some (av_L (lnC a (decide (b ≠ 0)))) ∧ hb s h' ∧ h' = h) := by
  have sq : 0 ≤ a * a ∧ a * a ≤ 1000000000000 := by
    by_cases c : 0 ≤ a
    · exact ⟨Int.mul_nonneg c c, by have := Int.mul_le_mul ha.2 ha.2 c (by decide); omega⟩
    · have e : a * a = (-a) * (-a) := by rw [Int.neg_mul_neg]
      rw [e]
      exact ⟨Int.mul_nonneg (by omega) (by omega), by have := Int.mul_le_mul (show -a ≤ 1000000 by omega) (show -a ≤ 1000000 by omega) (by omega) (by decide); omega⟩
  refine c_Page_lineCost hb0 (fun _ _ => ?_)
  unfold B_Page_lineCost_0 B_Page_lineCost_25 lnC
  refine ⟨fun q => ⟨fun q2 x2 e2 => ⟨by omega, ?_, hb0, rfl⟩, fun q2 => ⟨?_, hb0, rfl⟩⟩, fun q x4 e4 => ⟨by omega, by omega, ?_, hb0, rfl⟩⟩
  · rw [e2, if_neg (by omega), if_neg (by simp [q2])]
  · rw [if_neg (by omega), if_pos (by simp [q2])]
  · rw [if_pos (by omega), e4, Int.add_comm]

/-! ===== page, the class: the next event of each voice ===== -/
def tmT (μ : pm_T) (b o e : Nat) : Int := rdT (xBr μ o (brE μ o b) e) (yBr μ o (brE μ o b) e)
def tmB (μ : pm_T) (b o e : Nat) : Int := rdB (xBr μ o (brE μ o b) e) (yBr μ o (brE μ o b) e)
/-- event i of voice o is one of bar b, or behind its beginning -/
def act (μ : pm_T) (b o i : Nat) : Prop := (o : Int) < μ 0 7 ∧ (b : Int) < μ (10 + o) 1 ∧ i < brE μ o (b + 1)
abbrev JWn (o : Nat) : Nat → Nat → Prop := fun a k => (a = 156 ∨ a = 157) ∧ k = o
abbrev JWg : Nat → Nat → Prop := fun a _ => a = 155 ∨ a = 156 ∨ a = 157
theorem JWg_43 : ∀ a k, JWg a k → 143 ≤ a := by
  intro a k w
  rcases w with w | w | w <;> omega
theorem JWn_g {o : Nat} {h h' : ah_T} (f : fr (JWn o) h h') : fr JWg h h' := fr_w f (fun a k w => by obtain ⟨w1, w2⟩ := w; omega)
/-- the time told of voice o with its pointer i -/
def NXt (μ : pm_T) (b o i : Nat) (h : ah_T) : Prop := (act μ b o i → h.2.2.1 156 o = tmT μ b o i ∧ h.2.2.1 157 o = tmB μ b o i) ∧ (¬ act μ b o i → h.2.2.1 156 o = -1)
theorem tm_b {μ : pm_T} (GG : GM μ) {b o i : Nat} (ho : (o : Int) < μ 0 7) (hi : brE μ o b ≤ i) (hi2 : (i : Int) ≤ μ (10 + o) 0) : (0 ≤ tmT μ b o i ∧ tmT μ b o i ≤ 1000000000000000) ∧ (1 ≤ tmB μ b o i ∧ tmB μ b o i ≤ 1000000000000) := by
  have xy := xy_b GG ho hi hi2
  obtain ⟨r1, r2, -⟩ := rd_pos xy.1.1 xy.2.1
  unfold tmT tmB
  omega
section
variable {G : cx_T} {s c b : Nat} {h : ah_T} {μ : pm_T}
theorem j_next_v {o i : Nat} (hb0 : hb s h) (H : CV μ c h) (ho : (o : Int) < μ 0 7) (hi : h.2.1 155 o = (i : Int)) (hbi : (b : Int) < μ (10 + o) 1 → brE μ o b ≤ i) (hb1 : b ≤ 101) : con G 1 0 0 m_Page_setNext [av_R (some 150), av_R (some (c + 7 + 14 * o)), av_I (o : Int), av_I (b : Int)] h (fun r h' => r = none ∧ hb s h' ∧ fr (JWn o) h h' ∧ NXt μ b o i h') := by
  obtain ⟨hv, -, h16, hE, hB, n4⟩ := CV_v H ho
  have GG := H.2.2.1
  refine c_Page_setNext_v hv hb0 (fun _ _ => ?_)
  unfold B_Page_setNext_v_0 B_Page_setNext_v_33
  have no : ¬ act μ b o i → (0 ≤ (o : Int) ∧ (o : Int) < 4) ∧ ∀ h3 : ah_T, h3 = st_l h 156 o (-1) → (none : Option av_T) = none ∧ hb s h3 ∧ fr (JWn o) h h3 ∧ NXt μ b o i h3 := fun na => ⟨by omega, fun h3 e3 => ⟨rfl, hb_l hb0 e3, fr_l fr_0 e3 ⟨Or.inl rfl, rfl⟩, fun x => absurd x na, fun _ => mv_l e3⟩⟩
  rw [tn_c]
  refine ⟨by omega, fun x2 e2 _ _ x4 e4 _ _ => ?_⟩
  obtain rfl := e2.trans hi
  have ex := e4.trans h16
  subst ex
  refine ⟨fun q => no (fun w => by have := w.2.1; omega), fun q => ⟨⟨by omega, by omega⟩, by omega, ?_⟩⟩
  have hbl : (b : Int) < μ (10 + o) 1 := by omega
  rw [show ((b : Int) + 1).toNat = b + 1 by omega]
  intro x7 e7 _ _
  obtain rfl := e7.trans (CV_b H ho (b := b + 1) (by omega))
  refine ⟨fun q2 => ?_, fun q2 => no (fun w => by have := w.2.2; omega)⟩
  have e1 := brE_b GG (b := b + 1) ho
  have A : act μ b o i := ⟨ho, hbl, by omega⟩
  have xy := xy_b GG ho (hbi hbl) (e := i) (by omega)
  refine con_mono (j_sinceT hb0 H ho hbl (hbi hbl) (e := i) (by omega)) ?_
  rintro r h9 ⟨rfl, hb9, rfl⟩
  refine ⟨_, rfl, hb9, ?_⟩
  refine con_mono (j_sinceB hb9 H ho hbl (hbi hbl) (e := i) (by omega)) ?_
  rintro r h12 ⟨rfl, hb12, rfl⟩
  refine ⟨_, rfl, hb12, ?_⟩
  refine con_mono (t_PM_greatestDivisor hb12 xy.1.1 (by omega)) ?_
  rintro r h15 ⟨z, rfl, hb15, rfl, ez⟩
  have gr := gcd_r (a := xBr μ o (brE μ o b) i) xy.2.1
  have ez2 : z = (Int.gcd (xBr μ o (brE μ o b) i) (yBr μ o (brE μ o b) i) : Int) := by
    rw [ez]; unfold gdv; rw [if_neg (by omega)]
  subst ez2
  refine ⟨_, rfl, hb15, by omega, fun x19 e19 _ _ h20 e20 => ⟨by omega, fun x23 e23 _ _ h24 e24 => ?_⟩⟩
  rw [w64_d xy.1.1 (by omega) gr.1] at e19
  rw [w64_d (by omega) (by omega) gr.1] at e23
  refine ⟨rfl, hb_l (hb_l hb15 e20) e24, fr_l (fr_l fr_0 e20 ⟨Or.inl rfl, rfl⟩) e24 ⟨Or.inr rfl, rfl⟩, fun _ => ⟨?_, ?_⟩, fun x => absurd A x⟩
  · rw [mm_l e24 (by omega), mv_l e20, e19]; rfl
  · rw [mv_l e24, e23]; rfl
theorem j_next_n {o i : Nat} (hb0 : hb s h) (ho : ¬ (o : Int) < μ 0 7) (ho4 : o < 4) : con G 1 0 0 m_Page_setNext [av_R (some 150), av_R none, av_I (o : Int), av_I (b : Int)] h (fun r h' => r = none ∧ hb s h' ∧ fr (JWn o) h h' ∧ NXt μ b o i h') := by
  refine c_Page_setNext_n hb0 (fun _ _ => ?_)
  unfold B_Page_setNext_n_0 B_Page_setNext_n_33
  rw [tn_c]
  exact ⟨by omega, fun x2 e2 _ _ => ⟨by omega, fun h3 e3 => ⟨rfl, hb_l hb0 e3, fr_l fr_0 e3 ⟨Or.inl rfl, rfl⟩, fun x => absurd x.1 ho, fun _ => mv_l e3⟩⟩⟩
/-- all four pointers with their times -/
def PTs (μ : pm_T) (b : Nat) (p : Nat → Nat) (h : ah_T) : Prop := ∀ o, o < 4 → h.2.1 155 o = (p o : Int) ∧ NXt μ b o (p o) h ∧ (act μ b o (p o) → brE μ o b ≤ p o)
/-- the order of two times of a bar -/
def tmL (μ : pm_T) (b o i v e : Nat) : Prop := tmT μ b o i * tmB μ b v e < tmT μ b v e * tmB μ b o i
theorem j_earliest {p : Nat → Nat} (hb0 : hb s h) (GG : GM μ) (P : PTs μ b p h) : con G 2 0 0 m_Page_earliest [av_R (some 150)] h (fun r h' => ∃ m : Nat, r = some (av_I (m : Int)) ∧ hb s h' ∧ h' = h ∧ m < 4 ∧ (∀ o, o < 4 → act μ b o (p o) → act μ b m (p m) ∧ ¬ tmL μ b o (p o) m (p m))) := by
  have rg : ∀ o, o < 4 → act μ b o (p o) → (0 ≤ tmT μ b o (p o) ∧ 1 ≤ tmB μ b o (p o)) := fun o h4 A => by
    have e1 := brE_b GG (b := b + 1) A.1
    have := tm_b GG (b := b) A.1 ((P o h4).2.2 A) (by have := A.2.2; omega)
    omega
  refine c_Page_earliest (X4 := fun v1 v2 hh => hh = h ∧ ∃ m k : Nat, v1 = (m : Int) ∧ v2 = (k : Int) ∧ m < k ∧ k ≤ 4 ∧ ∀ o, o < k → act μ b o (p o) → act μ b m (p m) ∧ ¬ tmL μ b o (p o) m (p m)) ?_ hb0 ?_
  · refine lp_Page_earliest_4 _ (fun _ v2 _ => (5 - v2).toNat) ?_
    rintro v1 v2 hh hb1 ⟨rfl, m, k, rfl, rfl, mk, k4, al⟩
    unfold B_Page_earliest_4 B_Page_earliest_61 B_Page_earliest_63
    refine ⟨fun q => ⟨m, rfl, hb1, rfl, by omega, fun o ho => al o (by omega)⟩, fun q => ⟨by omega, ?_⟩⟩
    rw [tn_c, tn_c]
    intro x2 e2 _ _
    obtain ⟨p1, ⟨n1, n2⟩, p3⟩ := P k (by omega)
    obtain ⟨q1, ⟨o1, o2⟩, q3⟩ := P m (by omega)
    have keep : (act μ b k (p k) → act μ b m (p m) ∧ ¬ tmL μ b k (p k) m (p m)) → ∀ o, o < k + 1 → act μ b o (p o) → act μ b m (p m) ∧ ¬ tmL μ b o (p o) m (p m) := fun hk o ho A => by
      by_cases c : o = k
      · subst c; exact hk A
      · exact al o (by omega) A
    by_cases A : act μ b k (p k)
    · obtain ⟨t1, t2⟩ := n1 A
      obtain ⟨rk1, rk2⟩ := rg k (by omega) A
      have ex := e2.trans t1
      subst ex
      refine ⟨fun w => by omega, fun w => ⟨by omega, fun x6 e6 _ _ => ?_⟩⟩
      by_cases B : act μ b m (p m)
      · obtain ⟨u1, u2⟩ := o1 B
        obtain ⟨rm1, rm2⟩ := rg m (by omega) B
        have ex := e6.trans u1
        subst ex
        refine ⟨fun w2 => by omega, fun w2 x12 e12 _ _ x16 e16 _ _ => ?_⟩
        have ex := e12.trans t2
        subst ex
        have ex := e16.trans u2
        subst ex
        refine con_mono (t_PM_compareFractions hb1 rk1 rk2 rm1 rm2) ?_
        rintro r h17 ⟨z, rfl, hb17, rfl, z1, z2⟩
        refine ⟨z, rfl, hb17, fun w3 => ⟨⟨by omega, by omega⟩, ⟨rfl, m, k + 1, rfl, by omega, by omega, by omega, keep (fun _ => ⟨B, fun w => by have := z2.mpr w; omega⟩)⟩, by omega⟩, fun w3 => ⟨⟨by omega, by omega⟩, ⟨rfl, k, k + 1, rfl, by omega, by omega, by omega, fun o ho Ao => ⟨A, fun w => ?_⟩⟩, by omega⟩⟩
        have lt : tmL μ b k (p k) m (p m) := z2.mp (by omega)
        by_cases c : o = k
        · subst c
          unfold tmL at w
          omega
        · have nl := (al o (by omega) Ao).2
          obtain ⟨ro1, ro2⟩ := rg o (by omega) Ao
          unfold tmL at w lt nl
          exact nl (fr_ll (a := tmT μ b o (p o)) (b := tmB μ b o (p o)) (c := tmT μ b k (p k)) (d := tmB μ b k (p k)) (e := tmT μ b m (p m)) (f := tmB μ b m (p m)) rk2 ro2 rm2 w (Int.le_of_lt lt))
      · have ex := e6.trans (o2 B)
        subst ex
        refine ⟨fun w2 => ⟨⟨by omega, by omega⟩, ⟨rfl, k, k + 1, rfl, by omega, by omega, by omega, fun o ho Ao => ?_⟩, by omega⟩, fun w2 => absurd (show (-1 : Int) < 0 by decide) w2⟩
        by_cases c : o = k
        · subst c
          exact ⟨A, fun w => by unfold tmL at w; omega⟩
        · exact absurd (al o (by omega) Ao).1 B
    · have ex := e2.trans (n2 A)
      subst ex
      exact ⟨fun w => ⟨⟨by omega, by omega⟩, ⟨rfl, m, k + 1, rfl, by omega, by omega, by omega, keep (fun x => absurd x A)⟩, by omega⟩, fun w => absurd (show (-1 : Int) < 0 by decide) w⟩
  · unfold B_Page_earliest_0
    refine ⟨rfl, 0, 1, rfl, rfl, by decide, by decide, fun o ho A => ?_⟩
    obtain rfl : o = 0 := by omega
    exact ⟨A, fun w => by unfold tmL at w; omega⟩
end

/-! ===== page, the class: a time is passed ===== -/
noncomputable def pasP (μ : pm_T) (b : Nat) (T B : Int) (p : Nat → Nat) (v : Nat) : Nat := dif (act μ b v (p v) ∧ tmT μ b v (p v) = T ∧ tmB μ b v (p v) = B) (p v + 1) (p v)
section
variable {G : cx_T} {s c b : Nat} {h : ah_T} {μ : pm_T}
theorem j_pass {p : Nat → Nat} {T B : Int} (hb0 : hb s h) (H : CV μ c h) (P : PTs μ b p h) (hT : 0 ≤ T) (hb1 : b ≤ 101) : con G 2 0 0 m_Page_passTime [av_R (some 150), av_R (some c), av_I (b : Int), av_L T, av_L B] h (fun r h' => r = none ∧ hb s h' ∧ fr JWg h h' ∧ PTs μ b (pasP μ b T B p) h') := by
  refine c_Page_passTime H.1 (X3 := fun v7 hh => fr JWg h hh ∧ ∃ k : Nat, v7 = (k : Int) ∧ k ≤ 4 ∧ PTs μ b (fun o => if o < k then pasP μ b T B p o else p o) hh) ?_ hb0 (fun _ _ _ => ?_)
  · refine lp_Page_passTime_3 H.1 _ (fun v7 _ => (5 - v7).toNat) ?_
    rintro v7 hh hb2 ⟨f, k, rfl, hk, P1⟩
    have H1 := CV_f H f JWg_43
    unfold B_Page_passTime_3 B_Page_passTime_58
    have nxt : ∀ {h' : ah_T}, fr JWg h h' → k < 4 → PTs μ b (fun o => if o < k + 1 then pasP μ b T B p o else p o) h' → ((-2147483648) ≤ ((k : Int) + 1) ∧ ((k : Int) + 1) ≤ 2147483647) ∧ ((fr JWg h h' ∧ ∃ k' : Nat, (k : Int) + 1 = (k' : Int) ∧ k' ≤ 4 ∧ PTs μ b (fun o => if o < k' then pasP μ b T B p o else p o) h') ∧ (5 - ((k : Int) + 1)).toNat < (5 - (k : Int)).toNat) := fun f' k4 P' => ⟨⟨by omega, by omega⟩, ⟨f', k + 1, by omega, by omega, P'⟩, by omega⟩
    have same : ¬ (act μ b k (p k) ∧ tmT μ b k (p k) = T ∧ tmB μ b k (p k) = B) → PTs μ b (fun o => if o < k + 1 then pasP μ b T B p o else p o) hh := fun q => by
      have e : (fun o => if o < k + 1 then pasP μ b T B p o else p o) = (fun o => if o < k then pasP μ b T B p o else p o) := by
        funext o
        by_cases c1 : o < k
        · rw [if_pos c1, if_pos (by omega)]
        · by_cases c2 : o = k
          · subst c2
            rw [if_pos (by omega), if_neg c1]
            unfold pasP
            rw [dif_f q]
          · rw [if_neg c1, if_neg (by omega)]
      rw [e]; exact P1
    refine ⟨fun q => ⟨rfl, hb2, f, ?_⟩, fun q => ⟨by omega, ?_⟩⟩
    · have k4 : k = 4 := by omega
      subst k4
      intro o ho
      have := P1 o ho
      dsimp only at this
      rw [if_pos ho] at this
      exact this
    have k4 : k < 4 := by omega
    have P1k := P1 k k4
    dsimp only at P1k
    rw [if_neg (by omega)] at P1k
    obtain ⟨q1, ⟨q2, q3⟩, q4⟩ := P1k
    rw [tn_c]
    intro x2 e2 _ _
    by_cases A : act μ b k (p k)
    rotate_left
    · have ex := e2.trans (q3 A)
      subst ex
      exact ⟨fun w => by omega, fun w => nxt f k4 (same (fun x => A x.1))⟩
    obtain ⟨t1, t2⟩ := q2 A
    have ex := e2.trans t1
    subst ex
    refine ⟨fun w x6 e6 _ _ => ?_, fun w => nxt f k4 (same (fun x => w x.2.1))⟩
    have ex := e6.trans t2
    subst ex
    refine ⟨fun w2 x9 e9 _ _ => ?_, fun w2 => nxt f k4 (same (fun x => w2 x.2.2))⟩
    have ex := e9.trans q1
    subst ex
    have e1 := brE_b H.2.2.1 (b := b + 1) A.1
    have lt := A.2.2
    have m3 := (H.2.2.1.2.2 k A.1).1
    refine ⟨⟨by omega, by omega⟩, fun h11 e11 => ?_⟩
    have f11 := fr_i f e11 (Or.inl rfl)
    have hb11 := hb_i hb2 e11
    have H11 := CV_f H f11 JWg_43
    refine con_mono (t_Score_voiceAt hb11 H.1 H11.2.1) ?_
    rintro r h13 ⟨hb13, rfl, ⟨-, -, rfl⟩ | ⟨q5, -⟩⟩
    rotate_left
    · exact absurd ⟨by omega, A.1⟩ q5
    rw [tn_c]
    refine ⟨_, rfl, hb13, Or.inr ⟨_, rfl, (CV_v H11 A.1).1, ?_⟩⟩
    have hp1 : h13.2.1 155 k = ((p k + 1 : Nat) : Int) := by rw [mv_i e11]; omega
    refine con_mono (j_next_v hb13 H11 A.1 hp1 (fun _ => by have := q4 A; omega) hb1) ?_
    rintro r h19 ⟨rfl, hb19, f19, N⟩
    refine ⟨rfl, hb19, nxt (fr_t f11 (JWn_g f19) (fun _ _ w => w)) k4 ?_⟩
    intro o ho
    dsimp only
    by_cases c2 : o = k
    · subst c2
      have ep : pasP μ b (tmT μ b o (p o)) (tmB μ b o (p o)) p o = p o + 1 := by unfold pasP; rw [dif_t ⟨A, rfl, rfl⟩]
      rw [if_pos (by omega), ← w, ← w2, ep]
      exact ⟨(fr_g f19 (by omega)).trans hp1, N, fun _ => by have := q4 A; omega⟩
    · have old := P1 o ho
      dsimp only at old
      have e : (if o < k + 1 then pasP μ b T B p o else p o) = (if o < k then pasP μ b T B p o else p o) := by
        by_cases c1 : o < k
        · rw [if_pos c1, if_pos (by omega)]
        · rw [if_neg c1, if_neg (by omega)]
      rw [e]
      have g1 : h19.2.1 155 o = hh.2.1 155 o := by rw [fr_g f19 (by omega), mm_i e11 (by omega)]
      have g2 : h19.2.2.1 156 o = hh.2.2.1 156 o := by rw [fr_gl f19 (by omega), mm_io e11]
      have g3 : h19.2.2.1 157 o = hh.2.2.1 157 o := by rw [fr_gl f19 (by omega), mm_io e11]
      unfold NXt at old ⊢
      rw [g1, g2, g3]
      exact old
  · unfold B_Page_passTime_0
    exact ⟨fr_0, 0, rfl, by decide, fun o ho => by dsimp only; rw [if_neg (by omega)]; exact P o ho⟩
end

/-! ===== page: distinct times of a bar are counted by their first events ===== -/
section
variable {μ : pm_T} {b : Nat}
theorem tm_lt {o i v e : Nat} (GG : GM μ) (ho : (o : Int) < μ 0 7) (hv : (v : Int) < μ 0 7) (hi : brE μ o b ≤ i) (hi2 : (i : Int) ≤ μ (10 + o) 0) (he : brE μ v b ≤ e) (he2 : (e : Int) ≤ μ (10 + v) 0) : (tmL μ b o i v e ↔ xBr μ o (brE μ o b) i * yBr μ v (brE μ v b) e < xBr μ v (brE μ v b) e * yBr μ o (brE μ o b) i) ∧ (xBr μ o (brE μ o b) i * yBr μ v (brE μ v b) e = xBr μ v (brE μ v b) e * yBr μ o (brE μ o b) i → tmT μ b o i = tmT μ b v e ∧ tmB μ b o i = tmB μ b v e) := by
  have x1 := xy_b GG ho hi hi2
  have x2 := xy_b GG hv he he2
  unfold tmL tmT tmB
  generalize xBr μ o (brE μ o b) i = x at *
  generalize yBr μ o (brE μ o b) i = y at *
  generalize xBr μ v (brE μ v b) e = x' at *
  generalize yBr μ v (brE μ v b) e = y' at *
  constructor
  · obtain ⟨-, -, g, g1, gx, gy⟩ := rd_pos x1.1.1 x1.2.1
    obtain ⟨-, -, g', g1', gx', gy'⟩ := rd_pos x2.1.1 x2.2.1
    generalize rdT x y = X at *
    generalize rdB x y = Y at *
    generalize rdT x' y' = X' at *
    generalize rdB x' y' = Y' at *
    have e1 : x * y' = (g * g') * (X * Y') := by
      rw [gx, gy']
      simp only [Int.mul_assoc, Int.mul_comm, Int.mul_left_comm]
    have e2 : x' * y = (g * g') * (X' * Y) := by
      rw [gx', gy]
      simp only [Int.mul_assoc, Int.mul_comm, Int.mul_left_comm]
    have gg : 0 < g * g' := Int.mul_pos (by omega) (by omega)
    rw [e1, e2]
    exact ⟨fun w => Int.mul_lt_mul_of_pos_left w gg, fun w => Int.lt_of_mul_lt_mul_left w (Int.le_of_lt gg)⟩
  · intro eq
    have a := rd_mul (g := y') (m := x) (n := y) x2.2.1
    have c := rd_mul (g := y) (m := x') (n := y') x1.2.1
    rw [Int.mul_comm y' x, Int.mul_comm y' y, eq] at a
    rw [Int.mul_comm y x'] at c
    exact ⟨a.1.symm.trans c.1, a.2.symm.trans c.2⟩
theorem tm_s {o i j : Nat} (GG : GM μ) (ho : (o : Int) < μ 0 7) (hi : brE μ o b ≤ i) (hij : i < j) (hj : (j : Int) ≤ μ (10 + o) 0) : tmL μ b o i o j := by
  rw [(tm_lt GG ho ho hi (by omega) (by omega) hj).1]
  have l := GM_l GG ho hij hj
  have b0 := GM_b GG ho (brE μ o b)
  unfold SL at l
  unfold xBr yBr
  generalize smT μ o i = Ti at *
  generalize smB μ o i = Bi at *
  generalize smT μ o j = Tj at *
  generalize smB μ o j = Bj at *
  generalize smT μ o (brE μ o b) = T0 at *
  generalize smB μ o (brE μ o b) = B0 at *
  have u : 0 < B0 * B0 := Int.mul_pos (by omega) (by omega)
  have m := Int.mul_lt_mul_of_pos_right l u
  rw [Int.sub_mul, Int.sub_mul]
  have e1 : Ti * B0 * (Bj * B0) = Ti * Bj * (B0 * B0) := by simp only [Int.mul_assoc, Int.mul_comm, Int.mul_left_comm]
  have e2 : Tj * B0 * (Bi * B0) = Tj * Bi * (B0 * B0) := by simp only [Int.mul_assoc, Int.mul_comm, Int.mul_left_comm]
  have e3 : T0 * Bi * (Bj * B0) = T0 * Bj * (Bi * B0) := by simp only [Int.mul_assoc, Int.mul_comm, Int.mul_left_comm]
  omega
theorem tm_t {o i v e w f : Nat} (h1 : 1 ≤ tmB μ b o i) (h2 : 1 ≤ tmB μ b v e) (h3 : 1 ≤ tmB μ b w f) (a : tmL μ b o i v e) (c : tmL μ b v e w f) : tmL μ b o i w f := fr_ll h2 h1 h3 a (Int.le_of_lt c)
/-- the end of voice v's events of the bar -/
noncomputable def tnd (μ : pm_T) (b v : Nat) : Nat := dif ((v : Int) < μ 0 7 ∧ (b : Int) < μ (10 + v) 1) (brE μ v (b + 1)) 0
theorem act_t {v i : Nat} : act μ b v i ↔ i < tnd μ b v := by
  unfold act tnd
  by_cases c : (v : Int) < μ 0 7 ∧ (b : Int) < μ (10 + v) 1
  · rw [dif_t c]
    exact ⟨fun w => w.2.2, fun w => ⟨c.1, c.2, w⟩⟩
  · rw [dif_f c]
    exact ⟨fun w => absurd ⟨w.1, w.2.1⟩ c, fun w => by omega⟩
/-- no earlier voice has an event of the bar at this time -/
def Fst (μ : pm_T) (b v e : Nat) : Prop := ¬ ∃ o f, o < v ∧ act μ b o f ∧ brE μ o b ≤ f ∧ tmT μ b o f = tmT μ b v e ∧ tmB μ b o f = tmB μ b v e
noncomputable def rkC (F : Nat → Prop) (t : Nat) : Nat → Nat
  | 0 => 0
  | k + 1 => rkC F t k + dif (F (t - (k + 1))) 1 0
theorem rkC_l {F : Nat → Prop} {t : Nat} : ∀ k, rkC F t k ≤ k
  | 0 => Nat.le_refl _
  | k + 1 => by
    have := rkC_l (F := F) (t := t) k
    rw [rkC]
    by_cases c : F (t - (k + 1))
    · rw [dif_t c]; omega
    · rw [dif_f c]; omega
noncomputable def Nf (μ : pm_T) (b v i : Nat) : Nat := rkC (Fst μ b v) (tnd μ b v) (tnd μ b v - i)
theorem Nf_s {v i : Nat} (h : act μ b v i) : Nf μ b v i = Nf μ b v (i + 1) + dif (Fst μ b v i) 1 0 := by
  have h := act_t.mp h
  unfold Nf
  rw [show tnd μ b v - i = (tnd μ b v - (i + 1)) + 1 by omega, rkC, show tnd μ b v - (tnd μ b v - (i + 1) + 1) = i by omega]
theorem Nf_0 {v i : Nat} (h : ¬ act μ b v i) : Nf μ b v i = 0 := by
  rw [act_t] at h
  unfold Nf
  rw [show tnd μ b v - i = 0 by omega]
  rfl
noncomputable def Rem4 (μ : pm_T) (b : Nat) (p : Nat → Nat) : Nat := Nf μ b 0 (p 0) + Nf μ b 1 (p 1) + Nf μ b 2 (p 2) + Nf μ b 3 (p 3)
/-- what was passed lies before all that stands -/
def Past (μ : pm_T) (b : Nat) (p : Nat → Nat) : Prop := (∀ o, o < 4 → act μ b o (p o) → brE μ o b ≤ p o) ∧ ∀ o, o < 4 → ∀ f, brE μ o b ≤ f → f < p o → act μ b o f → ∀ v, v < 4 → act μ b v (p v) → tmL μ b o f v (p v)
theorem act_b {o i : Nat} (GG : GM μ) (h : act μ b o i) : (i : Int) + 1 ≤ μ (10 + o) 0 := by
  have e1 := brE_b GG (b := b + 1) h.1
  have := h.2.2
  omega
theorem act_tm {o i : Nat} (GG : GM μ) (h : act μ b o i) (hi : brE μ o b ≤ i) : 1 ≤ tmB μ b o i := (tm_b GG h.1 hi (by have := act_b GG h; omega)).2.1
theorem tm_3 {o i v e : Nat} (GG : GM μ) (ha : act μ b o i) (hi : brE μ o b ≤ i) (hb : act μ b v e) (he : brE μ v b ≤ e) (n1 : ¬ tmL μ b o i v e) (n2 : ¬ (tmT μ b o i = tmT μ b v e ∧ tmB μ b o i = tmB μ b v e)) : tmL μ b v e o i := by
  have b1 := act_b GG ha
  have b2 := act_b GG hb
  have t1 := tm_lt (b := b) GG ha.1 hb.1 hi (by omega) he (by omega)
  have t2 := tm_lt (b := b) GG hb.1 ha.1 he (by omega) hi (by omega)
  rw [t2.1]
  rw [t1.1] at n1
  have := fun w => n2 (t1.2 w)
  omega
/-- a turn takes one from the count -/
theorem Rem_turn {p : Nat → Nat} {m : Nat} (GG : GM μ) (P : Past μ b p) (hm : m < 4) (hA : act μ b m (p m)) (er : ∀ o, o < 4 → act μ b o (p o) → ¬ tmL μ b o (p o) m (p m)) : Rem4 μ b p = Rem4 μ b (pasP μ b (tmT μ b m (p m)) (tmB μ b m (p m)) p) + 1 ∧ Past μ b (pasP μ b (tmT μ b m (p m)) (tmB μ b m (p m)) p) := by
  obtain ⟨P0, P1⟩ := P
  have at_ : ∀ v, pasP μ b (tmT μ b m (p m)) (tmB μ b m (p m)) p v = dif (act μ b v (p v) ∧ tmT μ b v (p v) = tmT μ b m (p m) ∧ tmB μ b v (p v) = tmB μ b m (p m)) (p v + 1) (p v) := fun v => rfl
  generalize pasP μ b (tmT μ b m (p m)) (tmB μ b m (p m)) p = p' at *
  have L1 : ∀ v, v < 4 → (act μ b v (p v) ∧ tmT μ b v (p v) = tmT μ b m (p m) ∧ tmB μ b v (p v) = tmB μ b m (p m)) → (∀ o, o < v → ¬ (act μ b o (p o) ∧ tmT μ b o (p o) = tmT μ b m (p m) ∧ tmB μ b o (p o) = tmB μ b m (p m))) → Fst μ b v (p v) := by
    rintro v v4 ⟨a1, a2, a3⟩ no ⟨o, f, ov, of, obf, oT, oB⟩
    have eqm : tmT μ b o f = tmT μ b m (p m) ∧ tmB μ b o f = tmB μ b m (p m) := ⟨oT.trans a2, oB.trans a3⟩
    by_cases c1 : f < p o
    · have := P1 o (by omega) f obf c1 of m hm hA
      unfold tmL at this
      rw [eqm.1, eqm.2] at this
      omega
    · by_cases c2 : f = p o
      · subst c2
        exact no o ov ⟨of, eqm⟩
      · have ao : act μ b o (p o) := ⟨of.1, of.2.1, by have := of.2.2; omega⟩
        have := tm_s (b := b) GG of.1 (P0 o (by omega) ao) (show p o < f by omega) (by have := act_b GG of; omega)
        refine er o (by omega) ao ?_
        unfold tmL at this ⊢
        rw [eqm.1, eqm.2] at this
        exact this
  have L2 : ∀ o v, o < v → v < 4 → (act μ b o (p o) ∧ tmT μ b o (p o) = tmT μ b m (p m) ∧ tmB μ b o (p o) = tmB μ b m (p m)) → (act μ b v (p v) ∧ tmT μ b v (p v) = tmT μ b m (p m) ∧ tmB μ b v (p v) = tmB μ b m (p m)) → ¬ Fst μ b v (p v) := by
    rintro o v ov v4 ⟨a1, a2, a3⟩ ⟨c1, c2, c3⟩ w
    exact w ⟨o, p o, ov, a1, P0 o (by omega) a1, a2.trans c2.symm, a3.trans c3.symm⟩
  have D : ∀ v, Nf μ b v (p v) = Nf μ b v (p' v) + dif ((act μ b v (p v) ∧ tmT μ b v (p v) = tmT μ b m (p m) ∧ tmB μ b v (p v) = tmB μ b m (p m)) ∧ Fst μ b v (p v)) 1 0 := by
    intro v
    rw [at_]
    by_cases c : act μ b v (p v) ∧ tmT μ b v (p v) = tmT μ b m (p m) ∧ tmB μ b v (p v) = tmB μ b m (p m)
    · rw [dif_t c, Nf_s c.1]
      by_cases c2 : Fst μ b v (p v)
      · rw [dif_t c2, dif_t ⟨c, c2⟩]
      · rw [dif_f c2, dif_f (fun w => c2 w.2)]
    · rw [dif_f c, dif_f (fun w => c w.1)]
      rfl
  have d1 : ∀ v, v < 4 → (act μ b v (p v) ∧ tmT μ b v (p v) = tmT μ b m (p m) ∧ tmB μ b v (p v) = tmB μ b m (p m)) → (∀ o, o < v → ¬ (act μ b o (p o) ∧ tmT μ b o (p o) = tmT μ b m (p m) ∧ tmB μ b o (p o) = tmB μ b m (p m))) → Nf μ b v (p v) = Nf μ b v (p' v) + 1 := fun v v4 a no => by rw [D v, dif_t ⟨a, L1 v v4 a no⟩]
  have d0 : ∀ v, v < 4 → ¬ (act μ b v (p v) ∧ tmT μ b v (p v) = tmT μ b m (p m) ∧ tmB μ b v (p v) = tmB μ b m (p m)) → Nf μ b v (p v) = Nf μ b v (p' v) := fun v v4 a => by rw [D v, dif_f (fun w => a w.1)]; rfl
  have d2 : ∀ o v, o < v → v < 4 → (act μ b o (p o) ∧ tmT μ b o (p o) = tmT μ b m (p m) ∧ tmB μ b o (p o) = tmB μ b m (p m)) → Nf μ b v (p v) = Nf μ b v (p' v) := fun o v ov v4 a => by
    by_cases c : act μ b v (p v) ∧ tmT μ b v (p v) = tmT μ b m (p m) ∧ tmB μ b v (p v) = tmB μ b m (p m)
    · rw [D v, dif_f (fun w => L2 o v ov v4 a c w.2)]; rfl
    · exact d0 v v4 c
  have Am : act μ b m (p m) ∧ tmT μ b m (p m) = tmT μ b m (p m) ∧ tmB μ b m (p m) = tmB μ b m (p m) := ⟨hA, rfl, rfl⟩
  refine ⟨?_, fun o o4 a => ?_, fun o o4 f obf fp of v v4 av => ?_⟩
  · unfold Rem4
    by_cases a0 : act μ b 0 (p 0) ∧ tmT μ b 0 (p 0) = tmT μ b m (p m) ∧ tmB μ b 0 (p 0) = tmB μ b m (p m)
    · have := d1 0 (by decide) a0 (fun o ho => by omega)
      have := d2 0 1 (by decide) (by decide) a0
      have := d2 0 2 (by decide) (by decide) a0
      have := d2 0 3 (by decide) (by decide) a0
      omega
    have e0 := d0 0 (by decide) a0
    by_cases a1 : act μ b 1 (p 1) ∧ tmT μ b 1 (p 1) = tmT μ b m (p m) ∧ tmB μ b 1 (p 1) = tmB μ b m (p m)
    · have := d1 1 (by decide) a1 (fun o ho => by rcases (show o = 0 ∨ o = 0 by omega) with rfl | rfl <;> assumption)
      have := d2 1 2 (by decide) (by decide) a1
      have := d2 1 3 (by decide) (by decide) a1
      omega
    have e1 := d0 1 (by decide) a1
    by_cases a2 : act μ b 2 (p 2) ∧ tmT μ b 2 (p 2) = tmT μ b m (p m) ∧ tmB μ b 2 (p 2) = tmB μ b m (p m)
    · have := d1 2 (by decide) a2 (fun o ho => by rcases (show o = 0 ∨ o = 1 by omega) with rfl | rfl <;> assumption)
      have := d2 2 3 (by decide) (by decide) a2
      omega
    have e2 := d0 2 (by decide) a2
    have m3 : m = 3 := by
      by_cases c0 : m = 0
      · subst c0; exact absurd Am a0
      by_cases c1 : m = 1
      · subst c1; exact absurd Am a1
      by_cases c2 : m = 2
      · subst c2; exact absurd Am a2
      omega
    subst m3
    have := d1 3 (by decide) Am (fun o ho => by rcases (show o = 0 ∨ o = 1 ∨ o = 2 by omega) with rfl | rfl | rfl <;> assumption)
    omega
  · rw [at_] at a ⊢
    by_cases c : act μ b o (p o) ∧ tmT μ b o (p o) = tmT μ b m (p m) ∧ tmB μ b o (p o) = tmB μ b m (p m)
    · rw [dif_t c]
      have := P0 o o4 c.1
      omega
    · rw [dif_f c] at a ⊢
      exact P0 o o4 a
  · have bf := act_tm GG of obf
    -- what stood before
    have avp : act μ b v (p v) := by
      rw [at_] at av
      by_cases c : act μ b v (p v) ∧ tmT μ b v (p v) = tmT μ b m (p m) ∧ tmB μ b v (p v) = tmB μ b m (p m)
      · exact c.1
      · rw [dif_f c] at av; exact av
    have pv := P0 v v4 avp
    have bv := act_tm GG avp pv
    have bv2 : brE μ v b ≤ p' v := by
      rw [at_]
      by_cases c : act μ b v (p v) ∧ tmT μ b v (p v) = tmT μ b m (p m) ∧ tmB μ b v (p v) = tmB μ b m (p m)
      · rw [dif_t c]; omega
      · rw [dif_f c]; exact pv
    have bv3 := act_tm GG av bv2
    -- event f was passed before, or just now
    by_cases fo : f < p o
    · have old := P1 o o4 f obf fo of v v4 avp
      rw [at_] at av bv3 ⊢
      by_cases c : act μ b v (p v) ∧ tmT μ b v (p v) = tmT μ b m (p m) ∧ tmB μ b v (p v) = tmB μ b m (p m)
      · rw [dif_t c] at av bv3 ⊢
        exact tm_t bf bv bv3 old (tm_s GG avp.1 pv (Nat.lt_succ_self _) (by have := act_b GG av; omega))
      · rw [dif_f c]; exact old
    · rw [at_] at fp
      by_cases co : act μ b o (p o) ∧ tmT μ b o (p o) = tmT μ b m (p m) ∧ tmB μ b o (p o) = tmB μ b m (p m)
      · rw [dif_t co] at fp
        obtain rfl : f = p o := by omega
        have tr : ∀ {w g : Nat}, tmL μ b m (p m) w g → tmL μ b o (p o) w g := fun h => by
          unfold tmL at h ⊢
          rw [co.2.1, co.2.2]
          exact h
        refine tr ?_
        rw [at_] at av ⊢
        by_cases c : act μ b v (p v) ∧ tmT μ b v (p v) = tmT μ b m (p m) ∧ tmB μ b v (p v) = tmB μ b m (p m)
        · rw [dif_t c] at av ⊢
          have := tm_s GG avp.1 pv (Nat.lt_succ_self _) (by have := act_b GG av; omega)
          unfold tmL at this ⊢
          rw [← c.2.1, ← c.2.2]
          exact this
        · rw [dif_f c]
          exact tm_3 GG avp pv hA (P0 m hm hA) (er v v4 avp) (fun w => c ⟨avp, w⟩)
      · rw [dif_f co] at fp
        exact absurd fp fo
end
