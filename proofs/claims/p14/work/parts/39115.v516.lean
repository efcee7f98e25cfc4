/-! ===== verification conditions, 516 ===== -/
def B_MD_isFirstTime_165 (G : cx_T) (s : Nat) (a1 : Int) (a2 : Int) (a3 : Int) (v4 : Int) (v6 : Int) (v8 : Int) (v9 : Int) (h : ah_T) (Q : Option av_T → ah_T → Prop) (X63 : Int → Int → Int → Int → ah_T → Prop) : Prop :=
 ((-2147483648) ≤ (v9 + 1) ∧ (v9 + 1) ≤ 2147483647) ∧ X63 (v4) (v6) (v8) ((v9 + 1)) h
theorem b_MD_isFirstTime_165 {G : cx_T} {s : Nat} {a1 : Int} {a2 : Int} {a3 : Int} {v4 : Int} {v6 : Int} {v8 : Int} {v9 : Int} {h : ah_T} {Q : Option av_T → ah_T → Prop} {X63 : Int → Int → Int → Int → ah_T → Prop} (hX63 : ∀ (v4 : Int) (v6 : Int) (v8 : Int) (v9 : Int) (h : ah_T), hb s h → X63 v4 v6 v8 v9 h → aw G (rm_R 3 0 0) m_MD_isFirstTime 0 0 63 [some (av_R (some 170)), some (av_I a1), none, some (av_I a3), some (av_L v4), none, some (av_L v6), none, some (av_I v8), some (av_I v9), none] [] h Q) (hb0 : hb s h) (H : B_MD_isFirstTime_165 G s a1 a2 a3 v4 v6 v8 v9 h Q X63) : aw G (rm_R 3 0 0) m_MD_isFirstTime 0 0 165 [some (av_R (some 170)), some (av_I a1), none, some (av_I a3), some (av_L v4), none, some (av_L v6), none, some (av_I v8), some (av_I v9), none] [] h Q := by
  unfold B_MD_isFirstTime_165 at H
  have hS : isS s := hb0.2.1
  have g1 := H.1
  replace H := H.2
  refine A_iincv (z := (v9 + 1)) (L' := [some (av_R (some 170)), some (av_I a1), none, some (av_I a3), some (av_L v4), none, some (av_L v6), none, some (av_I v8), some (av_I (v9 + 1)), none]) d_MD_isFirstTime_165 rfl (w32_to (by omega) (by unfold i32; omega)) rfl ?_
  refine A_goto (tgt := 63) d_MD_isFirstTime_168 (by decide) ?_
  refine A_pc (pc' := 63) rfl ?_
  exact hX63 (v4) (v6) (v8) ((v9 + 1)) h  hb0 H
def B_MD_isFirstTime_63 (G : cx_T) (s : Nat) (a1 : Int) (a2 : Int) (a3 : Int) (v4 : Int) (v6 : Int) (v8 : Int) (v9 : Int) (h : ah_T) (Q : Option av_T → ah_T → Prop) (X54 : Int → Int → Int → ah_T → Prop) (X63 : Int → Int → Int → Int → ah_T → Prop) : Prop :=
 (0 ≤ v8 ∧ v8 < 8) ∧ ∀ x2 : Int, x2 = h.2.1 185 (v8).toNat → -2147483648 ≤ x2 → x2 ≤ 2147483647 → ((x2 ≤ v9 → ((-2147483648) ≤ (v8 + 1) ∧ (v8 + 1) ≤ 2147483647) ∧ X54 (v4) (v6) ((v8 + 1)) h) ∧ (¬ x2 ≤ v9 → ((-2147483648) ≤ (300 * v8) ∧ (300 * v8) ≤ 2147483647) ∧ ((-2147483648) ≤ (300 * v8 + v9) ∧ (300 * v8 + v9) ≤ 2147483647) ∧ (0 ≤ (300 * v8 + v9) ∧ (300 * v8 + v9) < 2400) ∧ ∀ x8 : Int, x8 = h.2.1 196 ((300 * v8 + v9)).toNat → -2147483648 ≤ x8 → x8 ≤ 2147483647 → ((x8 = a3 → ∀ x11 : Int, x11 = h.2.2.1 187 ((300 * v8 + v9)).toNat → -9223372036854775808 ≤ x11 → x11 ≤ 9223372036854775807 → ∀ x13 : Int, x13 = h.2.2.1 188 ((300 * v8 + v9)).toNat → -9223372036854775808 ≤ x13 → x13 ≤ 9223372036854775807 → ((-2147483648) ≤ (102 * v8) ∧ (102 * v8) ≤ 2147483647) ∧ ((-2147483648) ≤ (102 * v8 + a3) ∧ (102 * v8 + a3) ≤ 2147483647) ∧ (0 ≤ (102 * v8 + a3) ∧ (102 * v8 + a3) < 816) ∧ ∀ x17 : Int, x17 = h.2.2.1 199 ((102 * v8 + a3)).toNat → -9223372036854775808 ≤ x17 → x17 ≤ 9223372036854775807 → ((-9223372036854775808) ≤ (-x17) ∧ (-x17) ≤ 9223372036854775807) ∧ ∀ x21 : Int, x21 = h.2.2.1 200 ((102 * v8 + a3)).toNat → -9223372036854775808 ≤ x21 → x21 ≤ 9223372036854775807 → con G 2 0 0 m_MD_sum [av_R (some 170), av_L x11, av_L x13, av_L (-x17), av_L x21] h (fun r h22 => r = none ∧ hb s h22 ∧ ∀ x25 : Int, x25 = h22.2.2.1 170 65 → -9223372036854775808 ≤ x25 → x25 ≤ 9223372036854775807 → ((x25 = v4 → ∀ x27 : Int, x27 = h22.2.2.1 170 66 → -9223372036854775808 ≤ x27 → x27 ≤ 9223372036854775807 → ((x27 = v6 → Q (some (av_I 0)) h22) ∧ (¬ x27 = v6 → B_MD_isFirstTime_165 G s a1 a2 a3 (v4) (v6) (v8) (v9) h22 Q X63))) ∧ (¬ x25 = v4 → B_MD_isFirstTime_165 G s a1 a2 a3 (v4) (v6) (v8) (v9) h22 Q X63)))) ∧ (¬ x8 = a3 → B_MD_isFirstTime_165 G s a1 a2 a3 (v4) (v6) (v8) (v9) h Q X63))))
theorem b_MD_isFirstTime_63 {G : cx_T} {s : Nat} {a1 : Int} {a2 : Int} {a3 : Int} {v4 : Int} {v6 : Int} {v8 : Int} {v9 : Int} {h : ah_T} {Q : Option av_T → ah_T → Prop} {X54 : Int → Int → Int → ah_T → Prop} {X63 : Int → Int → Int → Int → ah_T → Prop} (hX54 : ∀ (v4 : Int) (v6 : Int) (v8 : Int) (h : ah_T), hb s h → X54 v4 v6 v8 h → aw G (rm_R 3 0 0) m_MD_isFirstTime 0 0 54 [some (av_R (some 170)), some (av_I a1), none, some (av_I a3), some (av_L v4), none, some (av_L v6), none, some (av_I v8), none, none] [] h Q) (hX63 : ∀ (v4 : Int) (v6 : Int) (v8 : Int) (v9 : Int) (h : ah_T), hb s h → X63 v4 v6 v8 v9 h → aw G (rm_R 3 0 0) m_MD_isFirstTime 0 0 63 [some (av_R (some 170)), some (av_I a1), none, some (av_I a3), some (av_L v4), none, some (av_L v6), none, some (av_I v8), some (av_I v9), none] [] h Q) (hb0 : hb s h) (H : B_MD_isFirstTime_63 G s a1 a2 a3 v4 v6 v8 v9 h Q X54 X63) : aw G (rm_R 3 0 0) m_MD_isFirstTime 0 0 63 [some (av_R (some 170)), some (av_I a1), none, some (av_I a3), some (av_L v4), none, some (av_L v6), none, some (av_I v8), some (av_I v9), none] [] h Q := by
  unfold B_MD_isFirstTime_63 at H
  have hS : isS s := hb0.2.1
  refine A_iload d_MD_isFirstTime_63 rfl ?_
  refine A_aload_n 0 d_MD_isFirstTime_65 rfl rfl ?_
  refine A_getAv (z := some 185) T_ok d_MD_isFirstTime_66 f_MD_57 (hb_s hb0 sf_170) (hb_m hb0 rfm_27) ?_
  refine A_iload d_MD_isFirstTime_69 rfl ?_
  have g3 := H.1
  replace H := H.2
  refine A_ialoadf d_MD_isFirstTime_71 (hb_s hb0 sf_185) g3.1 g3.2 (fun x2 ex2 lx2 ux2 => ?_)
  replace H := H x2 ex2 lx2 ux2
  refine A_pc (pc' := 72) rfl ?_
  refine A_icmp_ge (tgt := 171) d_MD_isFirstTime_72 (by decide) (fun c => ?_) (fun c => ?_)
  · replace H := H.1 c
    have g4 := H.1
    replace H := H.2
    refine A_iincv (z := (v8 + 1)) (L' := [some (av_R (some 170)), some (av_I a1), none, some (av_I a3), some (av_L v4), none, some (av_L v6), none, some (av_I (v8 + 1)), some (av_I v9), none]) d_MD_isFirstTime_171 rfl (w32_to (by omega) (by unfold i32; omega)) rfl ?_
    refine A_goto (tgt := 54) d_MD_isFirstTime_174 (by decide) ?_
    refine A_pc (pc' := 54) rfl ?_
    refine A_free (L' := [some (av_R (some 170)), some (av_I a1), none, some (av_I a3), some (av_L v4), none, some (av_L v6), none, some (av_I (v8 + 1)), none, none]) (And.intro rfl (And.intro rfl (And.intro rfl (And.intro rfl (And.intro rfl (And.intro rfl trivial)))))) ?_
    exact hX54 (v4) (v6) ((v8 + 1)) h  hb0 H
  · replace H := H.2 c
    refine A_sipush d_MD_isFirstTime_75 rfl ?_
    refine A_iload d_MD_isFirstTime_78 rfl ?_
    have g5 := H.1
    replace H := H.2
    refine A_imulv (z := (300 * v8)) d_MD_isFirstTime_80 (w32_to (by omega) (by unfold i32; omega)) ?_
    refine A_iload d_MD_isFirstTime_81 rfl ?_
    have g6 := H.1
    replace H := H.2
    refine A_iaddv (z := (300 * v8 + v9)) d_MD_isFirstTime_83 (w32_to (by omega) (by unfold i32; omega)) ?_
    refine A_pc (pc' := 84) rfl ?_
    refine A_istore (L' := [some (av_R (some 170)), some (av_I a1), none, some (av_I a3), some (av_L v4), none, some (av_L v6), none, some (av_I v8), some (av_I v9), some (av_I (300 * v8 + v9))]) d_MD_isFirstTime_84 (Nat.le_of_ble_eq_true rfl) rfl ?_
    refine A_aload_n 0 d_MD_isFirstTime_86 rfl rfl ?_
    refine A_getAv (z := some 196) T_ok d_MD_isFirstTime_87 f_MD_91 (hb_s hb0 sf_170) (hb_m hb0 rfm_38) ?_
    refine A_iload d_MD_isFirstTime_90 rfl ?_
    have g9 := H.1
    replace H := H.2
    refine A_ialoadf d_MD_isFirstTime_92 (hb_s hb0 sf_196) g9.1 g9.2 (fun x8 ex8 lx8 ux8 => ?_)
    replace H := H x8 ex8 lx8 ux8
    refine A_iload_n 3 d_MD_isFirstTime_93 rfl rfl ?_
    refine A_pc (pc' := 94) rfl ?_
    refine A_icmp_eq (tgt := 100) d_MD_isFirstTime_94 (by decide) (fun c => ?_) (fun c => ?_)
    · replace H := H.1 c
      refine A_aload_n 0 d_MD_isFirstTime_100 rfl rfl ?_
      refine A_aload_n 0 d_MD_isFirstTime_101 rfl rfl ?_
      refine A_getAv (z := some 187) T_ok d_MD_isFirstTime_102 f_MD_63 (hb_s hb0 sf_170) (hb_m hb0 rfm_29) ?_
      refine A_iload d_MD_isFirstTime_105 rfl ?_
      refine A_laloadf d_MD_isFirstTime_107 (hb_s hb0 sf_187) g9.1 g9.2 (fun x11 ex11 lx11 ux11 => ?_)
      replace H := H x11 ex11 lx11 ux11
      refine A_pc (pc' := 108) rfl ?_
      refine A_aload_n 0 d_MD_isFirstTime_108 rfl rfl ?_
      refine A_getAv (z := some 188) T_ok d_MD_isFirstTime_109 f_MD_66 (hb_s hb0 sf_170) (hb_m hb0 rfm_30) ?_
      refine A_iload d_MD_isFirstTime_112 rfl ?_
      refine A_laloadf d_MD_isFirstTime_114 (hb_s hb0 sf_188) g9.1 g9.2 (fun x13 ex13 lx13 ux13 => ?_)
      replace H := H x13 ex13 lx13 ux13
      refine A_aload_n 0 d_MD_isFirstTime_115 rfl rfl ?_
      refine A_getAv (z := some 199) T_ok d_MD_isFirstTime_116 f_MD_100 (hb_s hb0 sf_170) (hb_m hb0 rfm_41) ?_
      refine A_pc (pc' := 119) rfl ?_
      refine A_bipush d_MD_isFirstTime_119 rfl ?_
      refine A_iload d_MD_isFirstTime_121 rfl ?_
      have g15 := H.1
      replace H := H.2
      refine A_imulv (z := (102 * v8)) d_MD_isFirstTime_123 (w32_to (by omega) (by unfold i32; omega)) ?_
      refine A_iload_n 3 d_MD_isFirstTime_124 rfl rfl ?_
      have g16 := H.1
      replace H := H.2
      refine A_iaddv (z := (102 * v8 + a3)) d_MD_isFirstTime_125 (w32_to (by omega) (by unfold i32; omega)) ?_
      have g18 := H.1
      replace H := H.2
      refine A_laloadf d_MD_isFirstTime_126 (hb_s hb0 sf_199) g18.1 g18.2 (fun x17 ex17 lx17 ux17 => ?_)
      replace H := H x17 ex17 lx17 ux17
      refine A_pc (pc' := 127) rfl ?_
      have g19 := H.1
      replace H := H.2
      refine A_lnegv (z := (-x17)) d_MD_isFirstTime_127 (w64_to (by omega) (by unfold i64; omega)) ?_
      refine A_aload_n 0 d_MD_isFirstTime_128 rfl rfl ?_
      refine A_getAv (z := some 200) T_ok d_MD_isFirstTime_129 f_MD_103 (hb_s hb0 sf_170) (hb_m hb0 rfm_42) ?_
      refine A_bipush d_MD_isFirstTime_132 rfl ?_
      refine A_iload d_MD_isFirstTime_134 rfl ?_
      refine A_imulv (z := (102 * v8)) d_MD_isFirstTime_136 (w32_to (by omega) (by unfold i32; omega)) ?_
      refine A_pc (pc' := 137) rfl ?_
      refine A_iload_n 3 d_MD_isFirstTime_137 rfl rfl ?_
      refine A_iaddv (z := (102 * v8 + a3)) d_MD_isFirstTime_138 (w32_to (by omega) (by unfold i32; omega)) ?_
      refine A_laloadf d_MD_isFirstTime_139 (hb_s hb0 sf_200) g18.1 g18.2 (fun x21 ex21 lx21 ux21 => ?_)
      replace H := H x21 ex21 lx21 ux21
      refine A_callV4 m_MD_sum T_ok d_MD_isFirstTime_140 l_MD_458 k_MD_sum (hb_s hb0 sf_170) rfl (by decide +kernel) (by decide) (Nat.le_of_ble_eq_true rfl) H (fun r h22 hq => ?_)
      clear H
      obtain ⟨rfl, hb23, H⟩ := hq
      refine A_aload_n 0 d_MD_isFirstTime_143 rfl rfl ?_
      refine A_getLf T_ok d_MD_isFirstTime_144 f_MD_385 (hb_s hb23 sf_170) (fun x25 ex25 lx25 ux25 => ?_)
      replace H := H x25 ex25 lx25 ux25
      refine A_lload d_MD_isFirstTime_147 rfl ?_
      refine A_lcmpn d_MD_isFirstTime_149 (fun x26 lx26 ex26 gx26 _ _ => ?_)
      refine A_if_ne (tgt := 165) d_MD_isFirstTime_150 (by decide) (fun c => ?_) (fun c => ?_)
      · replace H := H.2 (by omega)
        refine A_pc (pc' := 165) rfl ?_
        refine A_free (L' := [some (av_R (some 170)), some (av_I a1), none, some (av_I a3), some (av_L v4), none, some (av_L v6), none, some (av_I v8), some (av_I v9), none]) (And.intro rfl (And.intro rfl (And.intro rfl (And.intro rfl (And.intro rfl (And.intro rfl (And.intro rfl trivial))))))) ?_
        exact b_MD_isFirstTime_165  hX63  hb23 H
      · replace H := H.1 (by omega)
        refine A_aload_n 0 d_MD_isFirstTime_153 rfl rfl ?_
        refine A_getLf T_ok d_MD_isFirstTime_154 f_MD_388 (hb_s hb23 sf_170) (fun x27 ex27 lx27 ux27 => ?_)
        replace H := H x27 ex27 lx27 ux27
        refine A_lload d_MD_isFirstTime_157 rfl ?_
        refine A_lcmpn d_MD_isFirstTime_159 (fun x28 lx28 ex28 gx28 _ _ => ?_)
        refine A_if_ne (tgt := 165) d_MD_isFirstTime_160 (by decide) (fun c => ?_) (fun c => ?_)
        · replace H := H.2 (by omega)
          refine A_pc (pc' := 165) rfl ?_
          refine A_free (L' := [some (av_R (some 170)), some (av_I a1), none, some (av_I a3), some (av_L v4), none, some (av_L v6), none, some (av_I v8), some (av_I v9), none]) (And.intro rfl (And.intro rfl (And.intro rfl (And.intro rfl (And.intro rfl (And.intro rfl (And.intro rfl trivial))))))) ?_
          exact b_MD_isFirstTime_165  hX63  hb23 H
        · replace H := H.1 (by omega)
          refine A_iconst d_MD_isFirstTime_163 rfl ?_
          exact A_zret d_MD_isFirstTime_164 (by decide) rfl (by decide) H
    · replace H := H.2 c
      refine A_goto (tgt := 165) d_MD_isFirstTime_97 (by decide) ?_
      refine A_pc (pc' := 165) rfl ?_
      refine A_free (L' := [some (av_R (some 170)), some (av_I a1), none, some (av_I a3), some (av_L v4), none, some (av_L v6), none, some (av_I v8), some (av_I v9), none]) (And.intro rfl (And.intro rfl (And.intro rfl (And.intro rfl (And.intro rfl (And.intro rfl (And.intro rfl trivial))))))) ?_
      exact b_MD_isFirstTime_165  hX63  hb0 H
theorem lp_MD_isFirstTime_63 {G : cx_T} {s : Nat} {a1 : Int} {a2 : Int} {a3 : Int} {Q : Option av_T → ah_T → Prop} {X54 : Int → Int → Int → ah_T → Prop} (hX54 : ∀ (v4 : Int) (v6 : Int) (v8 : Int) (h : ah_T), hb s h → X54 v4 v6 v8 h → aw G (rm_R 3 0 0) m_MD_isFirstTime 0 0 54 [some (av_R (some 170)), some (av_I a1), none, some (av_I a3), some (av_L v4), none, some (av_L v6), none, some (av_I v8), none, none] [] h Q) (I : Int → Int → Int → Int → ah_T → Prop) (μ : Int → Int → Int → Int → ah_T → Nat) (hI : ∀ (v4 : Int) (v6 : Int) (v8 : Int) (v9 : Int) (h : ah_T), hb s h → I v4 v6 v8 v9 h → B_MD_isFirstTime_63 G s a1 a2 a3 v4 v6 v8 v9 h Q X54 (fun v4' v6' v8' v9' h' => I v4' v6' v8' v9' h' ∧ μ v4' v6' v8' v9' h' < μ v4 v6 v8 v9 h)) : ∀ (v4 : Int) (v6 : Int) (v8 : Int) (v9 : Int) (h : ah_T), hb s h → I v4 v6 v8 v9 h → aw G (rm_R 3 0 0) m_MD_isFirstTime 0 0 63 [some (av_R (some 170)), some (av_I a1), none, some (av_I a3), some (av_L v4), none, some (av_L v6), none, some (av_I v8), some (av_I v9), none] [] h Q := by
  have key : ∀ (n : Nat) (v4 : Int) (v6 : Int) (v8 : Int) (v9 : Int) (h : ah_T), hb s h → I v4 v6 v8 v9 h → μ v4 v6 v8 v9 h < n → aw G (rm_R 3 0 0) m_MD_isFirstTime 0 0 63 [some (av_R (some 170)), some (av_I a1), none, some (av_I a3), some (av_L v4), none, some (av_L v6), none, some (av_I v8), some (av_I v9), none] [] h Q := by
    intro n
    induction n with
    | zero => intro v4 v6 v8 v9 h  hb0 hi hm; omega
    | succ n ih => intro v4 v6 v8 v9 h  hb0 hi hm; exact b_MD_isFirstTime_63  hX54 (fun v4' v6' v8' v9' h'  hb' hx => ih v4' v6' v8' v9' h'  hb' hx.1 (by have := hx.2; omega))  hb0 (hI v4 v6 v8 v9 h  hb0 hi)
  exact fun v4 v6 v8 v9 h  hb0 hi => key _ v4 v6 v8 v9 h  hb0 hi (Nat.lt_succ_self _)
def B_MD_isFirstTime_54 (G : cx_T) (s : Nat) (a1 : Int) (a2 : Int) (a3 : Int) (v4 : Int) (v6 : Int) (v8 : Int) (h : ah_T) (Q : Option av_T → ah_T → Prop) (X63 : Int → Int → Int → Int → ah_T → Prop) : Prop :=
 ((a1 ≤ v8 → Q (some (av_I 1)) h) ∧ (¬ a1 ≤ v8 → X63 (v4) (v6) (v8) (0) h))
theorem b_MD_isFirstTime_54 {G : cx_T} {s : Nat} {a1 : Int} {a2 : Int} {a3 : Int} {v4 : Int} {v6 : Int} {v8 : Int} {h : ah_T} {Q : Option av_T → ah_T → Prop} {X63 : Int → Int → Int → Int → ah_T → Prop} (hX63 : ∀ (v4 : Int) (v6 : Int) (v8 : Int) (v9 : Int) (h : ah_T), hb s h → X63 v4 v6 v8 v9 h → aw G (rm_R 3 0 0) m_MD_isFirstTime 0 0 63 [some (av_R (some 170)), some (av_I a1), none, some (av_I a3), some (av_L v4), none, some (av_L v6), none, some (av_I v8), some (av_I v9), none] [] h Q) (hb0 : hb s h) (H : B_MD_isFirstTime_54 G s a1 a2 a3 v4 v6 v8 h Q X63) : aw G (rm_R 3 0 0) m_MD_isFirstTime 0 0 54 [some (av_R (some 170)), some (av_I a1), none, some (av_I a3), some (av_L v4), none, some (av_L v6), none, some (av_I v8), none, none] [] h Q := by
  unfold B_MD_isFirstTime_54 at H
  have hS : isS s := hb0.2.1
  refine A_iload d_MD_isFirstTime_54 rfl ?_
  refine A_iload_n 1 d_MD_isFirstTime_56 rfl rfl ?_
  refine A_icmp_ge (tgt := 177) d_MD_isFirstTime_57 (by decide) (fun c => ?_) (fun c => ?_)
  · replace H := H.1 c
    refine A_iconst d_MD_isFirstTime_177 rfl ?_
    exact A_zret d_MD_isFirstTime_178 (by decide) rfl (by decide) H
  · replace H := H.2 c
    refine A_iconst d_MD_isFirstTime_60 rfl ?_
    refine A_istore (L' := [some (av_R (some 170)), some (av_I a1), none, some (av_I a3), some (av_L v4), none, some (av_L v6), none, some (av_I v8), some (av_I 0), none]) d_MD_isFirstTime_61 (Nat.le_of_ble_eq_true rfl) rfl ?_
    refine A_pc (pc' := 63) rfl ?_
    exact hX63 (v4) (v6) (v8) (0) h  hb0 H
theorem lp_MD_isFirstTime_54 {G : cx_T} {s : Nat} {a1 : Int} {a2 : Int} {a3 : Int} {Q : Option av_T → ah_T → Prop} {X63 : Int → Int → Int → Int → ah_T → Prop} (hX63 : ∀ (v4 : Int) (v6 : Int) (v8 : Int) (v9 : Int) (h : ah_T), hb s h → X63 v4 v6 v8 v9 h → aw G (rm_R 3 0 0) m_MD_isFirstTime 0 0 63 [some (av_R (some 170)), some (av_I a1), none, some (av_I a3), some (av_L v4), none, some (av_L v6), none, some (av_I v8), some (av_I v9), none] [] h Q) (I : Int → Int → Int → ah_T → Prop) (μ : Int → Int → Int → ah_T → Nat) (hI : ∀ (v4 : Int) (v6 : Int) (v8 : Int) (h : ah_T), hb s h → I v4 v6 v8 h → B_MD_isFirstTime_54 G s a1 a2 a3 v4 v6 v8 h Q X63) : ∀ (v4 : Int) (v6 : Int) (v8 : Int) (h : ah_T), hb s h → I v4 v6 v8 h → aw G (rm_R 3 0 0) m_MD_isFirstTime 0 0 54 [some (av_R (some 170)), some (av_I a1), none, some (av_I a3), some (av_L v4), none, some (av_L v6), none, some (av_I v8), none, none] [] h Q := by
  have key : ∀ (n : Nat) (v4 : Int) (v6 : Int) (v8 : Int) (h : ah_T), hb s h → I v4 v6 v8 h → μ v4 v6 v8 h < n → aw G (rm_R 3 0 0) m_MD_isFirstTime 0 0 54 [some (av_R (some 170)), some (av_I a1), none, some (av_I a3), some (av_L v4), none, some (av_L v6), none, some (av_I v8), none, none] [] h Q := by
    intro n
    induction n with
    | zero => intro v4 v6 v8 h  hb0 hi hm; omega
    | succ n ih => intro v4 v6 v8 h  hb0 hi hm; exact b_MD_isFirstTime_54  hX63  hb0 (hI v4 v6 v8 h  hb0 hi)
  exact fun v4 v6 v8 h  hb0 hi => key _ v4 v6 v8 h  hb0 hi (Nat.lt_succ_self _)
def B_MD_isFirstTime_0 (G : cx_T) (s : Nat) (a1 : Int) (a2 : Int) (a3 : Int) (h : ah_T) (Q : Option av_T → ah_T → Prop) (X54 : Int → Int → Int → ah_T → Prop) : Prop :=
 (0 ≤ a2 ∧ a2 < 2400) ∧ ∀ x2 : Int, x2 = h.2.2.1 187 (a2).toNat → -9223372036854775808 ≤ x2 → x2 ≤ 9223372036854775807 → ∀ x5 : Int, x5 = h.2.2.1 188 (a2).toNat → -9223372036854775808 ≤ x5 → x5 ≤ 9223372036854775807 → ((-2147483648) ≤ (102 * a1) ∧ (102 * a1) ≤ 2147483647) ∧ ((-2147483648) ≤ (102 * a1 + a3) ∧ (102 * a1 + a3) ≤ 2147483647) ∧ (0 ≤ (102 * a1 + a3) ∧ (102 * a1 + a3) < 816) ∧ ∀ x9 : Int, x9 = h.2.2.1 199 ((102 * a1 + a3)).toNat → -9223372036854775808 ≤ x9 → x9 ≤ 9223372036854775807 → ((-9223372036854775808) ≤ (-x9) ∧ (-x9) ≤ 9223372036854775807) ∧ ∀ x13 : Int, x13 = h.2.2.1 200 ((102 * a1 + a3)).toNat → -9223372036854775808 ≤ x13 → x13 ≤ 9223372036854775807 → con G 2 0 0 m_MD_sum [av_R (some 170), av_L x2, av_L x5, av_L (-x9), av_L x13] h (fun r h14 => r = none ∧ hb s h14 ∧ ∀ x17 : Int, x17 = h14.2.2.1 170 65 → -9223372036854775808 ≤ x17 → x17 ≤ 9223372036854775807 → ∀ x18 : Int, x18 = h14.2.2.1 170 66 → -9223372036854775808 ≤ x18 → x18 ≤ 9223372036854775807 → X54 (x17) (x18) (0) h14)
theorem b_MD_isFirstTime_0 {G : cx_T} {s : Nat} {a1 : Int} {a2 : Int} {a3 : Int} {h : ah_T} {Q : Option av_T → ah_T → Prop} {X54 : Int → Int → Int → ah_T → Prop} (hX54 : ∀ (v4 : Int) (v6 : Int) (v8 : Int) (h : ah_T), hb s h → X54 v4 v6 v8 h → aw G (rm_R 3 0 0) m_MD_isFirstTime 0 0 54 [some (av_R (some 170)), some (av_I a1), none, some (av_I a3), some (av_L v4), none, some (av_L v6), none, some (av_I v8), none, none] [] h Q) (hb0 : hb s h) (H : B_MD_isFirstTime_0 G s a1 a2 a3 h Q X54) : aw G (rm_R 3 0 0) m_MD_isFirstTime 0 0 0 [some (av_R (some 170)), some (av_I a1), some (av_I a2), some (av_I a3), none, none, none, none, none, none, none] [] h Q := by
  unfold B_MD_isFirstTime_0 at H
  have hS : isS s := hb0.2.1
  refine A_aload_n 0 d_MD_isFirstTime_0 rfl rfl ?_
  refine A_aload_n 0 d_MD_isFirstTime_1 rfl rfl ?_
  refine A_getAv (z := some 187) T_ok d_MD_isFirstTime_2 f_MD_63 (hb_s hb0 sf_170) (hb_m hb0 rfm_29) ?_
  refine A_iload_n 2 d_MD_isFirstTime_5 rfl rfl ?_
  have g3 := H.1
  replace H := H.2
  refine A_laloadf d_MD_isFirstTime_6 (hb_s hb0 sf_187) g3.1 g3.2 (fun x2 ex2 lx2 ux2 => ?_)
  replace H := H x2 ex2 lx2 ux2
  refine A_pc (pc' := 7) rfl ?_
  refine A_aload_n 0 d_MD_isFirstTime_7 rfl rfl ?_
  refine A_getAv (z := some 188) T_ok d_MD_isFirstTime_8 f_MD_66 (hb_s hb0 sf_170) (hb_m hb0 rfm_30) ?_
  refine A_iload_n 2 d_MD_isFirstTime_11 rfl rfl ?_
  refine A_laloadf d_MD_isFirstTime_12 (hb_s hb0 sf_188) g3.1 g3.2 (fun x5 ex5 lx5 ux5 => ?_)
  replace H := H x5 ex5 lx5 ux5
  refine A_aload_n 0 d_MD_isFirstTime_13 rfl rfl ?_
  refine A_getAv (z := some 199) T_ok d_MD_isFirstTime_14 f_MD_100 (hb_s hb0 sf_170) (hb_m hb0 rfm_41) ?_
  refine A_pc (pc' := 17) rfl ?_
  refine A_bipush d_MD_isFirstTime_17 rfl ?_
  refine A_iload_n 1 d_MD_isFirstTime_19 rfl rfl ?_
  have g7 := H.1
  replace H := H.2
  refine A_imulv (z := (102 * a1)) d_MD_isFirstTime_20 (w32_to (by omega) (by unfold i32; omega)) ?_
  refine A_iload_n 3 d_MD_isFirstTime_21 rfl rfl ?_
  have g8 := H.1
  replace H := H.2
  refine A_iaddv (z := (102 * a1 + a3)) d_MD_isFirstTime_22 (w32_to (by omega) (by unfold i32; omega)) ?_
  have g10 := H.1
  replace H := H.2
  refine A_laloadf d_MD_isFirstTime_23 (hb_s hb0 sf_199) g10.1 g10.2 (fun x9 ex9 lx9 ux9 => ?_)
  replace H := H x9 ex9 lx9 ux9
  refine A_pc (pc' := 24) rfl ?_
  have g11 := H.1
  replace H := H.2
  refine A_lnegv (z := (-x9)) d_MD_isFirstTime_24 (w64_to (by omega) (by unfold i64; omega)) ?_
  refine A_aload_n 0 d_MD_isFirstTime_25 rfl rfl ?_
  refine A_getAv (z := some 200) T_ok d_MD_isFirstTime_26 f_MD_103 (hb_s hb0 sf_170) (hb_m hb0 rfm_42) ?_
  refine A_bipush d_MD_isFirstTime_29 rfl ?_
  refine A_iload_n 1 d_MD_isFirstTime_31 rfl rfl ?_
  refine A_imulv (z := (102 * a1)) d_MD_isFirstTime_32 (w32_to (by omega) (by unfold i32; omega)) ?_
  refine A_pc (pc' := 33) rfl ?_
  refine A_iload_n 3 d_MD_isFirstTime_33 rfl rfl ?_
  refine A_iaddv (z := (102 * a1 + a3)) d_MD_isFirstTime_34 (w32_to (by omega) (by unfold i32; omega)) ?_
  refine A_laloadf d_MD_isFirstTime_35 (hb_s hb0 sf_200) g10.1 g10.2 (fun x13 ex13 lx13 ux13 => ?_)
  replace H := H x13 ex13 lx13 ux13
  refine A_callV4 m_MD_sum T_ok d_MD_isFirstTime_36 l_MD_458 k_MD_sum (hb_s hb0 sf_170) rfl (by decide +kernel) (by decide) (Nat.le_of_ble_eq_true rfl) H (fun r h14 hq => ?_)
  clear H
  obtain ⟨rfl, hb15, H⟩ := hq
  refine A_aload_n 0 d_MD_isFirstTime_39 rfl rfl ?_
  refine A_getLf T_ok d_MD_isFirstTime_40 f_MD_385 (hb_s hb15 sf_170) (fun x17 ex17 lx17 ux17 => ?_)
  replace H := H x17 ex17 lx17 ux17
  refine A_lstore (L' := [some (av_R (some 170)), some (av_I a1), some (av_I a2), some (av_I a3), some (av_L x17), none, none, none, none, none, none]) d_MD_isFirstTime_43 (Nat.le_of_ble_eq_true rfl) rfl ?_
  refine A_aload_n 0 d_MD_isFirstTime_45 rfl rfl ?_
  refine A_getLf T_ok d_MD_isFirstTime_46 f_MD_388 (hb_s hb15 sf_170) (fun x18 ex18 lx18 ux18 => ?_)
  replace H := H x18 ex18 lx18 ux18
  refine A_pc (pc' := 49) rfl ?_
  refine A_lstore (L' := [some (av_R (some 170)), some (av_I a1), some (av_I a2), some (av_I a3), some (av_L x17), none, some (av_L x18), none, none, none, none]) d_MD_isFirstTime_49 (Nat.le_of_ble_eq_true rfl) rfl ?_
  refine A_iconst d_MD_isFirstTime_51 rfl ?_
  refine A_istore (L' := [some (av_R (some 170)), some (av_I a1), some (av_I a2), some (av_I a3), some (av_L x17), none, some (av_L x18), none, some (av_I 0), none, none]) d_MD_isFirstTime_52 (Nat.le_of_ble_eq_true rfl) rfl ?_
  refine A_pc (pc' := 54) rfl ?_
  refine A_free (L' := [some (av_R (some 170)), some (av_I a1), none, some (av_I a3), some (av_L x17), none, some (av_L x18), none, some (av_I 0), none, none]) (And.intro rfl (And.intro rfl (And.intro rfl (And.intro rfl (And.intro rfl (And.intro rfl trivial)))))) ?_
  exact hX54 (x17) (x18) (0) h14  hb15 H
theorem c_MD_isFirstTime {G : cx_T} {s : Nat} {a1 : Int} {a2 : Int} {a3 : Int} {h : ah_T} {Q : Option av_T → ah_T → Prop} {X54 : Int → Int → Int → ah_T → Prop} (hX54 : ∀ (v4 : Int) (v6 : Int) (v8 : Int) (h : ah_T), hb s h → X54 v4 v6 v8 h → aw G (rm_R 3 0 0) m_MD_isFirstTime 0 0 54 [some (av_R (some 170)), some (av_I a1), none, some (av_I a3), some (av_L v4), none, some (av_L v6), none, some (av_I v8), none, none] [] h Q) (hb0 : hb s h) (H : i32 a1 → i32 a2 → i32 a3 → B_MD_isFirstTime_0 G s a1 a2 a3 h Q X54) : con G 3 0 0 m_MD_isFirstTime [av_R (some 170), av_I a1, av_I a2, av_I a3] h Q := by
  have hS : isS s := hb0.2.1
  refine con_of (L := [some (av_R (some 170)), some (av_I a1), some (av_I a2), some (av_I a3), none, none, none, none, none, none, none]) (by decide +kernel) (Nat.le_of_ble_eq_true rfl) rfl ?_
  refine A_locI 1 rfl (fun ra1 => ?_)
  refine A_locI 2 rfl (fun ra2 => ?_)
  refine A_locI 3 rfl (fun ra3 => ?_)
  exact b_MD_isFirstTime_0  hX54 hb0 (H ra1 ra2 ra3)
def B_MD_width_102 (G : cx_T) (s : Nat) (a1 : Int) (v2 : Int) (v3 : Int) (v4 : Int) (v5 : Int) (h : ah_T) (Q : Option av_T → ah_T → Prop) (X35 : Int → Int → Int → Int → ah_T → Prop) : Prop :=
 ((-2147483648) ≤ (v5 + 1) ∧ (v5 + 1) ≤ 2147483647) ∧ X35 (v2) (v3) (v4) ((v5 + 1)) h
theorem b_MD_width_102 {G : cx_T} {s : Nat} {a1 : Int} {v2 : Int} {v3 : Int} {v4 : Int} {v5 : Int} {h : ah_T} {Q : Option av_T → ah_T → Prop} {X35 : Int → Int → Int → Int → ah_T → Prop} (hX35 : ∀ (v2 : Int) (v3 : Int) (v4 : Int) (v5 : Int) (h : ah_T), hb s h → X35 v2 v3 v4 v5 h → aw G (rm_R 4 0 0) m_MD_width 0 0 35 [some (av_R (some 170)), some (av_I a1), some (av_I v2), some (av_I v3), some (av_I v4), some (av_I v5), none] [] h Q) (hb0 : hb s h) (H : B_MD_width_102 G s a1 v2 v3 v4 v5 h Q X35) : aw G (rm_R 4 0 0) m_MD_width 0 0 102 [some (av_R (some 170)), some (av_I a1), some (av_I v2), some (av_I v3), some (av_I v4), some (av_I v5), none] [] h Q := by
  unfold B_MD_width_102 at H
  have hS : isS s := hb0.2.1
  have g1 := H.1
  replace H := H.2
  refine A_iincv (z := (v5 + 1)) (L' := [some (av_R (some 170)), some (av_I a1), some (av_I v2), some (av_I v3), some (av_I v4), some (av_I (v5 + 1)), none]) d_MD_width_102 rfl (w32_to (by omega) (by unfold i32; omega)) rfl ?_
  refine A_goto (tgt := 35) d_MD_width_105 (by decide) ?_
  refine A_pc (pc' := 35) rfl ?_
  exact hX35 (v2) (v3) (v4) ((v5 + 1)) h  hb0 H
def B_MD_width_100 (G : cx_T) (s : Nat) (a1 : Int) (v3 : Int) (v4 : Int) (v5 : Int) (t0 : Int) (t1 : Int) (h : ah_T) (Q : Option av_T → ah_T → Prop) (X35 : Int → Int → Int → Int → ah_T → Prop) : Prop :=
 ((-2147483648) ≤ (t0 + t1) ∧ (t0 + t1) ≤ 2147483647) ∧ B_MD_width_102 G s a1 ((t0 + t1)) (v3) (v4) (v5) h Q X35
theorem b_MD_width_100 {G : cx_T} {s : Nat} {a1 : Int} {v3 : Int} {v4 : Int} {v5 : Int} {t0 : Int} {t1 : Int} {h : ah_T} {Q : Option av_T → ah_T → Prop} {X35 : Int → Int → Int → Int → ah_T → Prop} (hX35 : ∀ (v2 : Int) (v3 : Int) (v4 : Int) (v5 : Int) (h : ah_T), hb s h → X35 v2 v3 v4 v5 h → aw G (rm_R 4 0 0) m_MD_width 0 0 35 [some (av_R (some 170)), some (av_I a1), some (av_I v2), some (av_I v3), some (av_I v4), some (av_I v5), none] [] h Q) (hb0 : hb s h) (H : B_MD_width_100 G s a1 v3 v4 v5 t0 t1 h Q X35) : aw G (rm_R 4 0 0) m_MD_width 0 0 100 [some (av_R (some 170)), some (av_I a1), none, some (av_I v3), some (av_I v4), some (av_I v5), none] [av_I t1, av_I t0] h Q := by
  unfold B_MD_width_100 at H
  have hS : isS s := hb0.2.1
  have g1 := H.1
  replace H := H.2
  refine A_iaddv (z := (t0 + t1)) d_MD_width_100 (w32_to (by omega) (by unfold i32; omega)) ?_
  refine A_istore_n 2 (L' := [some (av_R (some 170)), some (av_I a1), some (av_I (t0 + t1)), some (av_I v3), some (av_I v4), some (av_I v5), none]) d_MD_width_101 rfl (Nat.le_of_ble_eq_true rfl) rfl ?_
  refine A_pc (pc' := 102) rfl ?_
  exact b_MD_width_102  hX35  hb0 H
def B_MD_width_35 (G : cx_T) (s : Nat) (a1 : Int) (v2 : Int) (v3 : Int) (v4 : Int) (v5 : Int) (h : ah_T) (Q : Option av_T → ah_T → Prop) (X21 : Int → Int → Int → ah_T → Prop) (X35 : Int → Int → Int → Int → ah_T → Prop) : Prop :=
 (0 ≤ v4 ∧ v4 < 8) ∧ ∀ x2 : Int, x2 = h.2.1 185 (v4).toNat → -2147483648 ≤ x2 → x2 ≤ 2147483647 → ((x2 ≤ v5 → ((-2147483648) ≤ (v4 + 1) ∧ (v4 + 1) ≤ 2147483647) ∧ X21 (v2) (v3) ((v4 + 1)) h) ∧ (¬ x2 ≤ v5 → ((-2147483648) ≤ (300 * v4) ∧ (300 * v4) ≤ 2147483647) ∧ ((-2147483648) ≤ (300 * v4 + v5) ∧ (300 * v4 + v5) ≤ 2147483647) ∧ (0 ≤ (300 * v4 + v5) ∧ (300 * v4 + v5) < 2400) ∧ ∀ x8 : Int, x8 = h.2.1 196 ((300 * v4 + v5)).toNat → -2147483648 ≤ x8 → x8 ≤ 2147483647 → ((x8 = a1 → ∀ x11 : Int, x11 = h.2.1 194 ((300 * v4 + v5)).toNat → -2147483648 ≤ x11 → x11 ≤ 2147483647 → ((-2147483648) ≤ (v3 + x11) ∧ (v3 + x11) ≤ 2147483647) ∧ con G 3 0 0 m_MD_isFirstTime [av_R (some 170), av_I v4, av_I (300 * v4 + v5), av_I a1] h (fun r h13 => ∃ z15 : Int, r = some (av_I z15) ∧ hb s h13 ∧ ((z15 = 0 → B_MD_width_100 G s a1 ((v3 + x11)) (v4) (v5) (v2) (0) h13 Q X35) ∧ (¬ z15 = 0 → B_MD_width_100 G s a1 ((v3 + x11)) (v4) (v5) (v2) (1) h13 Q X35)))) ∧ (¬ x8 = a1 → B_MD_width_102 G s a1 (v2) (v3) (v4) (v5) h Q X35))))
theorem b_MD_width_35 {G : cx_T} {s : Nat} {a1 : Int} {v2 : Int} {v3 : Int} {v4 : Int} {v5 : Int} {h : ah_T} {Q : Option av_T → ah_T → Prop} {X21 : Int → Int → Int → ah_T → Prop} {X35 : Int → Int → Int → Int → ah_T → Prop} (hX21 : ∀ (v2 : Int) (v3 : Int) (v4 : Int) (h : ah_T), hb s h → X21 v2 v3 v4 h → aw G (rm_R 4 0 0) m_MD_width 0 0 21 [some (av_R (some 170)), some (av_I a1), some (av_I v2), some (av_I v3), some (av_I v4), none, none] [] h Q) (hX35 : ∀ (v2 : Int) (v3 : Int) (v4 : Int) (v5 : Int) (h : ah_T), hb s h → X35 v2 v3 v4 v5 h → aw G (rm_R 4 0 0) m_MD_width 0 0 35 [some (av_R (some 170)), some (av_I a1), some (av_I v2), some (av_I v3), some (av_I v4), some (av_I v5), none] [] h Q) (hb0 : hb s h) (H : B_MD_width_35 G s a1 v2 v3 v4 v5 h Q X21 X35) : aw G (rm_R 4 0 0) m_MD_width 0 0 35 [some (av_R (some 170)), some (av_I a1), some (av_I v2), some (av_I v3), some (av_I v4), some (av_I v5), none] [] h Q := by
  unfold B_MD_width_35 at H
  have hS : isS s := hb0.2.1
  refine A_iload d_MD_width_35 rfl ?_
  refine A_aload_n 0 d_MD_width_37 rfl rfl ?_
  refine A_getAv (z := some 185) T_ok d_MD_width_38 f_MD_57 (hb_s hb0 sf_170) (hb_m hb0 rfm_27) ?_
  refine A_iload d_MD_width_41 rfl ?_
  have g3 := H.1
  replace H := H.2
  refine A_ialoadf d_MD_width_43 (hb_s hb0 sf_185) g3.1 g3.2 (fun x2 ex2 lx2 ux2 => ?_)
  replace H := H x2 ex2 lx2 ux2
  refine A_pc (pc' := 44) rfl ?_
  refine A_icmp_ge (tgt := 108) d_MD_width_44 (by decide) (fun c => ?_) (fun c => ?_)
  · replace H := H.1 c
    have g4 := H.1
    replace H := H.2
    refine A_iincv (z := (v4 + 1)) (L' := [some (av_R (some 170)), some (av_I a1), some (av_I v2), some (av_I v3), some (av_I (v4 + 1)), some (av_I v5), none]) d_MD_width_108 rfl (w32_to (by omega) (by unfold i32; omega)) rfl ?_
    refine A_goto (tgt := 21) d_MD_width_111 (by decide) ?_
    refine A_pc (pc' := 21) rfl ?_
    refine A_free (L' := [some (av_R (some 170)), some (av_I a1), some (av_I v2), some (av_I v3), some (av_I (v4 + 1)), none, none]) (And.intro rfl (And.intro rfl (And.intro rfl (And.intro rfl (And.intro rfl trivial))))) ?_
    exact hX21 (v2) (v3) ((v4 + 1)) h  hb0 H
  · replace H := H.2 c
    refine A_sipush d_MD_width_47 rfl ?_
    refine A_iload d_MD_width_50 rfl ?_
    have g5 := H.1
    replace H := H.2
    refine A_imulv (z := (300 * v4)) d_MD_width_52 (w32_to (by omega) (by unfold i32; omega)) ?_
    refine A_iload d_MD_width_53 rfl ?_
    have g6 := H.1
    replace H := H.2
    refine A_iaddv (z := (300 * v4 + v5)) d_MD_width_55 (w32_to (by omega) (by unfold i32; omega)) ?_
    refine A_pc (pc' := 56) rfl ?_
    refine A_istore (L' := [some (av_R (some 170)), some (av_I a1), some (av_I v2), some (av_I v3), some (av_I v4), some (av_I v5), some (av_I (300 * v4 + v5))]) d_MD_width_56 (Nat.le_of_ble_eq_true rfl) rfl ?_
    refine A_aload_n 0 d_MD_width_58 rfl rfl ?_
    refine A_getAv (z := some 196) T_ok d_MD_width_59 f_MD_91 (hb_s hb0 sf_170) (hb_m hb0 rfm_38) ?_
    refine A_iload d_MD_width_62 rfl ?_
    have g9 := H.1
    replace H := H.2
    refine A_ialoadf d_MD_width_64 (hb_s hb0 sf_196) g9.1 g9.2 (fun x8 ex8 lx8 ux8 => ?_)
    replace H := H x8 ex8 lx8 ux8
    refine A_iload_n 1 d_MD_width_65 rfl rfl ?_
    refine A_pc (pc' := 66) rfl ?_
    refine A_icmp_eq (tgt := 72) d_MD_width_66 (by decide) (fun c => ?_) (fun c => ?_)
    · replace H := H.1 c
      refine A_iload_n 3 d_MD_width_72 rfl rfl ?_
      refine A_aload_n 0 d_MD_width_73 rfl rfl ?_
      refine A_getAv (z := some 194) T_ok d_MD_width_74 f_MD_84 (hb_s hb0 sf_170) (hb_m hb0 rfm_36) ?_
      refine A_iload d_MD_width_77 rfl ?_
      refine A_ialoadf d_MD_width_79 (hb_s hb0 sf_194) g9.1 g9.2 (fun x11 ex11 lx11 ux11 => ?_)
      replace H := H x11 ex11 lx11 ux11
      refine A_pc (pc' := 80) rfl ?_
      have g12 := H.1
      replace H := H.2
      refine A_iaddv (z := (v3 + x11)) d_MD_width_80 (w32_to (by omega) (by unfold i32; omega)) ?_
      refine A_istore_n 3 (L' := [some (av_R (some 170)), some (av_I a1), some (av_I v2), some (av_I (v3 + x11)), some (av_I v4), some (av_I v5), some (av_I (300 * v4 + v5))]) d_MD_width_81 rfl (Nat.le_of_ble_eq_true rfl) rfl ?_
      refine A_iload_n 2 d_MD_width_82 rfl rfl ?_
      refine A_aload_n 0 d_MD_width_83 rfl rfl ?_
      refine A_iload d_MD_width_84 rfl ?_
      refine A_iload d_MD_width_86 rfl ?_
      refine A_pc (pc' := 88) rfl ?_
      refine A_iload_n 1 d_MD_width_88 rfl rfl ?_
      refine A_callV3 m_MD_isFirstTime T_ok d_MD_width_89 l_MD_548 k_MD_isFirstTime (hb_s hb0 sf_170) rfl (by decide +kernel) (by decide) (Nat.le_of_ble_eq_true rfl) H (fun r h13 hq => ?_)
      clear H
      obtain ⟨z15, rfl, hb14, H⟩ := hq
      refine A_if_eq (tgt := 99) d_MD_width_92 (by decide) (fun c => ?_) (fun c => ?_)
      · replace H := H.1 c
        refine A_iconst d_MD_width_99 rfl ?_
        refine A_pc (pc' := 100) rfl ?_
        refine A_free (L' := [some (av_R (some 170)), some (av_I a1), none, some (av_I (v3 + x11)), some (av_I v4), some (av_I v5), none]) (And.intro rfl (And.intro rfl (And.intro rfl (And.intro rfl (And.intro rfl trivial))))) ?_
        exact b_MD_width_100  hX35  hb14 H
      · replace H := H.2 c
        refine A_iconst d_MD_width_95 rfl ?_
        refine A_goto (tgt := 100) d_MD_width_96 (by decide) ?_
        refine A_pc (pc' := 100) rfl ?_
        refine A_free (L' := [some (av_R (some 170)), some (av_I a1), none, some (av_I (v3 + x11)), some (av_I v4), some (av_I v5), none]) (And.intro rfl (And.intro rfl (And.intro rfl (And.intro rfl (And.intro rfl trivial))))) ?_
        exact b_MD_width_100  hX35  hb14 H
    · replace H := H.2 c
      refine A_goto (tgt := 102) d_MD_width_69 (by decide) ?_
      refine A_pc (pc' := 102) rfl ?_
      refine A_free (L' := [some (av_R (some 170)), some (av_I a1), some (av_I v2), some (av_I v3), some (av_I v4), some (av_I v5), none]) (And.intro rfl (And.intro rfl (And.intro rfl (And.intro rfl (And.intro rfl (And.intro rfl trivial)))))) ?_
      exact b_MD_width_102  hX35  hb0 H
theorem lp_MD_width_35 {G : cx_T} {s : Nat} {a1 : Int} {Q : Option av_T → ah_T → Prop} {X21 : Int → Int → Int → ah_T → Prop} (hX21 : ∀ (v2 : Int) (v3 : Int) (v4 : Int) (h : ah_T), hb s h → X21 v2 v3 v4 h → aw G (rm_R 4 0 0) m_MD_width 0 0 21 [some (av_R (some 170)), some (av_I a1), some (av_I v2), some (av_I v3), some (av_I v4), none, none] [] h Q) (I : Int → Int → Int → Int → ah_T → Prop) (μ : Int → Int → Int → Int → ah_T → Nat) (hI : ∀ (v2 : Int) (v3 : Int) (v4 : Int) (v5 : Int) (h : ah_T), hb s h → I v2 v3 v4 v5 h → B_MD_width_35 G s a1 v2 v3 v4 v5 h Q X21 (fun v2' v3' v4' v5' h' => I v2' v3' v4' v5' h' ∧ μ v2' v3' v4' v5' h' < μ v2 v3 v4 v5 h)) : ∀ (v2 : Int) (v3 : Int) (v4 : Int) (v5 : Int) (h : ah_T), hb s h → I v2 v3 v4 v5 h → aw G (rm_R 4 0 0) m_MD_width 0 0 35 [some (av_R (some 170)), some (av_I a1), some (av_I v2), some (av_I v3), some (av_I v4), some (av_I v5), none] [] h Q := by
  have key : ∀ (n : Nat) (v2 : Int) (v3 : Int) (v4 : Int) (v5 : Int) (h : ah_T), hb s h → I v2 v3 v4 v5 h → μ v2 v3 v4 v5 h < n → aw G (rm_R 4 0 0) m_MD_width 0 0 35 [some (av_R (some 170)), some (av_I a1), some (av_I v2), some (av_I v3), some (av_I v4), some (av_I v5), none] [] h Q := by
    intro n
    induction n with
    | zero => intro v2 v3 v4 v5 h  hb0 hi hm; omega
    | succ n ih => intro v2 v3 v4 v5 h  hb0 hi hm; exact b_MD_width_35  hX21 (fun v2' v3' v4' v5' h'  hb' hx => ih v2' v3' v4' v5' h'  hb' hx.1 (by have := hx.2; omega))  hb0 (hI v2 v3 v4 v5 h  hb0 hi)
  exact fun v2 v3 v4 v5 h  hb0 hi => key _ v2 v3 v4 v5 h  hb0 hi (Nat.lt_succ_self _)
def B_MD_width_21 (G : cx_T) (s : Nat) (a1 : Int) (v2 : Int) (v3 : Int) (v4 : Int) (h : ah_T) (Q : Option av_T → ah_T → Prop) (X35 : Int → Int → Int → Int → ah_T → Prop) : Prop :=
 ∀ x2 : Int, x2 = h.2.1 172 0 → -2147483648 ≤ x2 → x2 ≤ 2147483647 → ((x2 ≤ v4 → ((-2147483648) ≤ (8 * v2) ∧ (8 * v2) ≤ 2147483647) ∧ ((-2147483648) ≤ (8 * v2 + 10) ∧ (8 * v2 + 10) ≤ 2147483647) ∧ ((-2147483648) ≤ (3 * v3) ∧ (3 * v3) ≤ 2147483647) ∧ ((-2147483648) ≤ (8 * v2 + 3 * v3 + 10) ∧ (8 * v2 + 3 * v3 + 10) ≤ 2147483647) ∧ Q (some (av_I (8 * v2 + 3 * v3 + 10))) h) ∧ (¬ x2 ≤ v4 → X35 (v2) (v3) (v4) (0) h))
theorem b_MD_width_21 {G : cx_T} {s : Nat} {a1 : Int} {v2 : Int} {v3 : Int} {v4 : Int} {h : ah_T} {Q : Option av_T → ah_T → Prop} {X35 : Int → Int → Int → Int → ah_T → Prop} (hX35 : ∀ (v2 : Int) (v3 : Int) (v4 : Int) (v5 : Int) (h : ah_T), hb s h → X35 v2 v3 v4 v5 h → aw G (rm_R 4 0 0) m_MD_width 0 0 35 [some (av_R (some 170)), some (av_I a1), some (av_I v2), some (av_I v3), some (av_I v4), some (av_I v5), none] [] h Q) (hb0 : hb s h) (H : B_MD_width_21 G s a1 v2 v3 v4 h Q X35) : aw G (rm_R 4 0 0) m_MD_width 0 0 21 [some (av_R (some 170)), some (av_I a1), some (av_I v2), some (av_I v3), some (av_I v4), none, none] [] h Q := by
  unfold B_MD_width_21 at H
  have hS : isS s := hb0.2.1
  refine A_iload d_MD_width_21 rfl ?_
  refine A_aload_n 0 d_MD_width_23 rfl rfl ?_
  refine A_getAv (z := some 172) T_ok d_MD_width_24 f_MD_17 (hb_s hb0 sf_170) (hb_m hb0 rfm_14) ?_
  refine A_iconst d_MD_width_27 rfl ?_
  refine A_ialoadf d_MD_width_28 (hb_s hb0 sf_172) (by decide) (by decide) (fun x2 ex2 lx2 ux2 => ?_)
  replace H := H x2 ex2 lx2 ux2
  refine A_pc (pc' := 29) rfl ?_
  refine A_icmp_ge (tgt := 114) d_MD_width_29 (by decide) (fun c => ?_) (fun c => ?_)
  · replace H := H.1 c
    refine A_bipush d_MD_width_114 rfl ?_
    refine A_bipush d_MD_width_116 rfl ?_
    refine A_iload_n 2 d_MD_width_118 rfl rfl ?_
    have g3 := H.1
    replace H := H.2
    refine A_imulv (z := (8 * v2)) d_MD_width_119 (w32_to (by omega) (by unfold i32; omega)) ?_
    have g4 := H.1
    replace H := H.2
    refine A_iaddv (z := (8 * v2 + 10)) d_MD_width_120 (w32_to (by omega) (by unfold i32; omega)) ?_
    refine A_pc (pc' := 121) rfl ?_
    refine A_iconst d_MD_width_121 rfl ?_
    refine A_iload_n 3 d_MD_width_122 rfl rfl ?_
    have g5 := H.1
    replace H := H.2
    refine A_imulv (z := (3 * v3)) d_MD_width_123 (w32_to (by omega) (by unfold i32; omega)) ?_
    have g6 := H.1
    replace H := H.2
    refine A_iaddv (z := (8 * v2 + 3 * v3 + 10)) d_MD_width_124 (w32_to (by omega) (by unfold i32; omega)) ?_
    exact A_iret d_MD_width_125 (by decide) rfl H
  · replace H := H.2 c
    refine A_iconst d_MD_width_32 rfl ?_
    refine A_istore (L' := [some (av_R (some 170)), some (av_I a1), some (av_I v2), some (av_I v3), some (av_I v4), some (av_I 0), none]) d_MD_width_33 (Nat.le_of_ble_eq_true rfl) rfl ?_
    refine A_pc (pc' := 35) rfl ?_
    exact hX35 (v2) (v3) (v4) (0) h  hb0 H
theorem lp_MD_width_21 {G : cx_T} {s : Nat} {a1 : Int} {Q : Option av_T → ah_T → Prop} {X35 : Int → Int → Int → Int → ah_T → Prop} (hX35 : ∀ (v2 : Int) (v3 : Int) (v4 : Int) (v5 : Int) (h : ah_T), hb s h → X35 v2 v3 v4 v5 h → aw G (rm_R 4 0 0) m_MD_width 0 0 35 [some (av_R (some 170)), some (av_I a1), some (av_I v2), some (av_I v3), some (av_I v4), some (av_I v5), none] [] h Q) (I : Int → Int → Int → ah_T → Prop) (μ : Int → Int → Int → ah_T → Nat) (hI : ∀ (v2 : Int) (v3 : Int) (v4 : Int) (h : ah_T), hb s h → I v2 v3 v4 h → B_MD_width_21 G s a1 v2 v3 v4 h Q X35) : ∀ (v2 : Int) (v3 : Int) (v4 : Int) (h : ah_T), hb s h → I v2 v3 v4 h → aw G (rm_R 4 0 0) m_MD_width 0 0 21 [some (av_R (some 170)), some (av_I a1), some (av_I v2), some (av_I v3), some (av_I v4), none, none] [] h Q := by
  have key : ∀ (n : Nat) (v2 : Int) (v3 : Int) (v4 : Int) (h : ah_T), hb s h → I v2 v3 v4 h → μ v2 v3 v4 h < n → aw G (rm_R 4 0 0) m_MD_width 0 0 21 [some (av_R (some 170)), some (av_I a1), some (av_I v2), some (av_I v3), some (av_I v4), none, none] [] h Q := by
    intro n
    induction n with
    | zero => intro v2 v3 v4 h  hb0 hi hm; omega
    | succ n ih => intro v2 v3 v4 h  hb0 hi hm; exact b_MD_width_21  hX35  hb0 (hI v2 v3 v4 h  hb0 hi)
  exact fun v2 v3 v4 h  hb0 hi => key _ v2 v3 v4 h  hb0 hi (Nat.lt_succ_self _)
def B_MD_width_12 (G : cx_T) (s : Nat) (a1 : Int) (h : ah_T) (Q : Option av_T → ah_T → Prop) : Prop :=
 Q (some (av_I (-1))) h
theorem b_MD_width_12 {G : cx_T} {s : Nat} {a1 : Int} {h : ah_T} {Q : Option av_T → ah_T → Prop} (hb0 : hb s h) (H : B_MD_width_12 G s a1 h Q ) : aw G (rm_R 4 0 0) m_MD_width 0 0 12 [none, none, none, none, none, none, none] [] h Q := by
  unfold B_MD_width_12 at H
  have hS : isS s := hb0.2.1
  refine A_iconst d_MD_width_12 rfl ?_
  exact A_iret d_MD_width_13 (by decide) rfl H
def B_MD_width_0 (G : cx_T) (s : Nat) (a1 : Int) (h : ah_T) (Q : Option av_T → ah_T → Prop) (X21 : Int → Int → Int → ah_T → Prop) : Prop :=
 ((a1 < 0 → B_MD_width_12 G s a1 h Q ) ∧ (¬ a1 < 0 → con G 0 0 0 m_MD_pageBars [av_R (some 170)] h (fun r h1 => ∃ z3 : Int, r = some (av_I z3) ∧ hb s h1 ∧ ((a1 < z3 → X21 (0) (0) (0) h1) ∧ (¬ a1 < z3 → B_MD_width_12 G s a1 h1 Q )))))
theorem b_MD_width_0 {G : cx_T} {s : Nat} {a1 : Int} {h : ah_T} {Q : Option av_T → ah_T → Prop} {X21 : Int → Int → Int → ah_T → Prop} (hX21 : ∀ (v2 : Int) (v3 : Int) (v4 : Int) (h : ah_T), hb s h → X21 v2 v3 v4 h → aw G (rm_R 4 0 0) m_MD_width 0 0 21 [some (av_R (some 170)), some (av_I a1), some (av_I v2), some (av_I v3), some (av_I v4), none, none] [] h Q) (hb0 : hb s h) (H : B_MD_width_0 G s a1 h Q X21) : aw G (rm_R 4 0 0) m_MD_width 0 0 0 [some (av_R (some 170)), some (av_I a1), none, none, none, none, none] [] h Q := by
  unfold B_MD_width_0 at H
  have hS : isS s := hb0.2.1
  refine A_iload_n 1 d_MD_width_0 rfl rfl ?_
  refine A_if_lt (tgt := 12) d_MD_width_1 (by decide) (fun c => ?_) (fun c => ?_)
  · replace H := H.1 c
    refine A_pc (pc' := 12) rfl ?_
    refine A_free (L' := [none, none, none, none, none, none, none]) trivial ?_
    exact b_MD_width_12    hb0 H
  · replace H := H.2 c
    refine A_iload_n 1 d_MD_width_4 rfl rfl ?_
    refine A_aload_n 0 d_MD_width_5 rfl rfl ?_
    refine A_callV0 m_MD_pageBars T_ok d_MD_width_6 l_MD_492 k_MD_pageBars (hb_s hb0 sf_170) rfl (by decide +kernel) (by decide) (Nat.le_of_ble_eq_true rfl) H (fun r h1 hq => ?_)
    clear H
    obtain ⟨z3, rfl, hb2, H⟩ := hq
    refine A_icmp_lt (tgt := 14) d_MD_width_9 (by decide) (fun c => ?_) (fun c => ?_)
    · replace H := H.1 c
      refine A_iconst d_MD_width_14 rfl ?_
      refine A_istore_n 2 (L' := [some (av_R (some 170)), some (av_I a1), some (av_I 0), none, none, none, none]) d_MD_width_15 rfl (Nat.le_of_ble_eq_true rfl) rfl ?_
      refine A_iconst d_MD_width_16 rfl ?_
      refine A_istore_n 3 (L' := [some (av_R (some 170)), some (av_I a1), some (av_I 0), some (av_I 0), none, none, none]) d_MD_width_17 rfl (Nat.le_of_ble_eq_true rfl) rfl ?_
      refine A_iconst d_MD_width_18 rfl ?_
      refine A_pc (pc' := 19) rfl ?_
      refine A_istore (L' := [some (av_R (some 170)), some (av_I a1), some (av_I 0), some (av_I 0), some (av_I 0), none, none]) d_MD_width_19 (Nat.le_of_ble_eq_true rfl) rfl ?_
      refine A_pc (pc' := 21) rfl ?_
      exact hX21 (0) (0) (0) h1  hb2 H
    · replace H := H.2 c
      refine A_pc (pc' := 12) rfl ?_
      refine A_free (L' := [none, none, none, none, none, none, none]) trivial ?_
      exact b_MD_width_12    hb2 H
theorem c_MD_width {G : cx_T} {s : Nat} {a1 : Int} {h : ah_T} {Q : Option av_T → ah_T → Prop} {X21 : Int → Int → Int → ah_T → Prop} (hX21 : ∀ (v2 : Int) (v3 : Int) (v4 : Int) (h : ah_T), hb s h → X21 v2 v3 v4 h → aw G (rm_R 4 0 0) m_MD_width 0 0 21 [some (av_R (some 170)), some (av_I a1), some (av_I v2), some (av_I v3), some (av_I v4), none, none] [] h Q) (hb0 : hb s h) (H : i32 a1 → B_MD_width_0 G s a1 h Q X21) : con G 4 0 0 m_MD_width [av_R (some 170), av_I a1] h Q := by
  have hS : isS s := hb0.2.1
  refine con_of (L := [some (av_R (some 170)), some (av_I a1), none, none, none, none, none]) (by decide +kernel) (Nat.le_of_ble_eq_true rfl) rfl ?_
  refine A_locI 1 rfl (fun ra1 => ?_)
  exact b_MD_width_0  hX21 hb0 (H ra1)
def B_MD_breaks_213 (G : cx_T) (s : Nat) (a1 : Int) (v2 : Int) (v3 : Int) (h : ah_T) (Q : Option av_T → ah_T → Prop) (X213 : Int → Int → ah_T → Prop) : Prop :=
 ((v2 ≤ v3 → ∀ x2 : Int, x2 = h.2.1 226 0 → -2147483648 ≤ x2 → x2 ≤ 2147483647 → Q (some (av_I x2)) h) ∧ (¬ v2 ≤ v3 → ∀ x4 : Int, x4 = h.2.1 170 89 → -2147483648 ≤ x4 → x4 ≤ 2147483647 → (0 ≤ v3 ∧ v3 < 340) ∧ ∀ x6 : Int, x6 = h.2.1 227 (v3).toNat → -2147483648 ≤ x6 → x6 ≤ 2147483647 → (0 ≤ x4 ∧ x4 < 16) ∧ ∀ h9 : ah_T, h9 = st_i h 228 (x4).toNat x6 → ((-2147483648) ≤ (x4 + 1) ∧ (x4 + 1) ≤ 2147483647) ∧ ∀ h13 : ah_T, h13 = st_i h9 170 89 (x4 + 1) → ((-2147483648) ≤ (v3 + x6) ∧ (v3 + x6) ≤ 2147483647) ∧ X213 (v2) ((v3 + x6)) h13))
theorem b_MD_breaks_213 {G : cx_T} {s : Nat} {a1 : Int} {v2 : Int} {v3 : Int} {h : ah_T} {Q : Option av_T → ah_T → Prop} {X213 : Int → Int → ah_T → Prop} (hX213 : ∀ (v2 : Int) (v3 : Int) (h : ah_T), hb s h → X213 v2 v3 h → aw G (rm_R 5 0 0) m_MD_breaks 0 0 213 [some (av_R (some 170)), none, some (av_I v2), some (av_I v3), none, none, none, none, none] [] h Q) (hb0 : hb s h) (H : B_MD_breaks_213 G s a1 v2 v3 h Q X213) : aw G (rm_R 5 0 0) m_MD_breaks 0 0 213 [some (av_R (some 170)), none, some (av_I v2), some (av_I v3), none, none, none, none, none] [] h Q := by
  unfold B_MD_breaks_213 at H
  have hS : isS s := hb0.2.1
  refine A_iload_n 3 d_MD_breaks_213 rfl rfl ?_
  refine A_iload_n 2 d_MD_breaks_214 rfl rfl ?_
  refine A_icmp_ge (tgt := 255) d_MD_breaks_215 (by decide) (fun c => ?_) (fun c => ?_)
  · replace H := H.1 c
    refine A_aload_n 0 d_MD_breaks_255 rfl rfl ?_
    refine A_getAv (z := some 226) T_ok d_MD_breaks_256 f_MD_181 (hb_s hb0 sf_170) (hb_m hb0 rfm_87) ?_
    refine A_iconst d_MD_breaks_259 rfl ?_
    refine A_ialoadf d_MD_breaks_260 (hb_s hb0 sf_226) (by decide) (by decide) (fun x2 ex2 lx2 ux2 => ?_)
    replace H := H x2 ex2 lx2 ux2
    exact A_iret d_MD_breaks_261 (by decide) rfl H
  · replace H := H.2 c
    refine A_aload_n 0 d_MD_breaks_218 rfl rfl ?_
    refine A_getAv (z := some 228) T_ok d_MD_breaks_219 f_MD_187 (hb_s hb0 sf_170) (hb_m hb0 rfm_90) ?_
    refine A_aload_n 0 d_MD_breaks_222 rfl rfl ?_
    refine A_getIf T_ok d_MD_breaks_223 f_MD_477 (hb_s hb0 sf_170) (fun x4 ex4 lx4 ux4 => ?_)
    replace H := H x4 ex4 lx4 ux4
    refine A_aload_n 0 d_MD_breaks_226 rfl rfl ?_
    refine A_pc (pc' := 227) rfl ?_
    refine A_getAv (z := some 227) T_ok d_MD_breaks_227 f_MD_184 (hb_s hb0 sf_170) (hb_m hb0 rfm_88) ?_
    refine A_iload_n 3 d_MD_breaks_230 rfl rfl ?_
    have g7 := H.1
    replace H := H.2
    refine A_ialoadf d_MD_breaks_231 (hb_s hb0 sf_227) g7.1 g7.2 (fun x6 ex6 lx6 ux6 => ?_)
    replace H := H x6 ex6 lx6 ux6
    have g8 := H.1
    replace H := H.2
    refine A_iastoreN d_MD_breaks_232 (hb_s hb0 sf_228) g8.1 g8.2 ?_
    refine A_hn (fun h9 eh9 => ?_)
    have hb10 := hb_i hb0 eh9
    replace H := H h9 eh9
    refine A_aload_n 0 d_MD_breaks_233 rfl rfl ?_
    refine A_dupR d_MD_breaks_234 ?_
    refine A_pc (pc' := 235) rfl ?_
    refine A_getIv (z := x4) T_ok d_MD_breaks_235 f_MD_477 (hb_s hb10 sf_170) ((mm_i eh9 (fun q => absurd q.1 (by decide))).trans ex4.symm) ?_
    refine A_iconst d_MD_breaks_238 rfl ?_
    have g12 := H.1
    replace H := H.2
    refine A_iaddv (z := (x4 + 1)) d_MD_breaks_239 (w32_to (by omega) (by unfold i32; omega)) ?_
    refine A_putI T_ok d_MD_breaks_240 f_MD_477 (hb_s hb10 sf_170) fin_f ?_
    refine A_hn (fun h13 eh13 => ?_)
    have hb14 := hb_i hb10 eh13
    replace H := H h13 eh13
    refine A_iload_n 3 d_MD_breaks_243 rfl rfl ?_
    refine A_aload_n 0 d_MD_breaks_244 rfl rfl ?_
    refine A_pc (pc' := 245) rfl ?_
    refine A_getAv (z := some 227) T_ok d_MD_breaks_245 f_MD_184 (hb_s hb14 sf_170) (hb_m hb14 rfm_88) ?_
    refine A_iload_n 3 d_MD_breaks_248 rfl rfl ?_
    refine A_ialoadv (z := x6) d_MD_breaks_249 (hb_s hb14 sf_227) (by omega) (by omega) ((mm_i eh13 (fun q => absurd q.1 (by decide))).trans ((mm_i eh9 (fun q => absurd q.1 (by decide))).trans ex6.symm)) ?_
    have g17 := H.1
    replace H := H.2
    refine A_iaddv (z := (v3 + x6)) d_MD_breaks_250 (w32_to (by omega) (by unfold i32; omega)) ?_
    refine A_istore_n 3 (L' := [some (av_R (some 170)), none, some (av_I v2), some (av_I (v3 + x6)), none, none, none, none, none]) d_MD_breaks_251 rfl (Nat.le_of_ble_eq_true rfl) rfl ?_
    refine A_goto (tgt := 213) d_MD_breaks_252 (by decide) ?_
    refine A_pc (pc' := 213) rfl ?_
    exact hX213 (v2) ((v3 + x6)) h13  hb14 H
theorem lp_MD_breaks_213 {G : cx_T} {s : Nat} {a1 : Int} {Q : Option av_T → ah_T → Prop} (I : Int → Int → ah_T → Prop) (μ : Int → Int → ah_T → Nat) (hI : ∀ (v2 : Int) (v3 : Int) (h : ah_T), hb s h → I v2 v3 h → B_MD_breaks_213 G s a1 v2 v3 h Q (fun v2' v3' h' => I v2' v3' h' ∧ μ v2' v3' h' < μ v2 v3 h)) : ∀ (v2 : Int) (v3 : Int) (h : ah_T), hb s h → I v2 v3 h → aw G (rm_R 5 0 0) m_MD_breaks 0 0 213 [some (av_R (some 170)), none, some (av_I v2), some (av_I v3), none, none, none, none, none] [] h Q := by
  have key : ∀ (n : Nat) (v2 : Int) (v3 : Int) (h : ah_T), hb s h → I v2 v3 h → μ v2 v3 h < n → aw G (rm_R 5 0 0) m_MD_breaks 0 0 213 [some (av_R (some 170)), none, some (av_I v2), some (av_I v3), none, none, none, none, none] [] h Q := by
    intro n
    induction n with
    | zero => intro v2 v3 h  hb0 hi hm; omega
    | succ n ih => intro v2 v3 h  hb0 hi hm; exact b_MD_breaks_213  (fun v2' v3' h'  hb' hx => ih v2' v3' h'  hb' hx.1 (by have := hx.2; omega))  hb0 (hI v2 v3 h  hb0 hi)
  exact fun v2 v3 h  hb0 hi => key _ v2 v3 h  hb0 hi (Nat.lt_succ_self _)
def B_MD_breaks_186 (G : cx_T) (s : Nat) (a1 : Int) (v2 : Int) (v3 : Int) (v4 : Int) (v5 : Int) (v6 : Int) (h : ah_T) (Q : Option av_T → ah_T → Prop) (X65 : Int → Int → Int → Int → Int → ah_T → Prop) : Prop :=
 ((-2147483648) ≤ (v6 + 1) ∧ (v6 + 1) ≤ 2147483647) ∧ X65 (v2) (v3) (v4) (v5) ((v6 + 1)) h
theorem b_MD_breaks_186 {G : cx_T} {s : Nat} {a1 : Int} {v2 : Int} {v3 : Int} {v4 : Int} {v5 : Int} {v6 : Int} {h : ah_T} {Q : Option av_T → ah_T → Prop} {X65 : Int → Int → Int → Int → Int → ah_T → Prop} (hX65 : ∀ (v2 : Int) (v3 : Int) (v4 : Int) (v5 : Int) (v6 : Int) (h : ah_T), hb s h → X65 v2 v3 v4 v5 v6 h → aw G (rm_R 5 0 0) m_MD_breaks 0 0 65 [some (av_R (some 170)), some (av_I a1), some (av_I v2), some (av_I v3), some (av_I v4), some (av_I v5), some (av_I v6), none, none] [] h Q) (hb0 : hb s h) (H : B_MD_breaks_186 G s a1 v2 v3 v4 v5 v6 h Q X65) : aw G (rm_R 5 0 0) m_MD_breaks 0 0 186 [some (av_R (some 170)), some (av_I a1), some (av_I v2), some (av_I v3), some (av_I v4), some (av_I v5), some (av_I v6), none, none] [] h Q := by
  unfold B_MD_breaks_186 at H
  have hS : isS s := hb0.2.1
  have g1 := H.1
  replace H := H.2
  refine A_iincv (z := (v6 + 1)) (L' := [some (av_R (some 170)), some (av_I a1), some (av_I v2), some (av_I v3), some (av_I v4), some (av_I v5), some (av_I (v6 + 1)), none, none]) d_MD_breaks_186 rfl (w32_to (by omega) (by unfold i32; omega)) rfl ?_
  refine A_goto (tgt := 65) d_MD_breaks_189 (by decide) ?_
  refine A_pc (pc' := 65) rfl ?_
  exact hX65 (v2) (v3) (v4) (v5) ((v6 + 1)) h  hb0 H
def B_MD_breaks_174 (G : cx_T) (s : Nat) (a1 : Int) (v2 : Int) (v3 : Int) (v5 : Int) (v6 : Int) (v8 : Int) (h : ah_T) (Q : Option av_T → ah_T → Prop) (X65 : Int → Int → Int → Int → Int → ah_T → Prop) : Prop :=
 (0 ≤ v3 ∧ v3 < 340) ∧ ∀ h3 : ah_T, h3 = st_i h 226 (v3).toNat v8 → B_MD_breaks_186 G s a1 (v2) (v3) (v6) (v5) (v6) h3 Q X65
theorem b_MD_breaks_174 {G : cx_T} {s : Nat} {a1 : Int} {v2 : Int} {v3 : Int} {v5 : Int} {v6 : Int} {v8 : Int} {h : ah_T} {Q : Option av_T → ah_T → Prop} {X65 : Int → Int → Int → Int → Int → ah_T → Prop} (hX65 : ∀ (v2 : Int) (v3 : Int) (v4 : Int) (v5 : Int) (v6 : Int) (h : ah_T), hb s h → X65 v2 v3 v4 v5 v6 h → aw G (rm_R 5 0 0) m_MD_breaks 0 0 65 [some (av_R (some 170)), some (av_I a1), some (av_I v2), some (av_I v3), some (av_I v4), some (av_I v5), some (av_I v6), none, none] [] h Q) (hb0 : hb s h) (H : B_MD_breaks_174 G s a1 v2 v3 v5 v6 v8 h Q X65) : aw G (rm_R 5 0 0) m_MD_breaks 0 0 174 [some (av_R (some 170)), some (av_I a1), some (av_I v2), some (av_I v3), none, some (av_I v5), some (av_I v6), none, some (av_I v8)] [] h Q := by
  unfold B_MD_breaks_174 at H
  have hS : isS s := hb0.2.1
  refine A_iload d_MD_breaks_174 rfl ?_
  refine A_istore (L' := [some (av_R (some 170)), some (av_I a1), some (av_I v2), some (av_I v3), some (av_I v6), some (av_I v5), some (av_I v6), none, some (av_I v8)]) d_MD_breaks_176 (Nat.le_of_ble_eq_true rfl) rfl ?_
  refine A_aload_n 0 d_MD_breaks_178 rfl rfl ?_
  refine A_getAv (z := some 226) T_ok d_MD_breaks_179 f_MD_181 (hb_s hb0 sf_170) (hb_m hb0 rfm_87) ?_
  refine A_iload_n 3 d_MD_breaks_182 rfl rfl ?_
  refine A_pc (pc' := 183) rfl ?_
  refine A_iload d_MD_breaks_183 rfl ?_
  have g2 := H.1
  replace H := H.2
  refine A_iastoreN d_MD_breaks_185 (hb_s hb0 sf_226) g2.1 g2.2 ?_
  refine A_hn (fun h3 eh3 => ?_)
  have hb4 := hb_i hb0 eh3
  replace H := H h3 eh3
  refine A_pc (pc' := 186) rfl ?_
  refine A_free (L' := [some (av_R (some 170)), some (av_I a1), some (av_I v2), some (av_I v3), some (av_I v6), some (av_I v5), some (av_I v6), none, none]) (And.intro rfl (And.intro rfl (And.intro rfl (And.intro rfl (And.intro rfl (And.intro rfl (And.intro rfl trivial))))))) ?_
  exact b_MD_breaks_186  hX65  hb4 H
def B_MD_breaks_142 (G : cx_T) (s : Nat) (a1 : Int) (v2 : Int) (v3 : Int) (v4 : Int) (v5 : Int) (v6 : Int) (t0 : Int) (h : ah_T) (Q : Option av_T → ah_T → Prop) (X65 : Int → Int → Int → Int → Int → ah_T → Prop) : Prop :=
 ((-2147483648) ≤ (v3 + v6) ∧ (v3 + v6) ≤ 2147483647) ∧ (0 ≤ (v3 + v6) ∧ (v3 + v6) < 340) ∧ ∀ x3 : Int, x3 = h.2.1 226 ((v3 + v6)).toNat → -2147483648 ≤ x3 → x3 ≤ 2147483647 → ((-2147483648) ≤ (t0 + x3) ∧ (t0 + x3) ≤ 2147483647) ∧ ((v4 < 0 → B_MD_breaks_174 G s a1 (v2) (v3) (v5) (v6) ((t0 + x3)) h Q X65) ∧ (¬ v4 < 0 → (0 ≤ v3 ∧ v3 < 340) ∧ ∀ x7 : Int, x7 = h.2.1 226 (v3).toNat → -2147483648 ≤ x7 → x7 ≤ 2147483647 → ((x7 < (t0 + x3) → B_MD_breaks_186 G s a1 (v2) (v3) (v4) (v5) (v6) h Q X65) ∧ (¬ x7 < (t0 + x3) → B_MD_breaks_174 G s a1 (v2) (v3) (v5) (v6) ((t0 + x3)) h Q X65))))
theorem b_MD_breaks_142 {G : cx_T} {s : Nat} {a1 : Int} {v2 : Int} {v3 : Int} {v4 : Int} {v5 : Int} {v6 : Int} {t0 : Int} {h : ah_T} {Q : Option av_T → ah_T → Prop} {X65 : Int → Int → Int → Int → Int → ah_T → Prop} (hX65 : ∀ (v2 : Int) (v3 : Int) (v4 : Int) (v5 : Int) (v6 : Int) (h : ah_T), hb s h → X65 v2 v3 v4 v5 v6 h → aw G (rm_R 5 0 0) m_MD_breaks 0 0 65 [some (av_R (some 170)), some (av_I a1), some (av_I v2), some (av_I v3), some (av_I v4), some (av_I v5), some (av_I v6), none, none] [] h Q) (hb0 : hb s h) (H : B_MD_breaks_142 G s a1 v2 v3 v4 v5 v6 t0 h Q X65) : aw G (rm_R 5 0 0) m_MD_breaks 0 0 142 [some (av_R (some 170)), some (av_I a1), some (av_I v2), some (av_I v3), some (av_I v4), some (av_I v5), some (av_I v6), none, none] [av_I t0] h Q := by
  unfold B_MD_breaks_142 at H
  have hS : isS s := hb0.2.1
  refine A_istore (L' := [some (av_R (some 170)), some (av_I a1), some (av_I v2), some (av_I v3), some (av_I v4), some (av_I v5), some (av_I v6), none, some (av_I t0)]) d_MD_breaks_142 (Nat.le_of_ble_eq_true rfl) rfl ?_
  refine A_iload d_MD_breaks_144 rfl ?_
  refine A_aload_n 0 d_MD_breaks_146 rfl rfl ?_
  refine A_getAv (z := some 226) T_ok d_MD_breaks_147 f_MD_181 (hb_s hb0 sf_170) (hb_m hb0 rfm_87) ?_
  refine A_iload_n 3 d_MD_breaks_150 rfl rfl ?_
  refine A_pc (pc' := 151) rfl ?_
  refine A_iload d_MD_breaks_151 rfl ?_
  have g2 := H.1
  replace H := H.2
  refine A_iaddv (z := (v3 + v6)) d_MD_breaks_153 (w32_to (by omega) (by unfold i32; omega)) ?_
  have g4 := H.1
  replace H := H.2
  refine A_ialoadf d_MD_breaks_154 (hb_s hb0 sf_226) g4.1 g4.2 (fun x3 ex3 lx3 ux3 => ?_)
  replace H := H x3 ex3 lx3 ux3
  have g5 := H.1
  replace H := H.2
  refine A_iaddv (z := (t0 + x3)) d_MD_breaks_155 (w32_to (by omega) (by unfold i32; omega)) ?_
  refine A_istore (L' := [some (av_R (some 170)), some (av_I a1), some (av_I v2), some (av_I v3), some (av_I v4), some (av_I v5), some (av_I v6), none, some (av_I (t0 + x3))]) d_MD_breaks_156 (Nat.le_of_ble_eq_true rfl) rfl ?_
  refine A_iload d_MD_breaks_158 rfl ?_
  refine A_pc (pc' := 160) rfl ?_
  refine A_if_lt (tgt := 174) d_MD_breaks_160 (by decide) (fun c => ?_) (fun c => ?_)
  · replace H := H.1 c
    refine A_pc (pc' := 174) rfl ?_
    refine A_free (L' := [some (av_R (some 170)), some (av_I a1), some (av_I v2), some (av_I v3), none, some (av_I v5), some (av_I v6), none, some (av_I (t0 + x3))]) (And.intro rfl (And.intro rfl (And.intro rfl (And.intro rfl (And.intro rfl (And.intro rfl (And.intro rfl trivial))))))) ?_
    exact b_MD_breaks_174  hX65  hb0 H
  · replace H := H.2 c
    refine A_iload d_MD_breaks_163 rfl ?_
    refine A_aload_n 0 d_MD_breaks_165 rfl rfl ?_
    refine A_getAv (z := some 226) T_ok d_MD_breaks_166 f_MD_181 (hb_s hb0 sf_170) (hb_m hb0 rfm_87) ?_
    refine A_iload_n 3 d_MD_breaks_169 rfl rfl ?_
    have g8 := H.1
    replace H := H.2
    refine A_ialoadf d_MD_breaks_170 (hb_s hb0 sf_226) g8.1 g8.2 (fun x7 ex7 lx7 ux7 => ?_)
    replace H := H x7 ex7 lx7 ux7
    refine A_pc (pc' := 171) rfl ?_
    refine A_icmp_gt (tgt := 186) d_MD_breaks_171 (by decide) (fun c => ?_) (fun c => ?_)
    · replace H := H.1 c
      refine A_pc (pc' := 186) rfl ?_
      refine A_free (L' := [some (av_R (some 170)), some (av_I a1), some (av_I v2), some (av_I v3), some (av_I v4), some (av_I v5), some (av_I v6), none, none]) (And.intro rfl (And.intro rfl (And.intro rfl (And.intro rfl (And.intro rfl (And.intro rfl (And.intro rfl trivial))))))) ?_
      exact b_MD_breaks_186  hX65  hb0 H
    · replace H := H.2 c
      refine A_pc (pc' := 174) rfl ?_
      refine A_free (L' := [some (av_R (some 170)), some (av_I a1), some (av_I v2), some (av_I v3), none, some (av_I v5), some (av_I v6), none, some (av_I (t0 + x3))]) (And.intro rfl (And.intro rfl (And.intro rfl (And.intro rfl (And.intro rfl (And.intro rfl (And.intro rfl trivial))))))) ?_
      exact b_MD_breaks_174  hX65  hb0 H
def B_MD_breaks_108 (G : cx_T) (s : Nat) (a1 : Int) (v2 : Int) (v3 : Int) (v4 : Int) (v5 : Int) (v6 : Int) (v7 : Int) (h : ah_T) (Q : Option av_T → ah_T → Prop) (X65 : Int → Int → Int → Int → Int → ah_T → Prop) : Prop :=
 ((0 ≤ v7 → ((-2147483648) ≤ (v3 + v6) ∧ (v3 + v6) ≤ 2147483647) ∧ (((v3 + v6) = v2 → B_MD_breaks_142 G s a1 (v2) (v3) (v4) (v5) (v6) (0) h Q X65) ∧ (¬ (v3 + v6) = v2 → ∀ x2 : Int, x2 = v7 * v7 → ((-2147483648) ≤ x2 ∧ x2 ≤ 2147483647) ∧ B_MD_breaks_142 G s a1 (v2) (v3) (v4) (v5) (v6) (x2) h Q X65))) ∧ (¬ 0 ≤ v7 → ∀ x4 : Int, x4 = v7 * v7 → ((-2147483648) ≤ x4 ∧ x4 ≤ 2147483647) ∧ ((-2147483648) ≤ (x4 + 10000) ∧ (x4 + 10000) ≤ 2147483647) ∧ B_MD_breaks_142 G s a1 (v2) (v3) (v4) (v5) (v6) ((x4 + 10000)) h Q X65))
theorem b_MD_breaks_108 {G : cx_T} {s : Nat} {a1 : Int} {v2 : Int} {v3 : Int} {v4 : Int} {v5 : Int} {v6 : Int} {v7 : Int} {h : ah_T} {Q : Option av_T → ah_T → Prop} {X65 : Int → Int → Int → Int → Int → ah_T → Prop} (hX65 : ∀ (v2 : Int) (v3 : Int) (v4 : Int) (v5 : Int) (v6 : Int) (h : ah_T), hb s h → X65 v2 v3 v4 v5 v6 h → aw G (rm_R 5 0 0) m_MD_breaks 0 0 65 [some (av_R (some 170)), some (av_I a1), some (av_I v2), some (av_I v3), some (av_I v4), some (av_I v5), some (av_I v6), none, none] [] h Q) (hb0 : hb s h) (H : B_MD_breaks_108 G s a1 v2 v3 v4 v5 v6 v7 h Q X65) : aw G (rm_R 5 0 0) m_MD_breaks 0 0 108 [some (av_R (some 170)), some (av_I a1), some (av_I v2), some (av_I v3), some (av_I v4), some (av_I v5), some (av_I v6), some (av_I v7), none] [] h Q := by
  unfold B_MD_breaks_108 at H
  have hS : isS s := hb0.2.1
  refine A_iload d_MD_breaks_108 rfl ?_
  refine A_if_ge (tgt := 125) d_MD_breaks_110 (by decide) (fun c => ?_) (fun c => ?_)
  · replace H := H.1 c
    refine A_iload_n 3 d_MD_breaks_125 rfl rfl ?_
    refine A_iload d_MD_breaks_126 rfl ?_
    have g1 := H.1
    replace H := H.2
    refine A_iaddv (z := (v3 + v6)) d_MD_breaks_128 (w32_to (by omega) (by unfold i32; omega)) ?_
    refine A_iload_n 2 d_MD_breaks_129 rfl rfl ?_
    refine A_icmp_ne (tgt := 137) d_MD_breaks_130 (by decide) (fun c => ?_) (fun c => ?_)
    · replace H := H.2 c
      refine A_iload d_MD_breaks_137 rfl ?_
      refine A_iload d_MD_breaks_139 rfl ?_
      obtain ⟨x2, ex2⟩ : ∃ z : Int, z = v7 * v7 := ⟨_, rfl⟩
      replace H := H x2 ex2
      have g3 := H.1
      replace H := H.2
      refine A_imulv (z := x2) d_MD_breaks_141 (w32_to ex2.symm (by unfold i32; omega)) ?_
      refine A_pc (pc' := 142) rfl ?_
      refine A_free (L' := [some (av_R (some 170)), some (av_I a1), some (av_I v2), some (av_I v3), some (av_I v4), some (av_I v5), some (av_I v6), none, none]) (And.intro rfl (And.intro rfl (And.intro rfl (And.intro rfl (And.intro rfl (And.intro rfl (And.intro rfl trivial))))))) ?_
      exact b_MD_breaks_142  hX65  hb0 H
    · replace H := H.1 c
      refine A_iconst d_MD_breaks_133 rfl ?_
      refine A_goto (tgt := 142) d_MD_breaks_134 (by decide) ?_
      refine A_pc (pc' := 142) rfl ?_
      refine A_free (L' := [some (av_R (some 170)), some (av_I a1), some (av_I v2), some (av_I v3), some (av_I v4), some (av_I v5), some (av_I v6), none, none]) (And.intro rfl (And.intro rfl (And.intro rfl (And.intro rfl (And.intro rfl (And.intro rfl (And.intro rfl trivial))))))) ?_
      exact b_MD_breaks_142  hX65  hb0 H
  · replace H := H.2 c
    refine A_sipush d_MD_breaks_113 rfl ?_
    refine A_iload d_MD_breaks_116 rfl ?_
    refine A_iload d_MD_breaks_118 rfl ?_
    obtain ⟨x4, ex4⟩ : ∃ z : Int, z = v7 * v7 := ⟨_, rfl⟩
    replace H := H x4 ex4
    have g5 := H.1
    replace H := H.2
    refine A_imulv (z := x4) d_MD_breaks_120 (w32_to ex4.symm (by unfold i32; omega)) ?_
    have g6 := H.1
    replace H := H.2
    refine A_iaddv (z := (x4 + 10000)) d_MD_breaks_121 (w32_to (by omega) (by unfold i32; omega)) ?_
    refine A_pc (pc' := 122) rfl ?_
    refine A_goto (tgt := 142) d_MD_breaks_122 (by decide) ?_
    refine A_pc (pc' := 142) rfl ?_
    refine A_free (L' := [some (av_R (some 170)), some (av_I a1), some (av_I v2), some (av_I v3), some (av_I v4), some (av_I v5), some (av_I v6), none, none]) (And.intro rfl (And.intro rfl (And.intro rfl (And.intro rfl (And.intro rfl (And.intro rfl (And.intro rfl trivial))))))) ?_
    exact b_MD_breaks_142  hX65  hb0 H
def B_MD_breaks_65 (G : cx_T) (s : Nat) (a1 : Int) (v2 : Int) (v3 : Int) (v4 : Int) (v5 : Int) (v6 : Int) (h : ah_T) (Q : Option av_T → ah_T → Prop) (X51 : Int → Int → ah_T → Prop) (X65 : Int → Int → Int → Int → Int → ah_T → Prop) : Prop :=
 ((-2147483648) ≤ (v3 + v6) ∧ (v3 + v6) ≤ 2147483647) ∧ ((v2 < (v3 + v6) → (0 ≤ v3 ∧ v3 < 340) ∧ ∀ h4 : ah_T, h4 = st_i h 227 (v3).toNat v4 → ((-2147483648) ≤ (v3 - 1) ∧ (v3 - 1) ≤ 2147483647) ∧ X51 (v2) ((v3 - 1)) h4) ∧ (¬ v2 < (v3 + v6) → ((-2147483648) ≤ (v3 + v6 - 1) ∧ (v3 + v6 - 1) ≤ 2147483647) ∧ con G 4 0 0 m_MD_width [av_R (some 170), av_I (v3 + v6 - 1)] h (fun r h8 => ∃ z10 : Int, r = some (av_I z10) ∧ hb s h8 ∧ ((-2147483648) ≤ (v5 + z10) ∧ (v5 + z10) ≤ 2147483647) ∧ ((-2147483648) ≤ (a1 - v5 - z10) ∧ (a1 - v5 - z10) ≤ 2147483647) ∧ ((0 ≤ (a1 - v5 - z10) → B_MD_breaks_108 G s a1 (v2) (v3) (v4) ((v5 + z10)) (v6) ((a1 - v5 - z10)) h8 Q X65) ∧ (¬ 0 ≤ (a1 - v5 - z10) → ((v6 ≤ 1 → B_MD_breaks_108 G s a1 (v2) (v3) (v4) ((v5 + z10)) (v6) ((a1 - v5 - z10)) h8 Q X65) ∧ (¬ v6 ≤ 1 → B_MD_breaks_186 G s a1 (v2) (v3) (v4) ((v5 + z10)) (v6) h8 Q X65)))))))
theorem b_MD_breaks_65 {G : cx_T} {s : Nat} {a1 : Int} {v2 : Int} {v3 : Int} {v4 : Int} {v5 : Int} {v6 : Int} {h : ah_T} {Q : Option av_T → ah_T → Prop} {X51 : Int → Int → ah_T → Prop} {X65 : Int → Int → Int → Int → Int → ah_T → Prop} (hX51 : ∀ (v2 : Int) (v3 : Int) (h : ah_T), hb s h → X51 v2 v3 h → aw G (rm_R 5 0 0) m_MD_breaks 0 0 51 [some (av_R (some 170)), some (av_I a1), some (av_I v2), some (av_I v3), none, none, none, none, none] [] h Q) (hX65 : ∀ (v2 : Int) (v3 : Int) (v4 : Int) (v5 : Int) (v6 : Int) (h : ah_T), hb s h → X65 v2 v3 v4 v5 v6 h → aw G (rm_R 5 0 0) m_MD_breaks 0 0 65 [some (av_R (some 170)), some (av_I a1), some (av_I v2), some (av_I v3), some (av_I v4), some (av_I v5), some (av_I v6), none, none] [] h Q) (hb0 : hb s h) (H : B_MD_breaks_65 G s a1 v2 v3 v4 v5 v6 h Q X51 X65) : aw G (rm_R 5 0 0) m_MD_breaks 0 0 65 [some (av_R (some 170)), some (av_I a1), some (av_I v2), some (av_I v3), some (av_I v4), some (av_I v5), some (av_I v6), none, none] [] h Q := by
  unfold B_MD_breaks_65 at H
  have hS : isS s := hb0.2.1
  refine A_iload_n 3 d_MD_breaks_65 rfl rfl ?_
  refine A_iload d_MD_breaks_66 rfl ?_
  have g1 := H.1
  replace H := H.2
  refine A_iaddv (z := (v3 + v6)) d_MD_breaks_68 (w32_to (by omega) (by unfold i32; omega)) ?_
  refine A_iload_n 2 d_MD_breaks_69 rfl rfl ?_
  refine A_icmp_gt (tgt := 192) d_MD_breaks_70 (by decide) (fun c => ?_) (fun c => ?_)
  · replace H := H.1 c
    refine A_aload_n 0 d_MD_breaks_192 rfl rfl ?_
    refine A_getAv (z := some 227) T_ok d_MD_breaks_193 f_MD_184 (hb_s hb0 sf_170) (hb_m hb0 rfm_88) ?_
    refine A_iload_n 3 d_MD_breaks_196 rfl rfl ?_
    refine A_iload d_MD_breaks_197 rfl ?_
    have g3 := H.1
    replace H := H.2
    refine A_iastoreN d_MD_breaks_199 (hb_s hb0 sf_227) g3.1 g3.2 ?_
    refine A_hn (fun h4 eh4 => ?_)
    have hb5 := hb_i hb0 eh4
    replace H := H h4 eh4
    refine A_pc (pc' := 200) rfl ?_
    have g6 := H.1
    replace H := H.2
    refine A_iincv (z := (v3 - 1)) (L' := [some (av_R (some 170)), some (av_I a1), some (av_I v2), some (av_I (v3 - 1)), some (av_I v4), some (av_I v5), some (av_I v6), none, none]) d_MD_breaks_200 rfl (w32_to (by omega) (by unfold i32; omega)) rfl ?_
    refine A_goto (tgt := 51) d_MD_breaks_203 (by decide) ?_
    refine A_pc (pc' := 51) rfl ?_
    refine A_free (L' := [some (av_R (some 170)), some (av_I a1), some (av_I v2), some (av_I (v3 - 1)), none, none, none, none, none]) (And.intro rfl (And.intro rfl (And.intro rfl (And.intro rfl trivial)))) ?_
    exact hX51 (v2) ((v3 - 1)) h4  hb5 H
  · replace H := H.2 c
    refine A_iload d_MD_breaks_73 rfl ?_
    refine A_aload_n 0 d_MD_breaks_75 rfl rfl ?_
    refine A_iload_n 3 d_MD_breaks_76 rfl rfl ?_
    refine A_iload d_MD_breaks_77 rfl ?_
    refine A_iaddv (z := (v3 + v6)) d_MD_breaks_79 (w32_to (by omega) (by unfold i32; omega)) ?_
    refine A_pc (pc' := 80) rfl ?_
    refine A_iconst d_MD_breaks_80 rfl ?_
    have g7 := H.1
    replace H := H.2
    refine A_isubv (z := (v3 + v6 - 1)) d_MD_breaks_81 (w32_to (by omega) (by unfold i32; omega)) ?_
    refine A_callV1 m_MD_width T_ok d_MD_breaks_82 l_MD_552 k_MD_width (hb_s hb0 sf_170) rfl (by decide +kernel) (by decide) (Nat.le_of_ble_eq_true rfl) H (fun r h8 hq => ?_)
    clear H
    obtain ⟨z10, rfl, hb9, H⟩ := hq
    have g11 := H.1
    replace H := H.2
    refine A_iaddv (z := (v5 + z10)) d_MD_breaks_85 (w32_to (by omega) (by unfold i32; omega)) ?_
    refine A_istore (L' := [some (av_R (some 170)), some (av_I a1), some (av_I v2), some (av_I v3), some (av_I v4), some (av_I (v5 + z10)), some (av_I v6), none, none]) d_MD_breaks_86 (Nat.le_of_ble_eq_true rfl) rfl ?_
    refine A_iload_n 1 d_MD_breaks_88 rfl rfl ?_
    refine A_iload d_MD_breaks_89 rfl ?_
    have g12 := H.1
    replace H := H.2
    refine A_isubv (z := (a1 - v5 - z10)) d_MD_breaks_91 (w32_to (by omega) (by unfold i32; omega)) ?_
    refine A_pc (pc' := 92) rfl ?_
    refine A_istore (L' := [some (av_R (some 170)), some (av_I a1), some (av_I v2), some (av_I v3), some (av_I v4), some (av_I (v5 + z10)), some (av_I v6), some (av_I (a1 - v5 - z10)), none]) d_MD_breaks_92 (Nat.le_of_ble_eq_true rfl) rfl ?_
    refine A_iload d_MD_breaks_94 rfl ?_
    refine A_if_ge (tgt := 108) d_MD_breaks_96 (by decide) (fun c => ?_) (fun c => ?_)
    · replace H := H.1 c
      refine A_pc (pc' := 108) rfl ?_
      exact b_MD_breaks_108  hX65  hb9 H
    · replace H := H.2 c
      refine A_iload d_MD_breaks_99 rfl ?_
      refine A_iconst d_MD_breaks_101 rfl ?_
      refine A_icmp_le (tgt := 108) d_MD_breaks_102 (by decide) (fun c => ?_) (fun c => ?_)
      · replace H := H.1 c
        refine A_pc (pc' := 108) rfl ?_
        exact b_MD_breaks_108  hX65  hb9 H
      · replace H := H.2 c
        refine A_goto (tgt := 186) d_MD_breaks_105 (by decide) ?_
        refine A_pc (pc' := 186) rfl ?_
        refine A_free (L' := [some (av_R (some 170)), some (av_I a1), some (av_I v2), some (av_I v3), some (av_I v4), some (av_I (v5 + z10)), some (av_I v6), none, none]) (And.intro rfl (And.intro rfl (And.intro rfl (And.intro rfl (And.intro rfl (And.intro rfl (And.intro rfl trivial))))))) ?_
        exact b_MD_breaks_186  hX65  hb9 H
theorem lp_MD_breaks_65 {G : cx_T} {s : Nat} {a1 : Int} {Q : Option av_T → ah_T → Prop} {X51 : Int → Int → ah_T → Prop} (hX51 : ∀ (v2 : Int) (v3 : Int) (h : ah_T), hb s h → X51 v2 v3 h → aw G (rm_R 5 0 0) m_MD_breaks 0 0 51 [some (av_R (some 170)), some (av_I a1), some (av_I v2), some (av_I v3), none, none, none, none, none] [] h Q) (I : Int → Int → Int → Int → Int → ah_T → Prop) (μ : Int → Int → Int → Int → Int → ah_T → Nat) (hI : ∀ (v2 : Int) (v3 : Int) (v4 : Int) (v5 : Int) (v6 : Int) (h : ah_T), hb s h → I v2 v3 v4 v5 v6 h → B_MD_breaks_65 G s a1 v2 v3 v4 v5 v6 h Q X51 (fun v2' v3' v4' v5' v6' h' => I v2' v3' v4' v5' v6' h' ∧ μ v2' v3' v4' v5' v6' h' < μ v2 v3 v4 v5 v6 h)) : ∀ (v2 : Int) (v3 : Int) (v4 : Int) (v5 : Int) (v6 : Int) (h : ah_T), hb s h → I v2 v3 v4 v5 v6 h → aw G (rm_R 5 0 0) m_MD_breaks 0 0 65 [some (av_R (some 170)), some (av_I a1), some (av_I v2), some (av_I v3), some (av_I v4), some (av_I v5), some (av_I v6), none, none] [] h Q := by
  have key : ∀ (n : Nat) (v2 : Int) (v3 : Int) (v4 : Int) (v5 : Int) (v6 : Int) (h : ah_T), hb s h → I v2 v3 v4 v5 v6 h → μ v2 v3 v4 v5 v6 h < n → aw G (rm_R 5 0 0) m_MD_breaks 0 0 65 [some (av_R (some 170)), some (av_I a1), some (av_I v2), some (av_I v3), some (av_I v4), some (av_I v5), some (av_I v6), none, none] [] h Q := by
    intro n
    induction n with
    | zero => intro v2 v3 v4 v5 v6 h  hb0 hi hm; omega
    | succ n ih => intro v2 v3 v4 v5 v6 h  hb0 hi hm; exact b_MD_breaks_65  hX51 (fun v2' v3' v4' v5' v6' h'  hb' hx => ih v2' v3' v4' v5' v6' h'  hb' hx.1 (by have := hx.2; omega))  hb0 (hI v2 v3 v4 v5 v6 h  hb0 hi)
  exact fun v2 v3 v4 v5 v6 h  hb0 hi => key _ v2 v3 v4 v5 v6 h  hb0 hi (Nat.lt_succ_self _)
def B_MD_breaks_51 (G : cx_T) (s : Nat) (a1 : Int) (v2 : Int) (v3 : Int) (h : ah_T) (Q : Option av_T → ah_T → Prop) (X65 : Int → Int → Int → Int → Int → ah_T → Prop) (X213 : Int → Int → ah_T → Prop) : Prop :=
 ((v3 < 0 → ∀ h1 : ah_T, h1 = st_i h 170 89 0 → X213 (v2) (0) h1) ∧ (¬ v3 < 0 → X65 (v2) (v3) ((-2)) (0) (1) h))
theorem b_MD_breaks_51 {G : cx_T} {s : Nat} {a1 : Int} {v2 : Int} {v3 : Int} {h : ah_T} {Q : Option av_T → ah_T → Prop} {X65 : Int → Int → Int → Int → Int → ah_T → Prop} {X213 : Int → Int → ah_T → Prop} (hX65 : ∀ (v2 : Int) (v3 : Int) (v4 : Int) (v5 : Int) (v6 : Int) (h : ah_T), hb s h → X65 v2 v3 v4 v5 v6 h → aw G (rm_R 5 0 0) m_MD_breaks 0 0 65 [some (av_R (some 170)), some (av_I a1), some (av_I v2), some (av_I v3), some (av_I v4), some (av_I v5), some (av_I v6), none, none] [] h Q) (hX213 : ∀ (v2 : Int) (v3 : Int) (h : ah_T), hb s h → X213 v2 v3 h → aw G (rm_R 5 0 0) m_MD_breaks 0 0 213 [some (av_R (some 170)), none, some (av_I v2), some (av_I v3), none, none, none, none, none] [] h Q) (hb0 : hb s h) (H : B_MD_breaks_51 G s a1 v2 v3 h Q X65 X213) : aw G (rm_R 5 0 0) m_MD_breaks 0 0 51 [some (av_R (some 170)), some (av_I a1), some (av_I v2), some (av_I v3), none, none, none, none, none] [] h Q := by
  unfold B_MD_breaks_51 at H
  have hS : isS s := hb0.2.1
  refine A_iload_n 3 d_MD_breaks_51 rfl rfl ?_
  refine A_if_lt (tgt := 206) d_MD_breaks_52 (by decide) (fun c => ?_) (fun c => ?_)
  · replace H := H.1 c
    refine A_aload_n 0 d_MD_breaks_206 rfl rfl ?_
    refine A_iconst d_MD_breaks_207 rfl ?_
    refine A_putI T_ok d_MD_breaks_208 f_MD_477 (hb_s hb0 sf_170) fin_f ?_
    refine A_hn (fun h1 eh1 => ?_)
    have hb2 := hb_i hb0 eh1
    replace H := H h1 eh1
    refine A_iconst d_MD_breaks_211 rfl ?_
    refine A_istore_n 3 (L' := [some (av_R (some 170)), some (av_I a1), some (av_I v2), some (av_I 0), none, none, none, none, none]) d_MD_breaks_212 rfl (Nat.le_of_ble_eq_true rfl) rfl ?_
    refine A_pc (pc' := 213) rfl ?_
    refine A_free (L' := [some (av_R (some 170)), none, some (av_I v2), some (av_I 0), none, none, none, none, none]) (And.intro rfl (And.intro rfl (And.intro rfl trivial))) ?_
    exact hX213 (v2) (0) h1  hb2 H
  · replace H := H.2 c
    refine A_bipush d_MD_breaks_55 rfl ?_
    refine A_istore (L' := [some (av_R (some 170)), some (av_I a1), some (av_I v2), some (av_I v3), some (av_I (-2)), none, none, none, none]) d_MD_breaks_57 (Nat.le_of_ble_eq_true rfl) rfl ?_
    refine A_iconst d_MD_breaks_59 rfl ?_
    refine A_istore (L' := [some (av_R (some 170)), some (av_I a1), some (av_I v2), some (av_I v3), some (av_I (-2)), some (av_I 0), none, none, none]) d_MD_breaks_60 (Nat.le_of_ble_eq_true rfl) rfl ?_
    refine A_iconst d_MD_breaks_62 rfl ?_
    refine A_pc (pc' := 63) rfl ?_
    refine A_istore (L' := [some (av_R (some 170)), some (av_I a1), some (av_I v2), some (av_I v3), some (av_I (-2)), some (av_I 0), some (av_I 1), none, none]) d_MD_breaks_63 (Nat.le_of_ble_eq_true rfl) rfl ?_
    refine A_pc (pc' := 65) rfl ?_
    exact hX65 (v2) (v3) ((-2)) (0) (1) h  hb0 H
theorem lp_MD_breaks_51 {G : cx_T} {s : Nat} {a1 : Int} {Q : Option av_T → ah_T → Prop} {X65 : Int → Int → Int → Int → Int → ah_T → Prop} {X213 : Int → Int → ah_T → Prop} (hX65 : ∀ (v2 : Int) (v3 : Int) (v4 : Int) (v5 : Int) (v6 : Int) (h : ah_T), hb s h → X65 v2 v3 v4 v5 v6 h → aw G (rm_R 5 0 0) m_MD_breaks 0 0 65 [some (av_R (some 170)), some (av_I a1), some (av_I v2), some (av_I v3), some (av_I v4), some (av_I v5), some (av_I v6), none, none] [] h Q) (hX213 : ∀ (v2 : Int) (v3 : Int) (h : ah_T), hb s h → X213 v2 v3 h → aw G (rm_R 5 0 0) m_MD_breaks 0 0 213 [some (av_R (some 170)), none, some (av_I v2), some (av_I v3), none, none, none, none, none] [] h Q) (I : Int → Int → ah_T → Prop) (μ : Int → Int → ah_T → Nat) (hI : ∀ (v2 : Int) (v3 : Int) (h : ah_T), hb s h → I v2 v3 h → B_MD_breaks_51 G s a1 v2 v3 h Q X65 X213) : ∀ (v2 : Int) (v3 : Int) (h : ah_T), hb s h → I v2 v3 h → aw G (rm_R 5 0 0) m_MD_breaks 0 0 51 [some (av_R (some 170)), some (av_I a1), some (av_I v2), some (av_I v3), none, none, none, none, none] [] h Q := by
  have key : ∀ (n : Nat) (v2 : Int) (v3 : Int) (h : ah_T), hb s h → I v2 v3 h → μ v2 v3 h < n → aw G (rm_R 5 0 0) m_MD_breaks 0 0 51 [some (av_R (some 170)), some (av_I a1), some (av_I v2), some (av_I v3), none, none, none, none, none] [] h Q := by
    intro n
    induction n with
    | zero => intro v2 v3 h  hb0 hi hm; omega
    | succ n ih => intro v2 v3 h  hb0 hi hm; exact b_MD_breaks_51  hX65 hX213  hb0 (hI v2 v3 h  hb0 hi)
  exact fun v2 v3 h  hb0 hi => key _ v2 v3 h  hb0 hi (Nat.lt_succ_self _)
def B_MD_breaks_12 (G : cx_T) (s : Nat) (a1 : Int) (h : ah_T) (Q : Option av_T → ah_T → Prop) : Prop :=
 Q (some (av_I (-1))) h
theorem b_MD_breaks_12 {G : cx_T} {s : Nat} {a1 : Int} {h : ah_T} {Q : Option av_T → ah_T → Prop} (hb0 : hb s h) (H : B_MD_breaks_12 G s a1 h Q ) : aw G (rm_R 5 0 0) m_MD_breaks 0 0 12 [none, none, none, none, none, none, none, none, none] [] h Q := by
  unfold B_MD_breaks_12 at H
  have hS : isS s := hb0.2.1
  refine A_iconst d_MD_breaks_12 rfl ?_
  exact A_iret d_MD_breaks_13 (by decide) rfl H
def B_MD_breaks_0 (G : cx_T) (s : Nat) (a1 : Int) (h : ah_T) (Q : Option av_T → ah_T → Prop) (X51 : Int → Int → ah_T → Prop) : Prop :=
 ((a1 < 1 → B_MD_breaks_12 G s a1 h Q ) ∧ (¬ a1 < 1 → ((a1 ≤ 1000 → ∀ x2 : Int, x2 = h.2.1 172 0 → -2147483648 ≤ x2 → x2 ≤ 2147483647 → ((x2 = 0 → Q (some (av_I (-2))) h) ∧ (¬ x2 = 0 → con G 0 0 0 m_MD_pageBars [av_R (some 170)] h (fun r h3 => ∃ z5 : Int, r = some (av_I z5) ∧ hb s h3 ∧ ((z5 ≤ 14 → (0 ≤ z5 ∧ z5 < 340) ∧ ∀ h8 : ah_T, h8 = st_i h3 226 (z5).toNat 0 → ((-2147483648) ≤ (z5 - 1) ∧ (z5 - 1) ≤ 2147483647) ∧ X51 (z5) ((z5 - 1)) h8) ∧ (¬ z5 ≤ 14 → Q (some (av_I (-4))) h3)))))) ∧ (¬ a1 ≤ 1000 → B_MD_breaks_12 G s a1 h Q ))))
theorem b_MD_breaks_0 {G : cx_T} {s : Nat} {a1 : Int} {h : ah_T} {Q : Option av_T → ah_T → Prop} {X51 : Int → Int → ah_T → Prop} (hX51 : ∀ (v2 : Int) (v3 : Int) (h : ah_T), hb s h → X51 v2 v3 h → aw G (rm_R 5 0 0) m_MD_breaks 0 0 51 [some (av_R (some 170)), some (av_I a1), some (av_I v2), some (av_I v3), none, none, none, none, none] [] h Q) (hb0 : hb s h) (H : B_MD_breaks_0 G s a1 h Q X51) : aw G (rm_R 5 0 0) m_MD_breaks 0 0 0 [some (av_R (some 170)), some (av_I a1), none, none, none, none, none, none, none] [] h Q := by
  unfold B_MD_breaks_0 at H
  have hS : isS s := hb0.2.1
  refine A_iload_n 1 d_MD_breaks_0 rfl rfl ?_
  refine A_iconst d_MD_breaks_1 rfl ?_
  refine A_icmp_lt (tgt := 12) d_MD_breaks_2 (by decide) (fun c => ?_) (fun c => ?_)
  · replace H := H.1 c
    refine A_pc (pc' := 12) rfl ?_
    refine A_free (L' := [none, none, none, none, none, none, none, none, none]) trivial ?_
    exact b_MD_breaks_12    hb0 H
  · replace H := H.2 c
    refine A_iload_n 1 d_MD_breaks_5 rfl rfl ?_
    refine A_sipush d_MD_breaks_6 rfl ?_
    refine A_icmp_le (tgt := 14) d_MD_breaks_9 (by decide) (fun c => ?_) (fun c => ?_)
    · replace H := H.1 c
      refine A_aload_n 0 d_MD_breaks_14 rfl rfl ?_
      refine A_getAv (z := some 172) T_ok d_MD_breaks_15 f_MD_17 (hb_s hb0 sf_170) (hb_m hb0 rfm_14) ?_
      refine A_iconst d_MD_breaks_18 rfl ?_
      refine A_ialoadf d_MD_breaks_19 (hb_s hb0 sf_172) (by decide) (by decide) (fun x2 ex2 lx2 ux2 => ?_)
      replace H := H x2 ex2 lx2 ux2
      refine A_if_ne (tgt := 26) d_MD_breaks_20 (by decide) (fun c => ?_) (fun c => ?_)
      · replace H := H.2 c
        refine A_aload_n 0 d_MD_breaks_26 rfl rfl ?_
        refine A_callV0 m_MD_pageBars T_ok d_MD_breaks_27 l_MD_492 k_MD_pageBars (hb_s hb0 sf_170) rfl (by decide +kernel) (by decide) (Nat.le_of_ble_eq_true rfl) H (fun r h3 hq => ?_)
        clear H
        obtain ⟨z5, rfl, hb4, H⟩ := hq
        refine A_istore_n 2 (L' := [some (av_R (some 170)), some (av_I a1), some (av_I z5), none, none, none, none, none, none]) d_MD_breaks_30 rfl (Nat.le_of_ble_eq_true rfl) rfl ?_
        refine A_iload_n 2 d_MD_breaks_31 rfl rfl ?_
        refine A_bipush d_MD_breaks_32 rfl ?_
        refine A_icmp_le (tgt := 40) d_MD_breaks_34 (by decide) (fun c => ?_) (fun c => ?_)
        · replace H := H.1 c
          refine A_aload_n 0 d_MD_breaks_40 rfl rfl ?_
          refine A_getAv (z := some 226) T_ok d_MD_breaks_41 f_MD_181 (hb_s hb4 sf_170) (hb_m hb4 rfm_87) ?_
          refine A_iload_n 2 d_MD_breaks_44 rfl rfl ?_
          refine A_iconst d_MD_breaks_45 rfl ?_
          have g7 := H.1
          replace H := H.2
          refine A_iastoreN d_MD_breaks_46 (hb_s hb4 sf_226) g7.1 g7.2 ?_
          refine A_hn (fun h8 eh8 => ?_)
          have hb9 := hb_i hb4 eh8
          replace H := H h8 eh8
          refine A_pc (pc' := 47) rfl ?_
          refine A_iload_n 2 d_MD_breaks_47 rfl rfl ?_
          refine A_iconst d_MD_breaks_48 rfl ?_
          have g10 := H.1
          replace H := H.2
          refine A_isubv (z := (z5 - 1)) d_MD_breaks_49 (w32_to (by omega) (by unfold i32; omega)) ?_
          refine A_istore_n 3 (L' := [some (av_R (some 170)), some (av_I a1), some (av_I z5), some (av_I (z5 - 1)), none, none, none, none, none]) d_MD_breaks_50 rfl (Nat.le_of_ble_eq_true rfl) rfl ?_
          refine A_pc (pc' := 51) rfl ?_
          exact hX51 (z5) ((z5 - 1)) h8  hb9 H
        · replace H := H.2 c
          refine A_bipush d_MD_breaks_37 rfl ?_
          exact A_iret d_MD_breaks_39 (by decide) rfl H
      · replace H := H.1 c
        refine A_bipush d_MD_breaks_23 rfl ?_
        exact A_iret d_MD_breaks_25 (by decide) rfl H
    · replace H := H.2 c
      refine A_pc (pc' := 12) rfl ?_
      refine A_free (L' := [none, none, none, none, none, none, none, none, none]) trivial ?_
      exact b_MD_breaks_12    hb0 H
theorem c_MD_breaks {G : cx_T} {s : Nat} {a1 : Int} {h : ah_T} {Q : Option av_T → ah_T → Prop} {X51 : Int → Int → ah_T → Prop} (hX51 : ∀ (v2 : Int) (v3 : Int) (h : ah_T), hb s h → X51 v2 v3 h → aw G (rm_R 5 0 0) m_MD_breaks 0 0 51 [some (av_R (some 170)), some (av_I a1), some (av_I v2), some (av_I v3), none, none, none, none, none] [] h Q) (hb0 : hb s h) (H : i32 a1 → B_MD_breaks_0 G s a1 h Q X51) : con G 5 0 0 m_MD_breaks [av_R (some 170), av_I a1] h Q := by
  have hS : isS s := hb0.2.1
  refine con_of (L := [some (av_R (some 170)), some (av_I a1), none, none, none, none, none, none, none]) (by decide +kernel) (Nat.le_of_ble_eq_true rfl) rfl ?_
  refine A_locI 1 rfl (fun ra1 => ?_)
  exact b_MD_breaks_0  hX51 hb0 (H ra1)
def B_MD_line_22 (G : cx_T) (s : Nat) (a1 : Int) (t0 : Int) (h : ah_T) (Q : Option av_T → ah_T → Prop) : Prop :=
 Q (some (av_I t0)) h
theorem b_MD_line_22 {G : cx_T} {s : Nat} {a1 : Int} {t0 : Int} {h : ah_T} {Q : Option av_T → ah_T → Prop} (hb0 : hb s h) (H : B_MD_line_22 G s a1 t0 h Q ) : aw G (rm_R 0 0 0) m_MD_line 0 0 22 [none, none] [av_I t0] h Q := by
  unfold B_MD_line_22 at H
  have hS : isS s := hb0.2.1
  exact A_iret d_MD_line_22 (by decide) rfl H
def B_MD_line_21 (G : cx_T) (s : Nat) (a1 : Int) (h : ah_T) (Q : Option av_T → ah_T → Prop) : Prop :=
 B_MD_line_22 G s a1 (0) h Q 
theorem b_MD_line_21 {G : cx_T} {s : Nat} {a1 : Int} {h : ah_T} {Q : Option av_T → ah_T → Prop} (hb0 : hb s h) (H : B_MD_line_21 G s a1 h Q ) : aw G (rm_R 0 0 0) m_MD_line 0 0 21 [none, none] [] h Q := by
  unfold B_MD_line_21 at H
  have hS : isS s := hb0.2.1
  refine A_iconst d_MD_line_21 rfl ?_
  refine A_pc (pc' := 22) rfl ?_
  exact b_MD_line_22    hb0 H
def B_MD_line_0 (G : cx_T) (s : Nat) (a1 : Int) (h : ah_T) (Q : Option av_T → ah_T → Prop) : Prop :=
 ((a1 < 0 → B_MD_line_21 G s a1 h Q ) ∧ (¬ a1 < 0 → ∀ x1 : Int, x1 = h.2.1 170 89 → -2147483648 ≤ x1 → x1 ≤ 2147483647 → ((x1 ≤ a1 → B_MD_line_21 G s a1 h Q ) ∧ (¬ x1 ≤ a1 → (0 ≤ a1 ∧ a1 < 16) ∧ ∀ x3 : Int, x3 = h.2.1 228 (a1).toNat → -2147483648 ≤ x3 → x3 ≤ 2147483647 → B_MD_line_22 G s a1 (x3) h Q ))))
theorem b_MD_line_0 {G : cx_T} {s : Nat} {a1 : Int} {h : ah_T} {Q : Option av_T → ah_T → Prop} (hb0 : hb s h) (H : B_MD_line_0 G s a1 h Q ) : aw G (rm_R 0 0 0) m_MD_line 0 0 0 [some (av_R (some 170)), some (av_I a1)] [] h Q := by
  unfold B_MD_line_0 at H
  have hS : isS s := hb0.2.1
  refine A_iload_n 1 d_MD_line_0 rfl rfl ?_
  refine A_if_lt (tgt := 21) d_MD_line_1 (by decide) (fun c => ?_) (fun c => ?_)
  · replace H := H.1 c
    refine A_pc (pc' := 21) rfl ?_
    refine A_free (L' := [none, none]) trivial ?_
    exact b_MD_line_21    hb0 H
  · replace H := H.2 c
    refine A_iload_n 1 d_MD_line_4 rfl rfl ?_
    refine A_aload_n 0 d_MD_line_5 rfl rfl ?_
    refine A_getIf T_ok d_MD_line_6 f_MD_477 (hb_s hb0 sf_170) (fun x1 ex1 lx1 ux1 => ?_)
    replace H := H x1 ex1 lx1 ux1
    refine A_icmp_ge (tgt := 21) d_MD_line_9 (by decide) (fun c => ?_) (fun c => ?_)
    · replace H := H.1 c
      refine A_pc (pc' := 21) rfl ?_
      refine A_free (L' := [none, none]) trivial ?_
      exact b_MD_line_21    hb0 H
    · replace H := H.2 c
      refine A_aload_n 0 d_MD_line_12 rfl rfl ?_
      refine A_getAv (z := some 228) T_ok d_MD_line_13 f_MD_187 (hb_s hb0 sf_170) (hb_m hb0 rfm_90) ?_
      refine A_iload_n 1 d_MD_line_16 rfl rfl ?_
      have g4 := H.1
      replace H := H.2
      refine A_ialoadf d_MD_line_17 (hb_s hb0 sf_228) g4.1 g4.2 (fun x3 ex3 lx3 ux3 => ?_)
      replace H := H x3 ex3 lx3 ux3
      refine A_goto (tgt := 22) d_MD_line_18 (by decide) ?_
      refine A_pc (pc' := 22) rfl ?_
      refine A_free (L' := [none, none]) trivial ?_
      exact b_MD_line_22    hb0 H
theorem c_MD_line {G : cx_T} {s : Nat} {a1 : Int} {h : ah_T} {Q : Option av_T → ah_T → Prop} (hb0 : hb s h) (H : i32 a1 → B_MD_line_0 G s a1 h Q ) : con G 0 0 0 m_MD_line [av_R (some 170), av_I a1] h Q := by
  have hS : isS s := hb0.2.1
  refine con_of (L := [some (av_R (some 170)), some (av_I a1)]) (by decide +kernel) (Nat.le_of_ble_eq_true rfl) rfl ?_
  refine A_locI 1 rfl (fun ra1 => ?_)
  exact b_MD_line_0   hb0 (H ra1)
