/-! ===== verification conditions, 517 ===== -/
def B_Seconds_asks_14 (G : cx_T) (s : Nat) (a1 : Int) (t0 : Int) (h : ah_T) (Q : Option av_T → ah_T → Prop) : Prop :=
 (t0 = 0 ∨ t0 = 1) ∧ Q (some (av_I t0)) h
theorem b_Seconds_asks_14 {G : cx_T} {s : Nat} {a1 : Int} {t0 : Int} {h : ah_T} {Q : Option av_T → ah_T → Prop} (hb0 : hb s h) (H : B_Seconds_asks_14 G s a1 t0 h Q ) : aw G (rm_R 0 0 0) m_Seconds_asks 0 0 14 [none, none] [av_I t0] h Q := by
  unfold B_Seconds_asks_14 at H
  have hS : isS s := hb0.2.1
  exact A_zret d_Seconds_asks_14 (by decide) rfl H.1 H.2
def B_Seconds_asks_0 (G : cx_T) (s : Nat) (a1 : Int) (h : ah_T) (Q : Option av_T → ah_T → Prop) : Prop :=
 ∀ x1 : Int, x1 = h.2.1 158 5 → -2147483648 ≤ x1 → x1 ≤ 2147483647 → ∀ x2 : Int, x2 = ((Int32.ofInt x1) &&& (Int32.ofInt a1)).toInt → (-2147483648) ≤ x2 → x2 ≤ 2147483647 → ((x2 = 0 → B_Seconds_asks_14 G s a1 (0) h Q ) ∧ (¬ x2 = 0 → B_Seconds_asks_14 G s a1 (1) h Q ))
theorem b_Seconds_asks_0 {G : cx_T} {s : Nat} {a1 : Int} {h : ah_T} {Q : Option av_T → ah_T → Prop} (hb0 : hb s h) (H : B_Seconds_asks_0 G s a1 h Q ) : aw G (rm_R 0 0 0) m_Seconds_asks 0 0 0 [some (av_R (some 158)), some (av_I a1)] [] h Q := by
  unfold B_Seconds_asks_0 at H
  have hS : isS s := hb0.2.1
  refine A_aload_n 0 d_Seconds_asks_0 rfl rfl ?_
  refine A_getIf T_ok d_Seconds_asks_1 f_Seconds_38 (hb_s hb0 sf_158) (fun x1 ex1 lx1 ux1 => ?_)
  replace H := H x1 ex1 lx1 ux1
  refine A_iload_n 1 d_Seconds_asks_4 rfl rfl ?_
  refine A_iand d_Seconds_asks_5 ?_
  refine A_nrI (fun x2 ex2 lx2 ux2 => ?_)
  replace H := H x2 ex2 lx2 ux2
  refine A_if_eq (tgt := 13) d_Seconds_asks_6 (by decide) (fun c => ?_) (fun c => ?_)
  · replace H := H.1 c
    refine A_iconst d_Seconds_asks_13 rfl ?_
    refine A_pc (pc' := 14) rfl ?_
    refine A_free (L' := [none, none]) trivial ?_
    exact b_Seconds_asks_14    hb0 H
  · replace H := H.2 c
    refine A_iconst d_Seconds_asks_9 rfl ?_
    refine A_goto (tgt := 14) d_Seconds_asks_10 (by decide) ?_
    refine A_pc (pc' := 14) rfl ?_
    refine A_free (L' := [none, none]) trivial ?_
    exact b_Seconds_asks_14    hb0 H
theorem c_Seconds_asks {G : cx_T} {s : Nat} {a1 : Int} {h : ah_T} {Q : Option av_T → ah_T → Prop} (hb0 : hb s h) (H : i32 a1 → B_Seconds_asks_0 G s a1 h Q ) : con G 0 0 0 m_Seconds_asks [av_R (some 158), av_I a1] h Q := by
  have hS : isS s := hb0.2.1
  refine con_of (L := [some (av_R (some 158)), some (av_I a1)]) (by decide +kernel) (Nat.le_of_ble_eq_true rfl) rfl ?_
  refine A_locI 1 rfl (fun ra1 => ?_)
  exact b_Seconds_asks_0   hb0 (H ra1)
def B_Seconds_isAmong_18 (G : cx_T) (s : Nat) (a0 : Int) (a1 : Int) (t0 : Int) (h : ah_T) (Q : Option av_T → ah_T → Prop) : Prop :=
 (t0 = 0 ∨ t0 = 1) ∧ Q (some (av_I t0)) h
theorem b_Seconds_isAmong_18 {G : cx_T} {s : Nat} {a0 : Int} {a1 : Int} {t0 : Int} {h : ah_T} {Q : Option av_T → ah_T → Prop} (hb0 : hb s h) (H : B_Seconds_isAmong_18 G s a0 a1 t0 h Q ) : aw G (rm_R 1 0 0) m_Seconds_isAmong 0 0 18 [none, none] [av_I t0] h Q := by
  unfold B_Seconds_isAmong_18 at H
  have hS : isS s := hb0.2.1
  exact A_zret d_Seconds_isAmong_18 (by decide) rfl H.1 H.2
def B_Seconds_isAmong_0 (G : cx_T) (s : Nat) (a0 : Int) (a1 : Int) (h : ah_T) (Q : Option av_T → ah_T → Prop) : Prop :=
 con G 0 0 0 m_JMath_floorMod [av_I a1, av_I 12] h (fun r h1 => ∃ z3 : Int, r = some (av_I z3) ∧ hb s h1 ∧ ∀ x4 : Int, x4 = ((Int32.ofInt a0) >>> (Int32.ofInt z3 &&& 31)).toInt → (-2147483648) ≤ x4 → x4 ≤ 2147483647 → ∀ x5 : Int, x5 = ((Int32.ofInt x4) &&& (Int32.ofInt 1)).toInt → (-2147483648) ≤ x5 → x5 ≤ 2147483647 → ((x5 = 0 → B_Seconds_isAmong_18 G s a0 a1 (0) h1 Q ) ∧ (¬ x5 = 0 → B_Seconds_isAmong_18 G s a0 a1 (1) h1 Q )))
theorem b_Seconds_isAmong_0 {G : cx_T} {s : Nat} {a0 : Int} {a1 : Int} {h : ah_T} {Q : Option av_T → ah_T → Prop} (hb0 : hb s h) (H : B_Seconds_isAmong_0 G s a0 a1 h Q ) : aw G (rm_R 1 0 0) m_Seconds_isAmong 0 0 0 [some (av_I a0), some (av_I a1)] [] h Q := by
  unfold B_Seconds_isAmong_0 at H
  have hS : isS s := hb0.2.1
  refine A_iload_n 0 d_Seconds_isAmong_0 rfl rfl ?_
  refine A_iload_n 1 d_Seconds_isAmong_1 rfl rfl ?_
  refine A_bipush d_Seconds_isAmong_2 rfl ?_
  refine A_callS2 m_JMath_floorMod d_Seconds_isAmong_4 l_Seconds_71 k_JMath_floorMod (by decide +kernel) (by decide) (Nat.le_of_ble_eq_true rfl) H (fun r h1 hq => ?_)
  clear H
  obtain ⟨z3, rfl, hb2, H⟩ := hq
  refine A_ishr d_Seconds_isAmong_7 ?_
  refine A_nrI (fun x4 ex4 lx4 ux4 => ?_)
  replace H := H x4 ex4 lx4 ux4
  refine A_iconst d_Seconds_isAmong_8 rfl ?_
  refine A_iand d_Seconds_isAmong_9 ?_
  refine A_nrI (fun x5 ex5 lx5 ux5 => ?_)
  replace H := H x5 ex5 lx5 ux5
  refine A_if_eq (tgt := 17) d_Seconds_isAmong_10 (by decide) (fun c => ?_) (fun c => ?_)
  · replace H := H.1 c
    refine A_iconst d_Seconds_isAmong_17 rfl ?_
    refine A_pc (pc' := 18) rfl ?_
    refine A_free (L' := [none, none]) trivial ?_
    exact b_Seconds_isAmong_18    hb2 H
  · replace H := H.2 c
    refine A_iconst d_Seconds_isAmong_13 rfl ?_
    refine A_goto (tgt := 18) d_Seconds_isAmong_14 (by decide) ?_
    refine A_pc (pc' := 18) rfl ?_
    refine A_free (L' := [none, none]) trivial ?_
    exact b_Seconds_isAmong_18    hb2 H
theorem c_Seconds_isAmong {G : cx_T} {s : Nat} {a0 : Int} {a1 : Int} {h : ah_T} {Q : Option av_T → ah_T → Prop} (hb0 : hb s h) (H : i32 a0 → i32 a1 → B_Seconds_isAmong_0 G s a0 a1 h Q ) : con G 1 0 0 m_Seconds_isAmong [av_I a0, av_I a1] h Q := by
  have hS : isS s := hb0.2.1
  refine con_of (L := [some (av_I a0), some (av_I a1)]) (by decide +kernel) (Nat.le_of_ble_eq_true rfl) rfl ?_
  refine A_locI 0 rfl (fun ra0 => ?_)
  refine A_locI 1 rfl (fun ra1 => ?_)
  exact b_Seconds_isAmong_0   hb0 (H ra0 ra1)
def B_Seconds_fitsAlone_130 (G : cx_T) (s : Nat) (a1 : Int) (t0 : Int) (h : ah_T) (Q : Option av_T → ah_T → Prop) : Prop :=
 (t0 = 0 ∨ t0 = 1) ∧ Q (some (av_I t0)) h
theorem b_Seconds_fitsAlone_130 {G : cx_T} {s : Nat} {a1 : Int} {t0 : Int} {h : ah_T} {Q : Option av_T → ah_T → Prop} (hb0 : hb s h) (H : B_Seconds_fitsAlone_130 G s a1 t0 h Q ) : aw G (rm_R 2 0 0) m_Seconds_fitsAlone 0 0 130 [none, none, none, none] [av_I t0] h Q := by
  unfold B_Seconds_fitsAlone_130 at H
  have hS : isS s := hb0.2.1
  exact A_zret d_Seconds_fitsAlone_130 (by decide) rfl H.1 H.2
def B_Seconds_fitsAlone_125 (G : cx_T) (s : Nat) (a1 : Int) (h : ah_T) (Q : Option av_T → ah_T → Prop) : Prop :=
 B_Seconds_fitsAlone_130 G s a1 (1) h Q 
theorem b_Seconds_fitsAlone_125 {G : cx_T} {s : Nat} {a1 : Int} {h : ah_T} {Q : Option av_T → ah_T → Prop} (hb0 : hb s h) (H : B_Seconds_fitsAlone_125 G s a1 h Q ) : aw G (rm_R 2 0 0) m_Seconds_fitsAlone 0 0 125 [none, none, none, none] [] h Q := by
  unfold B_Seconds_fitsAlone_125 at H
  have hS : isS s := hb0.2.1
  refine A_iconst d_Seconds_fitsAlone_125 rfl ?_
  refine A_goto (tgt := 130) d_Seconds_fitsAlone_126 (by decide) ?_
  refine A_pc (pc' := 130) rfl ?_
  exact b_Seconds_fitsAlone_130    hb0 H
def B_Seconds_fitsAlone_111 (G : cx_T) (s : Nat) (a1 : Int) (v3 : Int) (h : ah_T) (Q : Option av_T → ah_T → Prop) : Prop :=
 con G 0 0 0 m_Seconds_asks [av_R (some 158), av_I 256] h (fun r h1 => ∃ z3 : Int, r = some (av_I z3) ∧ hb s h1 ∧ ((z3 = 0 → B_Seconds_fitsAlone_125 G s a1 h1 Q ) ∧ (¬ z3 = 0 → ((v3 < 0 → B_Seconds_fitsAlone_130 G s a1 (0) h1 Q ) ∧ (¬ v3 < 0 → B_Seconds_fitsAlone_125 G s a1 h1 Q )))))
theorem b_Seconds_fitsAlone_111 {G : cx_T} {s : Nat} {a1 : Int} {v3 : Int} {h : ah_T} {Q : Option av_T → ah_T → Prop} (hb0 : hb s h) (H : B_Seconds_fitsAlone_111 G s a1 v3 h Q ) : aw G (rm_R 2 0 0) m_Seconds_fitsAlone 0 0 111 [some (av_R (some 158)), none, none, some (av_I v3)] [] h Q := by
  unfold B_Seconds_fitsAlone_111 at H
  have hS : isS s := hb0.2.1
  refine A_aload_n 0 d_Seconds_fitsAlone_111 rfl rfl ?_
  refine A_sipush d_Seconds_fitsAlone_112 rfl ?_
  refine A_callV1 m_Seconds_asks T_ok d_Seconds_fitsAlone_115 l_Seconds_74 k_Seconds_asks (hb_s hb0 sf_158) rfl (by decide +kernel) (by decide) (Nat.le_of_ble_eq_true rfl) H (fun r h1 hq => ?_)
  clear H
  obtain ⟨z3, rfl, hb2, H⟩ := hq
  refine A_if_eq (tgt := 125) d_Seconds_fitsAlone_118 (by decide) (fun c => ?_) (fun c => ?_)
  · replace H := H.1 c
    refine A_pc (pc' := 125) rfl ?_
    refine A_free (L' := [none, none, none, none]) trivial ?_
    exact b_Seconds_fitsAlone_125    hb2 H
  · replace H := H.2 c
    refine A_iload_n 3 d_Seconds_fitsAlone_121 rfl rfl ?_
    refine A_if_lt (tgt := 129) d_Seconds_fitsAlone_122 (by decide) (fun c => ?_) (fun c => ?_)
    · replace H := H.1 c
      refine A_iconst d_Seconds_fitsAlone_129 rfl ?_
      refine A_pc (pc' := 130) rfl ?_
      refine A_free (L' := [none, none, none, none]) trivial ?_
      exact b_Seconds_fitsAlone_130    hb2 H
    · replace H := H.2 c
      refine A_pc (pc' := 125) rfl ?_
      refine A_free (L' := [none, none, none, none]) trivial ?_
      exact b_Seconds_fitsAlone_125    hb2 H
def B_Seconds_fitsAlone_89 (G : cx_T) (s : Nat) (a1 : Int) (v2 : Int) (v3 : Int) (h : ah_T) (Q : Option av_T → ah_T → Prop) : Prop :=
 con G 0 0 0 m_Seconds_asks [av_R (some 158), av_I 128] h (fun r h1 => ∃ z3 : Int, r = some (av_I z3) ∧ hb s h1 ∧ ((z3 = 0 → B_Seconds_fitsAlone_111 G s a1 (v3) h1 Q ) ∧ (¬ z3 = 0 → con G 1 0 0 m_Seconds_isAmong [av_I 2741, av_I v2] h1 (fun r h4 => ∃ z6 : Int, r = some (av_I z6) ∧ hb s h4 ∧ ((z6 = 0 → Q (some (av_I 0)) h4) ∧ (¬ z6 = 0 → B_Seconds_fitsAlone_111 G s a1 (v3) h4 Q ))))))
theorem b_Seconds_fitsAlone_89 {G : cx_T} {s : Nat} {a1 : Int} {v2 : Int} {v3 : Int} {h : ah_T} {Q : Option av_T → ah_T → Prop} (hb0 : hb s h) (H : B_Seconds_fitsAlone_89 G s a1 v2 v3 h Q ) : aw G (rm_R 2 0 0) m_Seconds_fitsAlone 0 0 89 [some (av_R (some 158)), none, some (av_I v2), some (av_I v3)] [] h Q := by
  unfold B_Seconds_fitsAlone_89 at H
  have hS : isS s := hb0.2.1
  refine A_aload_n 0 d_Seconds_fitsAlone_89 rfl rfl ?_
  refine A_sipush d_Seconds_fitsAlone_90 rfl ?_
  refine A_callV1 m_Seconds_asks T_ok d_Seconds_fitsAlone_93 l_Seconds_74 k_Seconds_asks (hb_s hb0 sf_158) rfl (by decide +kernel) (by decide) (Nat.le_of_ble_eq_true rfl) H (fun r h1 hq => ?_)
  clear H
  obtain ⟨z3, rfl, hb2, H⟩ := hq
  refine A_if_eq (tgt := 111) d_Seconds_fitsAlone_96 (by decide) (fun c => ?_) (fun c => ?_)
  · replace H := H.1 c
    refine A_pc (pc' := 111) rfl ?_
    refine A_free (L' := [some (av_R (some 158)), none, none, some (av_I v3)]) (And.intro rfl (And.intro rfl trivial)) ?_
    exact b_Seconds_fitsAlone_111    hb2 H
  · replace H := H.2 c
    refine A_sipush d_Seconds_fitsAlone_99 rfl ?_
    refine A_iload_n 2 d_Seconds_fitsAlone_102 rfl rfl ?_
    refine A_callS2 m_Seconds_isAmong d_Seconds_fitsAlone_103 l_Seconds_77 k_Seconds_isAmong (by decide +kernel) (by decide) (Nat.le_of_ble_eq_true rfl) H (fun r h4 hq => ?_)
    clear H
    obtain ⟨z6, rfl, hb5, H⟩ := hq
    refine A_if_ne (tgt := 111) d_Seconds_fitsAlone_106 (by decide) (fun c => ?_) (fun c => ?_)
    · replace H := H.2 c
      refine A_pc (pc' := 111) rfl ?_
      refine A_free (L' := [some (av_R (some 158)), none, none, some (av_I v3)]) (And.intro rfl (And.intro rfl trivial)) ?_
      exact b_Seconds_fitsAlone_111    hb5 H
    · replace H := H.1 c
      refine A_iconst d_Seconds_fitsAlone_109 rfl ?_
      exact A_zret d_Seconds_fitsAlone_110 (by decide) rfl (by decide) H
def B_Seconds_fitsAlone_60 (G : cx_T) (s : Nat) (a1 : Int) (v2 : Int) (v3 : Int) (h : ah_T) (Q : Option av_T → ah_T → Prop) : Prop :=
 con G 0 0 0 m_Seconds_asks [av_R (some 158), av_I 2] h (fun r h1 => ∃ z3 : Int, r = some (av_I z3) ∧ hb s h1 ∧ ((z3 = 0 → B_Seconds_fitsAlone_89 G s a1 (v2) (v3) h1 Q ) ∧ (¬ z3 = 0 → ∀ x4 : Int, x4 = h1.2.1 158 4 → -2147483648 ≤ x4 → x4 ≤ 2147483647 → ((-2147483648) ≤ (x4 - 1) ∧ (x4 - 1) ≤ 2147483647) ∧ ((a1 = (x4 - 1) → con G 0 0 0 m_JMath_floorMod [av_I v3, av_I 12] h1 (fun r h6 => ∃ z8 : Int, r = some (av_I z8) ∧ hb s h6 ∧ ((z8 = 0 → B_Seconds_fitsAlone_89 G s a1 (v2) (v3) h6 Q ) ∧ (¬ z8 = 0 → Q (some (av_I 0)) h6)))) ∧ (¬ a1 = (x4 - 1) → B_Seconds_fitsAlone_89 G s a1 (v2) (v3) h1 Q )))))
theorem b_Seconds_fitsAlone_60 {G : cx_T} {s : Nat} {a1 : Int} {v2 : Int} {v3 : Int} {h : ah_T} {Q : Option av_T → ah_T → Prop} (hb0 : hb s h) (H : B_Seconds_fitsAlone_60 G s a1 v2 v3 h Q ) : aw G (rm_R 2 0 0) m_Seconds_fitsAlone 0 0 60 [some (av_R (some 158)), some (av_I a1), some (av_I v2), some (av_I v3)] [] h Q := by
  unfold B_Seconds_fitsAlone_60 at H
  have hS : isS s := hb0.2.1
  refine A_aload_n 0 d_Seconds_fitsAlone_60 rfl rfl ?_
  refine A_iconst d_Seconds_fitsAlone_61 rfl ?_
  refine A_callV1 m_Seconds_asks T_ok d_Seconds_fitsAlone_62 l_Seconds_74 k_Seconds_asks (hb_s hb0 sf_158) rfl (by decide +kernel) (by decide) (Nat.le_of_ble_eq_true rfl) H (fun r h1 hq => ?_)
  clear H
  obtain ⟨z3, rfl, hb2, H⟩ := hq
  refine A_if_eq (tgt := 89) d_Seconds_fitsAlone_65 (by decide) (fun c => ?_) (fun c => ?_)
  · replace H := H.1 c
    refine A_pc (pc' := 89) rfl ?_
    refine A_free (L' := [some (av_R (some 158)), none, some (av_I v2), some (av_I v3)]) (And.intro rfl (And.intro rfl (And.intro rfl trivial))) ?_
    exact b_Seconds_fitsAlone_89    hb2 H
  · replace H := H.2 c
    refine A_iload_n 1 d_Seconds_fitsAlone_68 rfl rfl ?_
    refine A_aload_n 0 d_Seconds_fitsAlone_69 rfl rfl ?_
    refine A_getIf T_ok d_Seconds_fitsAlone_70 f_Seconds_47 (hb_s hb2 sf_158) (fun x4 ex4 lx4 ux4 => ?_)
    replace H := H x4 ex4 lx4 ux4
    refine A_iconst d_Seconds_fitsAlone_73 rfl ?_
    have g5 := H.1
    replace H := H.2
    refine A_isubv (z := (x4 - 1)) d_Seconds_fitsAlone_74 (w32_to (by omega) (by unfold i32; omega)) ?_
    refine A_pc (pc' := 75) rfl ?_
    refine A_icmp_ne (tgt := 89) d_Seconds_fitsAlone_75 (by decide) (fun c => ?_) (fun c => ?_)
    · replace H := H.2 c
      refine A_pc (pc' := 89) rfl ?_
      refine A_free (L' := [some (av_R (some 158)), none, some (av_I v2), some (av_I v3)]) (And.intro rfl (And.intro rfl (And.intro rfl trivial))) ?_
      exact b_Seconds_fitsAlone_89    hb2 H
    · replace H := H.1 c
      refine A_iload_n 3 d_Seconds_fitsAlone_78 rfl rfl ?_
      refine A_bipush d_Seconds_fitsAlone_79 rfl ?_
      refine A_callS2 m_JMath_floorMod d_Seconds_fitsAlone_81 l_Seconds_71 k_JMath_floorMod (by decide +kernel) (by decide) (Nat.le_of_ble_eq_true rfl) H (fun r h6 hq => ?_)
      clear H
      obtain ⟨z8, rfl, hb7, H⟩ := hq
      refine A_if_eq (tgt := 89) d_Seconds_fitsAlone_84 (by decide) (fun c => ?_) (fun c => ?_)
      · replace H := H.1 c
        refine A_pc (pc' := 89) rfl ?_
        refine A_free (L' := [some (av_R (some 158)), none, some (av_I v2), some (av_I v3)]) (And.intro rfl (And.intro rfl (And.intro rfl trivial))) ?_
        exact b_Seconds_fitsAlone_89    hb7 H
      · replace H := H.2 c
        refine A_iconst d_Seconds_fitsAlone_87 rfl ?_
        exact A_zret d_Seconds_fitsAlone_88 (by decide) rfl (by decide) H
def B_Seconds_fitsAlone_36 (G : cx_T) (s : Nat) (a1 : Int) (v2 : Int) (v3 : Int) (h : ah_T) (Q : Option av_T → ah_T → Prop) : Prop :=
 con G 0 0 0 m_Seconds_asks [av_R (some 158), av_I 2] h (fun r h1 => ∃ z3 : Int, r = some (av_I z3) ∧ hb s h1 ∧ ((z3 = 0 → B_Seconds_fitsAlone_60 G s a1 (v2) (v3) h1 Q ) ∧ (¬ z3 = 0 → ((a1 = 0 → con G 1 0 0 m_Seconds_isAmong [av_I 129, av_I v3] h1 (fun r h4 => ∃ z6 : Int, r = some (av_I z6) ∧ hb s h4 ∧ ((z6 = 0 → Q (some (av_I 0)) h4) ∧ (¬ z6 = 0 → B_Seconds_fitsAlone_60 G s a1 (v2) (v3) h4 Q )))) ∧ (¬ a1 = 0 → B_Seconds_fitsAlone_60 G s a1 (v2) (v3) h1 Q )))))
theorem b_Seconds_fitsAlone_36 {G : cx_T} {s : Nat} {a1 : Int} {v2 : Int} {v3 : Int} {h : ah_T} {Q : Option av_T → ah_T → Prop} (hb0 : hb s h) (H : B_Seconds_fitsAlone_36 G s a1 v2 v3 h Q ) : aw G (rm_R 2 0 0) m_Seconds_fitsAlone 0 0 36 [some (av_R (some 158)), some (av_I a1), some (av_I v2), some (av_I v3)] [] h Q := by
  unfold B_Seconds_fitsAlone_36 at H
  have hS : isS s := hb0.2.1
  refine A_aload_n 0 d_Seconds_fitsAlone_36 rfl rfl ?_
  refine A_iconst d_Seconds_fitsAlone_37 rfl ?_
  refine A_callV1 m_Seconds_asks T_ok d_Seconds_fitsAlone_38 l_Seconds_74 k_Seconds_asks (hb_s hb0 sf_158) rfl (by decide +kernel) (by decide) (Nat.le_of_ble_eq_true rfl) H (fun r h1 hq => ?_)
  clear H
  obtain ⟨z3, rfl, hb2, H⟩ := hq
  refine A_if_eq (tgt := 60) d_Seconds_fitsAlone_41 (by decide) (fun c => ?_) (fun c => ?_)
  · replace H := H.1 c
    refine A_pc (pc' := 60) rfl ?_
    exact b_Seconds_fitsAlone_60    hb2 H
  · replace H := H.2 c
    refine A_iload_n 1 d_Seconds_fitsAlone_44 rfl rfl ?_
    refine A_if_ne (tgt := 60) d_Seconds_fitsAlone_45 (by decide) (fun c => ?_) (fun c => ?_)
    · replace H := H.2 c
      refine A_pc (pc' := 60) rfl ?_
      exact b_Seconds_fitsAlone_60    hb2 H
    · replace H := H.1 c
      refine A_sipush d_Seconds_fitsAlone_48 rfl ?_
      refine A_iload_n 3 d_Seconds_fitsAlone_51 rfl rfl ?_
      refine A_callS2 m_Seconds_isAmong d_Seconds_fitsAlone_52 l_Seconds_77 k_Seconds_isAmong (by decide +kernel) (by decide) (Nat.le_of_ble_eq_true rfl) H (fun r h4 hq => ?_)
      clear H
      obtain ⟨z6, rfl, hb5, H⟩ := hq
      refine A_if_ne (tgt := 60) d_Seconds_fitsAlone_55 (by decide) (fun c => ?_) (fun c => ?_)
      · replace H := H.2 c
        refine A_pc (pc' := 60) rfl ?_
        exact b_Seconds_fitsAlone_60    hb5 H
      · replace H := H.1 c
        refine A_iconst d_Seconds_fitsAlone_58 rfl ?_
        exact A_zret d_Seconds_fitsAlone_59 (by decide) rfl (by decide) H
def B_Seconds_fitsAlone_0 (G : cx_T) (s : Nat) (a1 : Int) (h : ah_T) (Q : Option av_T → ah_T → Prop) : Prop :=
 (0 ≤ a1 ∧ a1 < 8) ∧ ∀ x2 : Int, x2 = h.2.1 161 (a1).toNat → -2147483648 ≤ x2 → x2 ≤ 2147483647 → ∀ x5 : Int, x5 = h.2.1 160 (a1).toNat → -2147483648 ≤ x5 → x5 ≤ 2147483647 → ((-2147483648) ≤ (x2 - x5) ∧ (x2 - x5) ≤ 2147483647) ∧ con G 0 0 0 m_Seconds_asks [av_R (some 158), av_I 1] h (fun r h7 => ∃ z9 : Int, r = some (av_I z9) ∧ hb s h7 ∧ ((z9 = 0 → B_Seconds_fitsAlone_36 G s a1 (x2) ((x2 - x5)) h7 Q ) ∧ (¬ z9 = 0 → con G 1 0 0 m_Seconds_isAmong [av_I 921, av_I (x2 - x5)] h7 (fun r h10 => ∃ z12 : Int, r = some (av_I z12) ∧ hb s h10 ∧ ((z12 = 0 → Q (some (av_I 0)) h10) ∧ (¬ z12 = 0 → B_Seconds_fitsAlone_36 G s a1 (x2) ((x2 - x5)) h10 Q ))))))
theorem b_Seconds_fitsAlone_0 {G : cx_T} {s : Nat} {a1 : Int} {h : ah_T} {Q : Option av_T → ah_T → Prop} (hb0 : hb s h) (H : B_Seconds_fitsAlone_0 G s a1 h Q ) : aw G (rm_R 2 0 0) m_Seconds_fitsAlone 0 0 0 [some (av_R (some 158)), some (av_I a1), none, none] [] h Q := by
  unfold B_Seconds_fitsAlone_0 at H
  have hS : isS s := hb0.2.1
  refine A_aload_n 0 d_Seconds_fitsAlone_0 rfl rfl ?_
  refine A_getAv (z := some 161) T_ok d_Seconds_fitsAlone_1 f_Seconds_19 (hb_s hb0 sf_158) (hb_r hb0 rff_158_7) ?_
  refine A_iload_n 1 d_Seconds_fitsAlone_4 rfl rfl ?_
  have g3 := H.1
  replace H := H.2
  refine A_ialoadf d_Seconds_fitsAlone_5 (hb_s hb0 sf_161) g3.1 g3.2 (fun x2 ex2 lx2 ux2 => ?_)
  replace H := H x2 ex2 lx2 ux2
  refine A_istore_n 2 (L' := [some (av_R (some 158)), some (av_I a1), some (av_I x2), none]) d_Seconds_fitsAlone_6 rfl (Nat.le_of_ble_eq_true rfl) rfl ?_
  refine A_pc (pc' := 7) rfl ?_
  refine A_iload_n 2 d_Seconds_fitsAlone_7 rfl rfl ?_
  refine A_aload_n 0 d_Seconds_fitsAlone_8 rfl rfl ?_
  refine A_getAv (z := some 160) T_ok d_Seconds_fitsAlone_9 f_Seconds_15 (hb_s hb0 sf_158) (hb_r hb0 rff_158_6) ?_
  refine A_iload_n 1 d_Seconds_fitsAlone_12 rfl rfl ?_
  refine A_ialoadf d_Seconds_fitsAlone_13 (hb_s hb0 sf_160) g3.1 g3.2 (fun x5 ex5 lx5 ux5 => ?_)
  replace H := H x5 ex5 lx5 ux5
  have g6 := H.1
  replace H := H.2
  refine A_isubv (z := (x2 - x5)) d_Seconds_fitsAlone_14 (w32_to (by omega) (by unfold i32; omega)) ?_
  refine A_pc (pc' := 15) rfl ?_
  refine A_istore_n 3 (L' := [some (av_R (some 158)), some (av_I a1), some (av_I x2), some (av_I (x2 - x5))]) d_Seconds_fitsAlone_15 rfl (Nat.le_of_ble_eq_true rfl) rfl ?_
  refine A_aload_n 0 d_Seconds_fitsAlone_16 rfl rfl ?_
  refine A_iconst d_Seconds_fitsAlone_17 rfl ?_
  refine A_callV1 m_Seconds_asks T_ok d_Seconds_fitsAlone_18 l_Seconds_74 k_Seconds_asks (hb_s hb0 sf_158) rfl (by decide +kernel) (by decide) (Nat.le_of_ble_eq_true rfl) H (fun r h7 hq => ?_)
  clear H
  obtain ⟨z9, rfl, hb8, H⟩ := hq
  refine A_if_eq (tgt := 36) d_Seconds_fitsAlone_21 (by decide) (fun c => ?_) (fun c => ?_)
  · replace H := H.1 c
    refine A_pc (pc' := 36) rfl ?_
    exact b_Seconds_fitsAlone_36    hb8 H
  · replace H := H.2 c
    refine A_sipush d_Seconds_fitsAlone_24 rfl ?_
    refine A_iload_n 3 d_Seconds_fitsAlone_27 rfl rfl ?_
    refine A_callS2 m_Seconds_isAmong d_Seconds_fitsAlone_28 l_Seconds_77 k_Seconds_isAmong (by decide +kernel) (by decide) (Nat.le_of_ble_eq_true rfl) H (fun r h10 hq => ?_)
    clear H
    obtain ⟨z12, rfl, hb11, H⟩ := hq
    refine A_if_ne (tgt := 36) d_Seconds_fitsAlone_31 (by decide) (fun c => ?_) (fun c => ?_)
    · replace H := H.2 c
      refine A_pc (pc' := 36) rfl ?_
      exact b_Seconds_fitsAlone_36    hb11 H
    · replace H := H.1 c
      refine A_iconst d_Seconds_fitsAlone_34 rfl ?_
      exact A_zret d_Seconds_fitsAlone_35 (by decide) rfl (by decide) H
theorem c_Seconds_fitsAlone {G : cx_T} {s : Nat} {a1 : Int} {h : ah_T} {Q : Option av_T → ah_T → Prop} (hb0 : hb s h) (H : i32 a1 → B_Seconds_fitsAlone_0 G s a1 h Q ) : con G 2 0 0 m_Seconds_fitsAlone [av_R (some 158), av_I a1] h Q := by
  have hS : isS s := hb0.2.1
  refine con_of (L := [some (av_R (some 158)), some (av_I a1), none, none]) (by decide +kernel) (Nat.le_of_ble_eq_true rfl) rfl ?_
  refine A_locI 1 rfl (fun ra1 => ?_)
  exact b_Seconds_fitsAlone_0   hb0 (H ra1)
def B_Seconds_fitsBehind_192 (G : cx_T) (s : Nat) (a1 : Int) (t0 : Int) (h : ah_T) (Q : Option av_T → ah_T → Prop) : Prop :=
 (t0 = 0 ∨ t0 = 1) ∧ Q (some (av_I t0)) h
theorem b_Seconds_fitsBehind_192 {G : cx_T} {s : Nat} {a1 : Int} {t0 : Int} {h : ah_T} {Q : Option av_T → ah_T → Prop} (hb0 : hb s h) (H : B_Seconds_fitsBehind_192 G s a1 t0 h Q ) : aw G (rm_R 2 0 0) m_Seconds_fitsBehind 0 0 192 [none, none, none, none, none, none, none] [av_I t0] h Q := by
  unfold B_Seconds_fitsBehind_192 at H
  have hS : isS s := hb0.2.1
  exact A_zret d_Seconds_fitsBehind_192 (by decide) rfl H.1 H.2
def B_Seconds_fitsBehind_187 (G : cx_T) (s : Nat) (a1 : Int) (h : ah_T) (Q : Option av_T → ah_T → Prop) : Prop :=
 B_Seconds_fitsBehind_192 G s a1 (1) h Q 
theorem b_Seconds_fitsBehind_187 {G : cx_T} {s : Nat} {a1 : Int} {h : ah_T} {Q : Option av_T → ah_T → Prop} (hb0 : hb s h) (H : B_Seconds_fitsBehind_187 G s a1 h Q ) : aw G (rm_R 2 0 0) m_Seconds_fitsBehind 0 0 187 [none, none, none, none, none, none, none] [] h Q := by
  unfold B_Seconds_fitsBehind_187 at H
  have hS : isS s := hb0.2.1
  refine A_iconst d_Seconds_fitsBehind_187 rfl ?_
  refine A_goto (tgt := 192) d_Seconds_fitsBehind_188 (by decide) ?_
  refine A_pc (pc' := 192) rfl ?_
  exact b_Seconds_fitsBehind_192    hb0 H
def B_Seconds_fitsBehind_173 (G : cx_T) (s : Nat) (a1 : Int) (v4 : Int) (h : ah_T) (Q : Option av_T → ah_T → Prop) : Prop :=
 con G 0 0 0 m_Seconds_asks [av_R (some 158), av_I 32] h (fun r h1 => ∃ z3 : Int, r = some (av_I z3) ∧ hb s h1 ∧ ((z3 = 0 → B_Seconds_fitsBehind_187 G s a1 h1 Q ) ∧ (¬ z3 = 0 → ((v4 = 0 → B_Seconds_fitsBehind_192 G s a1 (0) h1 Q ) ∧ (¬ v4 = 0 → B_Seconds_fitsBehind_187 G s a1 h1 Q )))))
theorem b_Seconds_fitsBehind_173 {G : cx_T} {s : Nat} {a1 : Int} {v4 : Int} {h : ah_T} {Q : Option av_T → ah_T → Prop} (hb0 : hb s h) (H : B_Seconds_fitsBehind_173 G s a1 v4 h Q ) : aw G (rm_R 2 0 0) m_Seconds_fitsBehind 0 0 173 [some (av_R (some 158)), none, none, none, some (av_I v4), none, none] [] h Q := by
  unfold B_Seconds_fitsBehind_173 at H
  have hS : isS s := hb0.2.1
  refine A_aload_n 0 d_Seconds_fitsBehind_173 rfl rfl ?_
  refine A_bipush d_Seconds_fitsBehind_174 rfl ?_
  refine A_callV1 m_Seconds_asks T_ok d_Seconds_fitsBehind_176 l_Seconds_74 k_Seconds_asks (hb_s hb0 sf_158) rfl (by decide +kernel) (by decide) (Nat.le_of_ble_eq_true rfl) H (fun r h1 hq => ?_)
  clear H
  obtain ⟨z3, rfl, hb2, H⟩ := hq
  refine A_if_eq (tgt := 187) d_Seconds_fitsBehind_179 (by decide) (fun c => ?_) (fun c => ?_)
  · replace H := H.1 c
    refine A_pc (pc' := 187) rfl ?_
    refine A_free (L' := [none, none, none, none, none, none, none]) trivial ?_
    exact b_Seconds_fitsBehind_187    hb2 H
  · replace H := H.2 c
    refine A_iload d_Seconds_fitsBehind_182 rfl ?_
    refine A_if_eq (tgt := 191) d_Seconds_fitsBehind_184 (by decide) (fun c => ?_) (fun c => ?_)
    · replace H := H.1 c
      refine A_iconst d_Seconds_fitsBehind_191 rfl ?_
      refine A_pc (pc' := 192) rfl ?_
      refine A_free (L' := [none, none, none, none, none, none, none]) trivial ?_
      exact b_Seconds_fitsBehind_192    hb2 H
    · replace H := H.2 c
      refine A_pc (pc' := 187) rfl ?_
      refine A_free (L' := [none, none, none, none, none, none, none]) trivial ?_
      exact b_Seconds_fitsBehind_187    hb2 H
def B_Seconds_fitsBehind_142 (G : cx_T) (s : Nat) (a1 : Int) (v4 : Int) (h : ah_T) (Q : Option av_T → ah_T → Prop) : Prop :=
 con G 0 0 0 m_Seconds_asks [av_R (some 158), av_I 16] h (fun r h1 => ∃ z3 : Int, r = some (av_I z3) ∧ hb s h1 ∧ ((z3 = 0 → B_Seconds_fitsBehind_173 G s a1 (v4) h1 Q ) ∧ (¬ z3 = 0 → ∀ x4 : Int, x4 = (if 0 ≤ v4 then v4 else w32 (0 - v4)) → -2147483648 ≤ x4 → x4 ≤ 2147483647 → ((x4 ≤ 7 → B_Seconds_fitsBehind_173 G s a1 (v4) h1 Q ) ∧ (¬ x4 ≤ 7 → ∀ x5 : Int, x5 = (if 0 ≤ v4 then v4 else w32 (0 - v4)) → -2147483648 ≤ x5 → x5 ≤ 2147483647 → ((x5 = 12 → B_Seconds_fitsBehind_173 G s a1 (v4) h1 Q ) ∧ (¬ x5 = 12 → Q (some (av_I 0)) h1)))))))
theorem b_Seconds_fitsBehind_142 {G : cx_T} {s : Nat} {a1 : Int} {v4 : Int} {h : ah_T} {Q : Option av_T → ah_T → Prop} (hb0 : hb s h) (H : B_Seconds_fitsBehind_142 G s a1 v4 h Q ) : aw G (rm_R 2 0 0) m_Seconds_fitsBehind 0 0 142 [some (av_R (some 158)), none, none, none, some (av_I v4), none, none] [] h Q := by
  unfold B_Seconds_fitsBehind_142 at H
  have hS : isS s := hb0.2.1
  refine A_aload_n 0 d_Seconds_fitsBehind_142 rfl rfl ?_
  refine A_bipush d_Seconds_fitsBehind_143 rfl ?_
  refine A_callV1 m_Seconds_asks T_ok d_Seconds_fitsBehind_145 l_Seconds_74 k_Seconds_asks (hb_s hb0 sf_158) rfl (by decide +kernel) (by decide) (Nat.le_of_ble_eq_true rfl) H (fun r h1 hq => ?_)
  clear H
  obtain ⟨z3, rfl, hb2, H⟩ := hq
  refine A_if_eq (tgt := 173) d_Seconds_fitsBehind_148 (by decide) (fun c => ?_) (fun c => ?_)
  · replace H := H.1 c
    refine A_pc (pc' := 173) rfl ?_
    exact b_Seconds_fitsBehind_173    hb2 H
  · replace H := H.2 c
    refine A_iload d_Seconds_fitsBehind_151 rfl ?_
    refine A_mabs (z := (if 0 ≤ v4 then v4 else w32 (0 - v4))) d_Seconds_fitsBehind_153 lm_Seconds_81 ma_abs (by decide) (by decide) (Nat.le_of_ble_eq_true rfl) rfl ?_
    refine A_nrI (fun x4 ex4 lx4 ux4 => ?_)
    replace H := H x4 ex4 lx4 ux4
    refine A_bipush d_Seconds_fitsBehind_156 rfl ?_
    refine A_icmp_le (tgt := 173) d_Seconds_fitsBehind_158 (by decide) (fun c => ?_) (fun c => ?_)
    · replace H := H.1 c
      refine A_pc (pc' := 173) rfl ?_
      exact b_Seconds_fitsBehind_173    hb2 H
    · replace H := H.2 c
      refine A_iload d_Seconds_fitsBehind_161 rfl ?_
      refine A_mabs (z := (if 0 ≤ v4 then v4 else w32 (0 - v4))) d_Seconds_fitsBehind_163 lm_Seconds_81 ma_abs (by decide) (by decide) (Nat.le_of_ble_eq_true rfl) rfl ?_
      refine A_nrI (fun x5 ex5 lx5 ux5 => ?_)
      replace H := H x5 ex5 lx5 ux5
      refine A_bipush d_Seconds_fitsBehind_166 rfl ?_
      refine A_icmp_eq (tgt := 173) d_Seconds_fitsBehind_168 (by decide) (fun c => ?_) (fun c => ?_)
      · replace H := H.1 c
        refine A_pc (pc' := 173) rfl ?_
        exact b_Seconds_fitsBehind_173    hb2 H
      · replace H := H.2 c
        refine A_iconst d_Seconds_fitsBehind_171 rfl ?_
        exact A_zret d_Seconds_fitsBehind_172 (by decide) rfl (by decide) H
def B_Seconds_fitsBehind_140 (G : cx_T) (s : Nat) (a1 : Int) (h : ah_T) (Q : Option av_T → ah_T → Prop) : Prop :=
 Q (some (av_I 0)) h
theorem b_Seconds_fitsBehind_140 {G : cx_T} {s : Nat} {a1 : Int} {h : ah_T} {Q : Option av_T → ah_T → Prop} (hb0 : hb s h) (H : B_Seconds_fitsBehind_140 G s a1 h Q ) : aw G (rm_R 2 0 0) m_Seconds_fitsBehind 0 0 140 [none, none, none, none, none, none, none] [] h Q := by
  unfold B_Seconds_fitsBehind_140 at H
  have hS : isS s := hb0.2.1
  refine A_iconst d_Seconds_fitsBehind_140 rfl ?_
  exact A_zret d_Seconds_fitsBehind_141 (by decide) rfl (by decide) H
def B_Seconds_fitsBehind_130 (G : cx_T) (s : Nat) (a1 : Int) (v4 : Int) (v5 : Int) (h : ah_T) (Q : Option av_T → ah_T → Prop) : Prop :=
 ((0 ≤ v4 → B_Seconds_fitsBehind_142 G s a1 (v4) h Q ) ∧ (¬ 0 ≤ v4 → ((0 ≤ v5 → B_Seconds_fitsBehind_142 G s a1 (v4) h Q ) ∧ (¬ 0 ≤ v5 → B_Seconds_fitsBehind_140 G s a1 h Q ))))
theorem b_Seconds_fitsBehind_130 {G : cx_T} {s : Nat} {a1 : Int} {v4 : Int} {v5 : Int} {h : ah_T} {Q : Option av_T → ah_T → Prop} (hb0 : hb s h) (H : B_Seconds_fitsBehind_130 G s a1 v4 v5 h Q ) : aw G (rm_R 2 0 0) m_Seconds_fitsBehind 0 0 130 [some (av_R (some 158)), none, none, none, some (av_I v4), some (av_I v5), none] [] h Q := by
  unfold B_Seconds_fitsBehind_130 at H
  have hS : isS s := hb0.2.1
  refine A_iload d_Seconds_fitsBehind_130 rfl ?_
  refine A_if_ge (tgt := 142) d_Seconds_fitsBehind_132 (by decide) (fun c => ?_) (fun c => ?_)
  · replace H := H.1 c
    refine A_pc (pc' := 142) rfl ?_
    refine A_free (L' := [some (av_R (some 158)), none, none, none, some (av_I v4), none, none]) (And.intro rfl (And.intro rfl trivial)) ?_
    exact b_Seconds_fitsBehind_142    hb0 H
  · replace H := H.2 c
    refine A_iload d_Seconds_fitsBehind_135 rfl ?_
    refine A_if_ge (tgt := 142) d_Seconds_fitsBehind_137 (by decide) (fun c => ?_) (fun c => ?_)
    · replace H := H.1 c
      refine A_pc (pc' := 142) rfl ?_
      refine A_free (L' := [some (av_R (some 158)), none, none, none, some (av_I v4), none, none]) (And.intro rfl (And.intro rfl trivial)) ?_
      exact b_Seconds_fitsBehind_142    hb0 H
    · replace H := H.2 c
      refine A_pc (pc' := 140) rfl ?_
      refine A_free (L' := [none, none, none, none, none, none, none]) trivial ?_
      exact b_Seconds_fitsBehind_140    hb0 H
def B_Seconds_fitsBehind_106 (G : cx_T) (s : Nat) (a1 : Int) (v4 : Int) (v5 : Int) (v6 : Int) (h : ah_T) (Q : Option av_T → ah_T → Prop) : Prop :=
 con G 0 0 0 m_Seconds_asks [av_R (some 158), av_I 8] h (fun r h1 => ∃ z3 : Int, r = some (av_I z3) ∧ hb s h1 ∧ ((z3 = 0 → B_Seconds_fitsBehind_142 G s a1 (v4) h1 Q ) ∧ (¬ z3 = 0 → ((v6 = 0 → B_Seconds_fitsBehind_142 G s a1 (v4) h1 Q ) ∧ (¬ v6 = 0 → ((v4 ≤ 0 → B_Seconds_fitsBehind_130 G s a1 (v4) (v5) h1 Q ) ∧ (¬ v4 ≤ 0 → ((0 < v5 → B_Seconds_fitsBehind_140 G s a1 h1 Q ) ∧ (¬ 0 < v5 → B_Seconds_fitsBehind_130 G s a1 (v4) (v5) h1 Q )))))))))
theorem b_Seconds_fitsBehind_106 {G : cx_T} {s : Nat} {a1 : Int} {v4 : Int} {v5 : Int} {v6 : Int} {h : ah_T} {Q : Option av_T → ah_T → Prop} (hb0 : hb s h) (H : B_Seconds_fitsBehind_106 G s a1 v4 v5 v6 h Q ) : aw G (rm_R 2 0 0) m_Seconds_fitsBehind 0 0 106 [some (av_R (some 158)), none, none, none, some (av_I v4), some (av_I v5), some (av_I v6)] [] h Q := by
  unfold B_Seconds_fitsBehind_106 at H
  have hS : isS s := hb0.2.1
  refine A_aload_n 0 d_Seconds_fitsBehind_106 rfl rfl ?_
  refine A_bipush d_Seconds_fitsBehind_107 rfl ?_
  refine A_callV1 m_Seconds_asks T_ok d_Seconds_fitsBehind_109 l_Seconds_74 k_Seconds_asks (hb_s hb0 sf_158) rfl (by decide +kernel) (by decide) (Nat.le_of_ble_eq_true rfl) H (fun r h1 hq => ?_)
  clear H
  obtain ⟨z3, rfl, hb2, H⟩ := hq
  refine A_if_eq (tgt := 142) d_Seconds_fitsBehind_112 (by decide) (fun c => ?_) (fun c => ?_)
  · replace H := H.1 c
    refine A_pc (pc' := 142) rfl ?_
    refine A_free (L' := [some (av_R (some 158)), none, none, none, some (av_I v4), none, none]) (And.intro rfl (And.intro rfl trivial)) ?_
    exact b_Seconds_fitsBehind_142    hb2 H
  · replace H := H.2 c
    refine A_iload d_Seconds_fitsBehind_115 rfl ?_
    refine A_if_eq (tgt := 142) d_Seconds_fitsBehind_117 (by decide) (fun c => ?_) (fun c => ?_)
    · replace H := H.1 c
      refine A_pc (pc' := 142) rfl ?_
      refine A_free (L' := [some (av_R (some 158)), none, none, none, some (av_I v4), none, none]) (And.intro rfl (And.intro rfl trivial)) ?_
      exact b_Seconds_fitsBehind_142    hb2 H
    · replace H := H.2 c
      refine A_iload d_Seconds_fitsBehind_120 rfl ?_
      refine A_if_le (tgt := 130) d_Seconds_fitsBehind_122 (by decide) (fun c => ?_) (fun c => ?_)
      · replace H := H.1 c
        refine A_pc (pc' := 130) rfl ?_
        refine A_free (L' := [some (av_R (some 158)), none, none, none, some (av_I v4), some (av_I v5), none]) (And.intro rfl (And.intro rfl (And.intro rfl trivial))) ?_
        exact b_Seconds_fitsBehind_130    hb2 H
      · replace H := H.2 c
        refine A_iload d_Seconds_fitsBehind_125 rfl ?_
        refine A_if_gt (tgt := 140) d_Seconds_fitsBehind_127 (by decide) (fun c => ?_) (fun c => ?_)
        · replace H := H.1 c
          refine A_pc (pc' := 140) rfl ?_
          refine A_free (L' := [none, none, none, none, none, none, none]) trivial ?_
          exact b_Seconds_fitsBehind_140    hb2 H
        · replace H := H.2 c
          refine A_pc (pc' := 130) rfl ?_
          refine A_free (L' := [some (av_R (some 158)), none, none, none, some (av_I v4), some (av_I v5), none]) (And.intro rfl (And.intro rfl (And.intro rfl trivial))) ?_
          exact b_Seconds_fitsBehind_130    hb2 H
def B_Seconds_fitsBehind_0 (G : cx_T) (s : Nat) (a1 : Int) (h : ah_T) (Q : Option av_T → ah_T → Prop) : Prop :=
 (0 ≤ a1 ∧ a1 < 8) ∧ ∀ x2 : Int, x2 = h.2.1 161 (a1).toNat → -2147483648 ≤ x2 → x2 ≤ 2147483647 → ∀ x5 : Int, x5 = h.2.1 160 (a1).toNat → -2147483648 ≤ x5 → x5 ≤ 2147483647 → ((-2147483648) ≤ (x2 - x5) ∧ (x2 - x5) ≤ 2147483647) ∧ ((-2147483648) ≤ (a1 - 1) ∧ (a1 - 1) ≤ 2147483647) ∧ (0 ≤ (a1 - 1) ∧ (a1 - 1) < 8) ∧ ∀ x9 : Int, x9 = h.2.1 161 ((a1 - 1)).toNat → -2147483648 ≤ x9 → x9 ≤ 2147483647 → ∀ x12 : Int, x12 = h.2.1 160 ((a1 - 1)).toNat → -2147483648 ≤ x12 → x12 ≤ 2147483647 → ((-2147483648) ≤ (x9 - x12) ∧ (x9 - x12) ≤ 2147483647) ∧ ((-2147483648) ≤ (x2 - x9) ∧ (x2 - x9) ≤ 2147483647) ∧ ((-2147483648) ≤ (x5 - x12) ∧ (x5 - x12) ≤ 2147483647) ∧ con G 1 0 0 m_Seconds_isAmong [av_I 129, av_I (x2 - x5)] h (fun r h24 => ∃ z26 : Int, r = some (av_I z26) ∧ hb s h24 ∧ con G 0 0 0 m_Seconds_asks [av_R (some 158), av_I 4] h24 (fun r h27 => ∃ z29 : Int, r = some (av_I z29) ∧ hb s h27 ∧ ((z29 = 0 → B_Seconds_fitsBehind_106 G s a1 ((x2 - x9)) ((x5 - x12)) (z26) h27 Q ) ∧ (¬ z29 = 0 → ((z26 = 0 → B_Seconds_fitsBehind_106 G s a1 ((x2 - x9)) ((x5 - x12)) (z26) h27 Q ) ∧ (¬ z26 = 0 → (((x2 - x9) = 0 → B_Seconds_fitsBehind_106 G s a1 ((x2 - x9)) ((x5 - x12)) (z26) h27 Q ) ∧ (¬ (x2 - x9) = 0 → ((-2147483648) ≤ (x2 - x5 - x9 + x12) ∧ (x2 - x5 - x9 + x12) ≤ 2147483647) ∧ con G 0 0 0 m_JMath_floorMod [av_I (x2 - x5 - x9 + x12), av_I 12] h27 (fun r h31 => ∃ z33 : Int, r = some (av_I z33) ∧ hb s h31 ∧ ((z33 = 0 → Q (some (av_I 0)) h31) ∧ (¬ z33 = 0 → B_Seconds_fitsBehind_106 G s a1 ((x2 - x9)) ((x5 - x12)) (z26) h31 Q )))))))))))
theorem b_Seconds_fitsBehind_0 {G : cx_T} {s : Nat} {a1 : Int} {h : ah_T} {Q : Option av_T → ah_T → Prop} (hb0 : hb s h) (H : B_Seconds_fitsBehind_0 G s a1 h Q ) : aw G (rm_R 2 0 0) m_Seconds_fitsBehind 0 0 0 [some (av_R (some 158)), some (av_I a1), none, none, none, none, none] [] h Q := by
  unfold B_Seconds_fitsBehind_0 at H
  have hS : isS s := hb0.2.1
  refine A_aload_n 0 d_Seconds_fitsBehind_0 rfl rfl ?_
  refine A_getAv (z := some 161) T_ok d_Seconds_fitsBehind_1 f_Seconds_19 (hb_s hb0 sf_158) (hb_r hb0 rff_158_7) ?_
  refine A_iload_n 1 d_Seconds_fitsBehind_4 rfl rfl ?_
  have g3 := H.1
  replace H := H.2
  refine A_ialoadf d_Seconds_fitsBehind_5 (hb_s hb0 sf_161) g3.1 g3.2 (fun x2 ex2 lx2 ux2 => ?_)
  replace H := H x2 ex2 lx2 ux2
  refine A_aload_n 0 d_Seconds_fitsBehind_6 rfl rfl ?_
  refine A_pc (pc' := 7) rfl ?_
  refine A_getAv (z := some 160) T_ok d_Seconds_fitsBehind_7 f_Seconds_15 (hb_s hb0 sf_158) (hb_r hb0 rff_158_6) ?_
  refine A_iload_n 1 d_Seconds_fitsBehind_10 rfl rfl ?_
  refine A_ialoadf d_Seconds_fitsBehind_11 (hb_s hb0 sf_160) g3.1 g3.2 (fun x5 ex5 lx5 ux5 => ?_)
  replace H := H x5 ex5 lx5 ux5
  have g6 := H.1
  replace H := H.2
  refine A_isubv (z := (x2 - x5)) d_Seconds_fitsBehind_12 (w32_to (by omega) (by unfold i32; omega)) ?_
  refine A_istore_n 2 (L' := [some (av_R (some 158)), some (av_I a1), some (av_I (x2 - x5)), none, none, none, none]) d_Seconds_fitsBehind_13 rfl (Nat.le_of_ble_eq_true rfl) rfl ?_
  refine A_aload_n 0 d_Seconds_fitsBehind_14 rfl rfl ?_
  refine A_pc (pc' := 15) rfl ?_
  refine A_getAv (z := some 161) T_ok d_Seconds_fitsBehind_15 f_Seconds_19 (hb_s hb0 sf_158) (hb_r hb0 rff_158_7) ?_
  refine A_iload_n 1 d_Seconds_fitsBehind_18 rfl rfl ?_
  refine A_iconst d_Seconds_fitsBehind_19 rfl ?_
  have g8 := H.1
  replace H := H.2
  refine A_isubv (z := (a1 - 1)) d_Seconds_fitsBehind_20 (w32_to (by omega) (by unfold i32; omega)) ?_
  have g10 := H.1
  replace H := H.2
  refine A_ialoadf d_Seconds_fitsBehind_21 (hb_s hb0 sf_161) g10.1 g10.2 (fun x9 ex9 lx9 ux9 => ?_)
  replace H := H x9 ex9 lx9 ux9
  refine A_aload_n 0 d_Seconds_fitsBehind_22 rfl rfl ?_
  refine A_pc (pc' := 23) rfl ?_
  refine A_getAv (z := some 160) T_ok d_Seconds_fitsBehind_23 f_Seconds_15 (hb_s hb0 sf_158) (hb_r hb0 rff_158_6) ?_
  refine A_iload_n 1 d_Seconds_fitsBehind_26 rfl rfl ?_
  refine A_iconst d_Seconds_fitsBehind_27 rfl ?_
  refine A_isubv (z := (a1 - 1)) d_Seconds_fitsBehind_28 (w32_to (by omega) (by unfold i32; omega)) ?_
  refine A_ialoadf d_Seconds_fitsBehind_29 (hb_s hb0 sf_160) g10.1 g10.2 (fun x12 ex12 lx12 ux12 => ?_)
  replace H := H x12 ex12 lx12 ux12
  have g13 := H.1
  replace H := H.2
  refine A_isubv (z := (x9 - x12)) d_Seconds_fitsBehind_30 (w32_to (by omega) (by unfold i32; omega)) ?_
  refine A_pc (pc' := 31) rfl ?_
  refine A_istore_n 3 (L' := [some (av_R (some 158)), some (av_I a1), some (av_I (x2 - x5)), some (av_I (x9 - x12)), none, none, none]) d_Seconds_fitsBehind_31 rfl (Nat.le_of_ble_eq_true rfl) rfl ?_
  refine A_aload_n 0 d_Seconds_fitsBehind_32 rfl rfl ?_
  refine A_getAv (z := some 161) T_ok d_Seconds_fitsBehind_33 f_Seconds_19 (hb_s hb0 sf_158) (hb_r hb0 rff_158_7) ?_
  refine A_iload_n 1 d_Seconds_fitsBehind_36 rfl rfl ?_
  refine A_ialoadv (z := x2) d_Seconds_fitsBehind_37 (hb_s hb0 sf_161) (by omega) (by omega) ex2.symm ?_
  refine A_aload_n 0 d_Seconds_fitsBehind_38 rfl rfl ?_
  refine A_pc (pc' := 39) rfl ?_
  refine A_getAv (z := some 161) T_ok d_Seconds_fitsBehind_39 f_Seconds_19 (hb_s hb0 sf_158) (hb_r hb0 rff_158_7) ?_
  refine A_iload_n 1 d_Seconds_fitsBehind_42 rfl rfl ?_
  refine A_iconst d_Seconds_fitsBehind_43 rfl ?_
  refine A_isubv (z := (a1 - 1)) d_Seconds_fitsBehind_44 (w32_to (by omega) (by unfold i32; omega)) ?_
  refine A_ialoadv (z := x9) d_Seconds_fitsBehind_45 (hb_s hb0 sf_161) (by omega) (by omega) ex9.symm ?_
  have g18 := H.1
  replace H := H.2
  refine A_isubv (z := (x2 - x9)) d_Seconds_fitsBehind_46 (w32_to (by omega) (by unfold i32; omega)) ?_
  refine A_pc (pc' := 47) rfl ?_
  refine A_istore (L' := [some (av_R (some 158)), some (av_I a1), some (av_I (x2 - x5)), some (av_I (x9 - x12)), some (av_I (x2 - x9)), none, none]) d_Seconds_fitsBehind_47 (Nat.le_of_ble_eq_true rfl) rfl ?_
  refine A_aload_n 0 d_Seconds_fitsBehind_49 rfl rfl ?_
  refine A_getAv (z := some 160) T_ok d_Seconds_fitsBehind_50 f_Seconds_15 (hb_s hb0 sf_158) (hb_r hb0 rff_158_6) ?_
  refine A_iload_n 1 d_Seconds_fitsBehind_53 rfl rfl ?_
  refine A_ialoadv (z := x5) d_Seconds_fitsBehind_54 (hb_s hb0 sf_160) (by omega) (by omega) ex5.symm ?_
  refine A_aload_n 0 d_Seconds_fitsBehind_55 rfl rfl ?_
  refine A_pc (pc' := 56) rfl ?_
  refine A_getAv (z := some 160) T_ok d_Seconds_fitsBehind_56 f_Seconds_15 (hb_s hb0 sf_158) (hb_r hb0 rff_158_6) ?_
  refine A_iload_n 1 d_Seconds_fitsBehind_59 rfl rfl ?_
  refine A_iconst d_Seconds_fitsBehind_60 rfl ?_
  refine A_isubv (z := (a1 - 1)) d_Seconds_fitsBehind_61 (w32_to (by omega) (by unfold i32; omega)) ?_
  refine A_ialoadv (z := x12) d_Seconds_fitsBehind_62 (hb_s hb0 sf_160) (by omega) (by omega) ex12.symm ?_
  have g23 := H.1
  replace H := H.2
  refine A_isubv (z := (x5 - x12)) d_Seconds_fitsBehind_63 (w32_to (by omega) (by unfold i32; omega)) ?_
  refine A_pc (pc' := 64) rfl ?_
  refine A_istore (L' := [some (av_R (some 158)), some (av_I a1), some (av_I (x2 - x5)), some (av_I (x9 - x12)), some (av_I (x2 - x9)), some (av_I (x5 - x12)), none]) d_Seconds_fitsBehind_64 (Nat.le_of_ble_eq_true rfl) rfl ?_
  refine A_sipush d_Seconds_fitsBehind_66 rfl ?_
  refine A_iload_n 2 d_Seconds_fitsBehind_69 rfl rfl ?_
  refine A_callS2 m_Seconds_isAmong d_Seconds_fitsBehind_70 l_Seconds_77 k_Seconds_isAmong (by decide +kernel) (by decide) (Nat.le_of_ble_eq_true rfl) H (fun r h24 hq => ?_)
  clear H
  obtain ⟨z26, rfl, hb25, H⟩ := hq
  refine A_istore (L' := [some (av_R (some 158)), some (av_I a1), some (av_I (x2 - x5)), some (av_I (x9 - x12)), some (av_I (x2 - x9)), some (av_I (x5 - x12)), some (av_I z26)]) d_Seconds_fitsBehind_73 (Nat.le_of_ble_eq_true rfl) rfl ?_
  refine A_aload_n 0 d_Seconds_fitsBehind_75 rfl rfl ?_
  refine A_iconst d_Seconds_fitsBehind_76 rfl ?_
  refine A_callV1 m_Seconds_asks T_ok d_Seconds_fitsBehind_77 l_Seconds_74 k_Seconds_asks (hb_s hb25 sf_158) rfl (by decide +kernel) (by decide) (Nat.le_of_ble_eq_true rfl) H (fun r h27 hq => ?_)
  clear H
  obtain ⟨z29, rfl, hb28, H⟩ := hq
  refine A_if_eq (tgt := 106) d_Seconds_fitsBehind_80 (by decide) (fun c => ?_) (fun c => ?_)
  · replace H := H.1 c
    refine A_pc (pc' := 106) rfl ?_
    refine A_free (L' := [some (av_R (some 158)), none, none, none, some (av_I (x2 - x9)), some (av_I (x5 - x12)), some (av_I z26)]) (And.intro rfl (And.intro rfl (And.intro rfl (And.intro rfl trivial)))) ?_
    exact b_Seconds_fitsBehind_106    hb28 H
  · replace H := H.2 c
    refine A_iload d_Seconds_fitsBehind_83 rfl ?_
    refine A_if_eq (tgt := 106) d_Seconds_fitsBehind_85 (by decide) (fun c => ?_) (fun c => ?_)
    · replace H := H.1 c
      refine A_pc (pc' := 106) rfl ?_
      refine A_free (L' := [some (av_R (some 158)), none, none, none, some (av_I (x2 - x9)), some (av_I (x5 - x12)), some (av_I z26)]) (And.intro rfl (And.intro rfl (And.intro rfl (And.intro rfl trivial)))) ?_
      exact b_Seconds_fitsBehind_106    hb28 H
    · replace H := H.2 c
      refine A_iload d_Seconds_fitsBehind_88 rfl ?_
      refine A_if_eq (tgt := 106) d_Seconds_fitsBehind_90 (by decide) (fun c => ?_) (fun c => ?_)
      · replace H := H.1 c
        refine A_pc (pc' := 106) rfl ?_
        refine A_free (L' := [some (av_R (some 158)), none, none, none, some (av_I (x2 - x9)), some (av_I (x5 - x12)), some (av_I z26)]) (And.intro rfl (And.intro rfl (And.intro rfl (And.intro rfl trivial)))) ?_
        exact b_Seconds_fitsBehind_106    hb28 H
      · replace H := H.2 c
        refine A_iload_n 2 d_Seconds_fitsBehind_93 rfl rfl ?_
        refine A_iload_n 3 d_Seconds_fitsBehind_94 rfl rfl ?_
        have g30 := H.1
        replace H := H.2
        refine A_isubv (z := (x2 - x5 - x9 + x12)) d_Seconds_fitsBehind_95 (w32_to (by omega) (by unfold i32; omega)) ?_
        refine A_bipush d_Seconds_fitsBehind_96 rfl ?_
        refine A_callS2 m_JMath_floorMod d_Seconds_fitsBehind_98 l_Seconds_71 k_JMath_floorMod (by decide +kernel) (by decide) (Nat.le_of_ble_eq_true rfl) H (fun r h31 hq => ?_)
        clear H
        obtain ⟨z33, rfl, hb32, H⟩ := hq
        refine A_if_ne (tgt := 106) d_Seconds_fitsBehind_101 (by decide) (fun c => ?_) (fun c => ?_)
        · replace H := H.2 c
          refine A_pc (pc' := 106) rfl ?_
          refine A_free (L' := [some (av_R (some 158)), none, none, none, some (av_I (x2 - x9)), some (av_I (x5 - x12)), some (av_I z26)]) (And.intro rfl (And.intro rfl (And.intro rfl (And.intro rfl trivial)))) ?_
          exact b_Seconds_fitsBehind_106    hb32 H
        · replace H := H.1 c
          refine A_iconst d_Seconds_fitsBehind_104 rfl ?_
          exact A_zret d_Seconds_fitsBehind_105 (by decide) rfl (by decide) H
theorem c_Seconds_fitsBehind {G : cx_T} {s : Nat} {a1 : Int} {h : ah_T} {Q : Option av_T → ah_T → Prop} (hb0 : hb s h) (H : i32 a1 → B_Seconds_fitsBehind_0 G s a1 h Q ) : con G 2 0 0 m_Seconds_fitsBehind [av_R (some 158), av_I a1] h Q := by
  have hS : isS s := hb0.2.1
  refine con_of (L := [some (av_R (some 158)), some (av_I a1), none, none, none, none, none]) (by decide +kernel) (Nat.le_of_ble_eq_true rfl) rfl ?_
  refine A_locI 1 rfl (fun ra1 => ?_)
  exact b_Seconds_fitsBehind_0   hb0 (H ra1)
def B_Seconds_fitsLeap_91 (G : cx_T) (s : Nat) (a1 : Int) (t0 : Int) (h : ah_T) (Q : Option av_T → ah_T → Prop) : Prop :=
 (t0 = 0 ∨ t0 = 1) ∧ Q (some (av_I t0)) h
theorem b_Seconds_fitsLeap_91 {G : cx_T} {s : Nat} {a1 : Int} {t0 : Int} {h : ah_T} {Q : Option av_T → ah_T → Prop} (hb0 : hb s h) (H : B_Seconds_fitsLeap_91 G s a1 t0 h Q ) : aw G (rm_R 1 0 0) m_Seconds_fitsLeap 0 0 91 [none, none, none, none] [av_I t0] h Q := by
  unfold B_Seconds_fitsLeap_91 at H
  have hS : isS s := hb0.2.1
  exact A_zret d_Seconds_fitsLeap_91 (by decide) rfl H.1 H.2
def B_Seconds_fitsLeap_86 (G : cx_T) (s : Nat) (a1 : Int) (h : ah_T) (Q : Option av_T → ah_T → Prop) : Prop :=
 B_Seconds_fitsLeap_91 G s a1 (1) h Q 
theorem b_Seconds_fitsLeap_86 {G : cx_T} {s : Nat} {a1 : Int} {h : ah_T} {Q : Option av_T → ah_T → Prop} (hb0 : hb s h) (H : B_Seconds_fitsLeap_86 G s a1 h Q ) : aw G (rm_R 1 0 0) m_Seconds_fitsLeap 0 0 86 [none, none, none, none] [] h Q := by
  unfold B_Seconds_fitsLeap_86 at H
  have hS : isS s := hb0.2.1
  refine A_iconst d_Seconds_fitsLeap_86 rfl ?_
  refine A_goto (tgt := 91) d_Seconds_fitsLeap_87 (by decide) ?_
  refine A_pc (pc' := 91) rfl ?_
  exact b_Seconds_fitsLeap_91    hb0 H
def B_Seconds_fitsLeap_68 (G : cx_T) (s : Nat) (a1 : Int) (h : ah_T) (Q : Option av_T → ah_T → Prop) : Prop :=
 B_Seconds_fitsLeap_91 G s a1 (1) h Q 
theorem b_Seconds_fitsLeap_68 {G : cx_T} {s : Nat} {a1 : Int} {h : ah_T} {Q : Option av_T → ah_T → Prop} (hb0 : hb s h) (H : B_Seconds_fitsLeap_68 G s a1 h Q ) : aw G (rm_R 1 0 0) m_Seconds_fitsLeap 0 0 68 [none, none, none, none] [] h Q := by
  unfold B_Seconds_fitsLeap_68 at H
  have hS : isS s := hb0.2.1
  refine A_iconst d_Seconds_fitsLeap_68 rfl ?_
  refine A_goto (tgt := 91) d_Seconds_fitsLeap_69 (by decide) ?_
  refine A_pc (pc' := 91) rfl ?_
  exact b_Seconds_fitsLeap_91    hb0 H
def B_Seconds_fitsLeap_51 (G : cx_T) (s : Nat) (a1 : Int) (h : ah_T) (Q : Option av_T → ah_T → Prop) : Prop :=
 Q (some (av_I 1)) h
theorem b_Seconds_fitsLeap_51 {G : cx_T} {s : Nat} {a1 : Int} {h : ah_T} {Q : Option av_T → ah_T → Prop} (hb0 : hb s h) (H : B_Seconds_fitsLeap_51 G s a1 h Q ) : aw G (rm_R 1 0 0) m_Seconds_fitsLeap 0 0 51 [none, none, none, none] [] h Q := by
  unfold B_Seconds_fitsLeap_51 at H
  have hS : isS s := hb0.2.1
  refine A_iconst d_Seconds_fitsLeap_51 rfl ?_
  exact A_zret d_Seconds_fitsLeap_52 (by decide) rfl (by decide) H
def B_Seconds_fitsLeap_0 (G : cx_T) (s : Nat) (a1 : Int) (h : ah_T) (Q : Option av_T → ah_T → Prop) : Prop :=
 ((-2147483648) ≤ (a1 - 1) ∧ (a1 - 1) ≤ 2147483647) ∧ (0 ≤ (a1 - 1) ∧ (a1 - 1) < 8) ∧ ∀ x3 : Int, x3 = h.2.1 161 ((a1 - 1)).toNat → -2147483648 ≤ x3 → x3 ≤ 2147483647 → ((-2147483648) ≤ (a1 - 2) ∧ (a1 - 2) ≤ 2147483647) ∧ (0 ≤ (a1 - 2) ∧ (a1 - 2) < 8) ∧ ∀ x7 : Int, x7 = h.2.1 161 ((a1 - 2)).toNat → -2147483648 ≤ x7 → x7 ≤ 2147483647 → ((-2147483648) ≤ (x3 - x7) ∧ (x3 - x7) ≤ 2147483647) ∧ (0 ≤ a1 ∧ a1 < 8) ∧ ∀ x11 : Int, x11 = h.2.1 161 (a1).toNat → -2147483648 ≤ x11 → x11 ≤ 2147483647 → ((-2147483648) ≤ (x11 - x3) ∧ (x11 - x3) ≤ 2147483647) ∧ con G 0 0 0 m_Seconds_asks [av_R (some 158), av_I 64] h (fun r h16 => ∃ z18 : Int, r = some (av_I z18) ∧ hb s h16 ∧ ((z18 = 0 → B_Seconds_fitsLeap_51 G s a1 h16 Q ) ∧ (¬ z18 = 0 → ∀ x19 : Int, x19 = (if 0 ≤ (x3 - x7) then (x3 - x7) else w32 (0 - (x3 - x7))) → -2147483648 ≤ x19 → x19 ≤ 2147483647 → ((4 < x19 → (((x3 - x7) ≤ 0 → (((x11 - x3) = 1 → B_Seconds_fitsLeap_86 G s a1 h16 Q ) ∧ (¬ (x11 - x3) = 1 → (((x11 - x3) = 2 → B_Seconds_fitsLeap_86 G s a1 h16 Q ) ∧ (¬ (x11 - x3) = 2 → B_Seconds_fitsLeap_91 G s a1 (0) h16 Q ))))) ∧ (¬ (x3 - x7) ≤ 0 → (((x11 - x3) = (-1) → B_Seconds_fitsLeap_68 G s a1 h16 Q ) ∧ (¬ (x11 - x3) = (-1) → (((x11 - x3) = (-2) → B_Seconds_fitsLeap_68 G s a1 h16 Q ) ∧ (¬ (x11 - x3) = (-2) → B_Seconds_fitsLeap_91 G s a1 (0) h16 Q ))))))) ∧ (¬ 4 < x19 → B_Seconds_fitsLeap_51 G s a1 h16 Q )))))
theorem b_Seconds_fitsLeap_0 {G : cx_T} {s : Nat} {a1 : Int} {h : ah_T} {Q : Option av_T → ah_T → Prop} (hb0 : hb s h) (H : B_Seconds_fitsLeap_0 G s a1 h Q ) : aw G (rm_R 1 0 0) m_Seconds_fitsLeap 0 0 0 [some (av_R (some 158)), some (av_I a1), none, none] [] h Q := by
  unfold B_Seconds_fitsLeap_0 at H
  have hS : isS s := hb0.2.1
  refine A_aload_n 0 d_Seconds_fitsLeap_0 rfl rfl ?_
  refine A_getAv (z := some 161) T_ok d_Seconds_fitsLeap_1 f_Seconds_19 (hb_s hb0 sf_158) (hb_r hb0 rff_158_7) ?_
  refine A_iload_n 1 d_Seconds_fitsLeap_4 rfl rfl ?_
  refine A_iconst d_Seconds_fitsLeap_5 rfl ?_
  have g2 := H.1
  replace H := H.2
  refine A_isubv (z := (a1 - 1)) d_Seconds_fitsLeap_6 (w32_to (by omega) (by unfold i32; omega)) ?_
  refine A_pc (pc' := 7) rfl ?_
  have g4 := H.1
  replace H := H.2
  refine A_ialoadf d_Seconds_fitsLeap_7 (hb_s hb0 sf_161) g4.1 g4.2 (fun x3 ex3 lx3 ux3 => ?_)
  replace H := H x3 ex3 lx3 ux3
  refine A_aload_n 0 d_Seconds_fitsLeap_8 rfl rfl ?_
  refine A_getAv (z := some 161) T_ok d_Seconds_fitsLeap_9 f_Seconds_19 (hb_s hb0 sf_158) (hb_r hb0 rff_158_7) ?_
  refine A_iload_n 1 d_Seconds_fitsLeap_12 rfl rfl ?_
  refine A_iconst d_Seconds_fitsLeap_13 rfl ?_
  have g6 := H.1
  replace H := H.2
  refine A_isubv (z := (a1 - 2)) d_Seconds_fitsLeap_14 (w32_to (by omega) (by unfold i32; omega)) ?_
  refine A_pc (pc' := 15) rfl ?_
  have g8 := H.1
  replace H := H.2
  refine A_ialoadf d_Seconds_fitsLeap_15 (hb_s hb0 sf_161) g8.1 g8.2 (fun x7 ex7 lx7 ux7 => ?_)
  replace H := H x7 ex7 lx7 ux7
  have g9 := H.1
  replace H := H.2
  refine A_isubv (z := (x3 - x7)) d_Seconds_fitsLeap_16 (w32_to (by omega) (by unfold i32; omega)) ?_
  refine A_istore_n 2 (L' := [some (av_R (some 158)), some (av_I a1), some (av_I (x3 - x7)), none]) d_Seconds_fitsLeap_17 rfl (Nat.le_of_ble_eq_true rfl) rfl ?_
  refine A_aload_n 0 d_Seconds_fitsLeap_18 rfl rfl ?_
  refine A_getAv (z := some 161) T_ok d_Seconds_fitsLeap_19 f_Seconds_19 (hb_s hb0 sf_158) (hb_r hb0 rff_158_7) ?_
  refine A_iload_n 1 d_Seconds_fitsLeap_22 rfl rfl ?_
  refine A_pc (pc' := 23) rfl ?_
  have g12 := H.1
  replace H := H.2
  refine A_ialoadf d_Seconds_fitsLeap_23 (hb_s hb0 sf_161) g12.1 g12.2 (fun x11 ex11 lx11 ux11 => ?_)
  replace H := H x11 ex11 lx11 ux11
  refine A_aload_n 0 d_Seconds_fitsLeap_24 rfl rfl ?_
  refine A_getAv (z := some 161) T_ok d_Seconds_fitsLeap_25 f_Seconds_19 (hb_s hb0 sf_158) (hb_r hb0 rff_158_7) ?_
  refine A_iload_n 1 d_Seconds_fitsLeap_28 rfl rfl ?_
  refine A_iconst d_Seconds_fitsLeap_29 rfl ?_
  refine A_isubv (z := (a1 - 1)) d_Seconds_fitsLeap_30 (w32_to (by omega) (by unfold i32; omega)) ?_
  refine A_pc (pc' := 31) rfl ?_
  refine A_ialoadv (z := x3) d_Seconds_fitsLeap_31 (hb_s hb0 sf_161) (by omega) (by omega) ex3.symm ?_
  have g15 := H.1
  replace H := H.2
  refine A_isubv (z := (x11 - x3)) d_Seconds_fitsLeap_32 (w32_to (by omega) (by unfold i32; omega)) ?_
  refine A_istore_n 3 (L' := [some (av_R (some 158)), some (av_I a1), some (av_I (x3 - x7)), some (av_I (x11 - x3))]) d_Seconds_fitsLeap_33 rfl (Nat.le_of_ble_eq_true rfl) rfl ?_
  refine A_aload_n 0 d_Seconds_fitsLeap_34 rfl rfl ?_
  refine A_bipush d_Seconds_fitsLeap_35 rfl ?_
  refine A_callV1 m_Seconds_asks T_ok d_Seconds_fitsLeap_37 l_Seconds_74 k_Seconds_asks (hb_s hb0 sf_158) rfl (by decide +kernel) (by decide) (Nat.le_of_ble_eq_true rfl) H (fun r h16 hq => ?_)
  clear H
  obtain ⟨z18, rfl, hb17, H⟩ := hq
  refine A_if_eq (tgt := 51) d_Seconds_fitsLeap_40 (by decide) (fun c => ?_) (fun c => ?_)
  · replace H := H.1 c
    refine A_pc (pc' := 51) rfl ?_
    refine A_free (L' := [none, none, none, none]) trivial ?_
    exact b_Seconds_fitsLeap_51    hb17 H
  · replace H := H.2 c
    refine A_iload_n 2 d_Seconds_fitsLeap_43 rfl rfl ?_
    refine A_mabs (z := (if 0 ≤ (x3 - x7) then (x3 - x7) else w32 (0 - (x3 - x7)))) d_Seconds_fitsLeap_44 lm_Seconds_81 ma_abs (by decide) (by decide) (Nat.le_of_ble_eq_true rfl) rfl ?_
    refine A_nrI (fun x19 ex19 lx19 ux19 => ?_)
    replace H := H x19 ex19 lx19 ux19
    refine A_iconst d_Seconds_fitsLeap_47 rfl ?_
    refine A_icmp_gt (tgt := 53) d_Seconds_fitsLeap_48 (by decide) (fun c => ?_) (fun c => ?_)
    · replace H := H.1 c
      refine A_iload_n 2 d_Seconds_fitsLeap_53 rfl rfl ?_
      refine A_if_le (tgt := 76) d_Seconds_fitsLeap_54 (by decide) (fun c => ?_) (fun c => ?_)
      · replace H := H.1 c
        refine A_iload_n 3 d_Seconds_fitsLeap_76 rfl rfl ?_
        refine A_iconst d_Seconds_fitsLeap_77 rfl ?_
        refine A_icmp_eq (tgt := 86) d_Seconds_fitsLeap_78 (by decide) (fun c => ?_) (fun c => ?_)
        · replace H := H.1 c
          refine A_pc (pc' := 86) rfl ?_
          refine A_free (L' := [none, none, none, none]) trivial ?_
          exact b_Seconds_fitsLeap_86    hb17 H
        · replace H := H.2 c
          refine A_iload_n 3 d_Seconds_fitsLeap_81 rfl rfl ?_
          refine A_iconst d_Seconds_fitsLeap_82 rfl ?_
          refine A_icmp_ne (tgt := 90) d_Seconds_fitsLeap_83 (by decide) (fun c => ?_) (fun c => ?_)
          · replace H := H.2 c
            refine A_iconst d_Seconds_fitsLeap_90 rfl ?_
            refine A_pc (pc' := 91) rfl ?_
            refine A_free (L' := [none, none, none, none]) trivial ?_
            exact b_Seconds_fitsLeap_91    hb17 H
          · replace H := H.1 c
            refine A_pc (pc' := 86) rfl ?_
            refine A_free (L' := [none, none, none, none]) trivial ?_
            exact b_Seconds_fitsLeap_86    hb17 H
      · replace H := H.2 c
        refine A_iload_n 3 d_Seconds_fitsLeap_57 rfl rfl ?_
        refine A_iconst d_Seconds_fitsLeap_58 rfl ?_
        refine A_icmp_eq (tgt := 68) d_Seconds_fitsLeap_59 (by decide) (fun c => ?_) (fun c => ?_)
        · replace H := H.1 c
          refine A_pc (pc' := 68) rfl ?_
          refine A_free (L' := [none, none, none, none]) trivial ?_
          exact b_Seconds_fitsLeap_68    hb17 H
        · replace H := H.2 c
          refine A_iload_n 3 d_Seconds_fitsLeap_62 rfl rfl ?_
          refine A_bipush d_Seconds_fitsLeap_63 rfl ?_
          refine A_icmp_ne (tgt := 72) d_Seconds_fitsLeap_65 (by decide) (fun c => ?_) (fun c => ?_)
          · replace H := H.2 c
            refine A_iconst d_Seconds_fitsLeap_72 rfl ?_
            refine A_goto (tgt := 91) d_Seconds_fitsLeap_73 (by decide) ?_
            refine A_pc (pc' := 91) rfl ?_
            refine A_free (L' := [none, none, none, none]) trivial ?_
            exact b_Seconds_fitsLeap_91    hb17 H
          · replace H := H.1 c
            refine A_pc (pc' := 68) rfl ?_
            refine A_free (L' := [none, none, none, none]) trivial ?_
            exact b_Seconds_fitsLeap_68    hb17 H
    · replace H := H.2 c
      refine A_pc (pc' := 51) rfl ?_
      refine A_free (L' := [none, none, none, none]) trivial ?_
      exact b_Seconds_fitsLeap_51    hb17 H
theorem c_Seconds_fitsLeap {G : cx_T} {s : Nat} {a1 : Int} {h : ah_T} {Q : Option av_T → ah_T → Prop} (hb0 : hb s h) (H : i32 a1 → B_Seconds_fitsLeap_0 G s a1 h Q ) : con G 1 0 0 m_Seconds_fitsLeap [av_R (some 158), av_I a1] h Q := by
  have hS : isS s := hb0.2.1
  refine con_of (L := [some (av_R (some 158)), some (av_I a1), none, none]) (by decide +kernel) (Nat.le_of_ble_eq_true rfl) rfl ?_
  refine A_locI 1 rfl (fun ra1 => ?_)
  exact b_Seconds_fitsLeap_0   hb0 (H ra1)
def B_Seconds_keep_43 (G : cx_T) (s : Nat) (a1 : Int) (h : ah_T) (Q : Option av_T → ah_T → Prop) : Prop :=
 Q none h
theorem b_Seconds_keep_43 {G : cx_T} {s : Nat} {a1 : Int} {h : ah_T} {Q : Option av_T → ah_T → Prop} (hb0 : hb s h) (H : B_Seconds_keep_43 G s a1 h Q ) : aw G (rm_R 0 0 0) m_Seconds_keep 0 0 43 [none, none, none] [] h Q := by
  unfold B_Seconds_keep_43 at H
  have hS : isS s := hb0.2.1
  exact A_vret d_Seconds_keep_43 (by decide) rfl H
def B_Seconds_keep_0 (G : cx_T) (s : Nat) (a1 : Int) (h : ah_T) (Q : Option av_T → ah_T → Prop) : Prop :=
 ∀ x1 : Int, x1 = ((Int32.ofInt a1) >>> (Int32.ofInt 6 &&& 31)).toInt → (-2147483648) ≤ x1 → x1 ≤ 2147483647 → ((x1 < 0 → B_Seconds_keep_43 G s a1 h Q ) ∧ (¬ x1 < 0 → ((1563 ≤ x1 → B_Seconds_keep_43 G s a1 h Q ) ∧ (¬ 1563 ≤ x1 → (0 ≤ x1 ∧ x1 < 1563) ∧ ∀ x4 : Int, x4 = h.2.2.1 159 (x1).toNat → -9223372036854775808 ≤ x4 → x4 ≤ 9223372036854775807 → ∀ x6 : Int, x6 = ((Int32.ofInt a1) &&& (Int32.ofInt 63)).toInt → (-2147483648) ≤ x6 → x6 ≤ 2147483647 → ∀ x7 : Int, x7 = ((Int64.ofInt 1) <<< ((Int32.ofInt x6).toInt64 &&& 63)).toInt → (-9223372036854775808) ≤ x7 → x7 ≤ 9223372036854775807 → ∀ x8 : Int, x8 = ((Int64.ofInt x4) ||| (Int64.ofInt x7)).toInt → (-9223372036854775808) ≤ x8 → x8 ≤ 9223372036854775807 → ∀ h9 : ah_T, h9 = st_l h 159 (x1).toNat x8 → ∀ x11 : Int, x11 = h9.2.1 158 1 → -2147483648 ≤ x11 → x11 ≤ 2147483647 → ((-2147483648) ≤ (x11 + 1) ∧ (x11 + 1) ≤ 2147483647) ∧ ∀ h13 : ah_T, h13 = st_i h9 158 1 (x11 + 1) → B_Seconds_keep_43 G s a1 h13 Q ))))
theorem b_Seconds_keep_0 {G : cx_T} {s : Nat} {a1 : Int} {h : ah_T} {Q : Option av_T → ah_T → Prop} (hb0 : hb s h) (H : B_Seconds_keep_0 G s a1 h Q ) : aw G (rm_R 0 0 0) m_Seconds_keep 0 0 0 [some (av_R (some 158)), some (av_I a1), none] [] h Q := by
  unfold B_Seconds_keep_0 at H
  have hS : isS s := hb0.2.1
  refine A_iload_n 1 d_Seconds_keep_0 rfl rfl ?_
  refine A_bipush d_Seconds_keep_1 rfl ?_
  refine A_ishr d_Seconds_keep_3 ?_
  refine A_nrI (fun x1 ex1 lx1 ux1 => ?_)
  replace H := H x1 ex1 lx1 ux1
  refine A_istore_n 2 (L' := [some (av_R (some 158)), some (av_I a1), some (av_I x1)]) d_Seconds_keep_4 rfl (Nat.le_of_ble_eq_true rfl) rfl ?_
  refine A_iload_n 2 d_Seconds_keep_5 rfl rfl ?_
  refine A_pc (pc' := 6) rfl ?_
  refine A_if_lt (tgt := 43) d_Seconds_keep_6 (by decide) (fun c => ?_) (fun c => ?_)
  · replace H := H.1 c
    refine A_pc (pc' := 43) rfl ?_
    refine A_free (L' := [none, none, none]) trivial ?_
    exact b_Seconds_keep_43    hb0 H
  · replace H := H.2 c
    refine A_iload_n 2 d_Seconds_keep_9 rfl rfl ?_
    refine A_aload_n 0 d_Seconds_keep_10 rfl rfl ?_
    refine A_getAv (z := some 159) T_ok d_Seconds_keep_11 f_Seconds_11 (hb_s hb0 sf_158) (hb_r hb0 rff_158_0) ?_
    refine A_alenN d_Seconds_keep_14 (hb_s hb0 sf_159) (by decide) (by decide) ?_
    refine A_icmp_ge (tgt := 43) d_Seconds_keep_15 (by decide) (fun c => ?_) (fun c => ?_)
    · replace H := H.1 c
      refine A_pc (pc' := 43) rfl ?_
      refine A_free (L' := [none, none, none]) trivial ?_
      exact b_Seconds_keep_43    hb0 H
    · replace H := H.2 c
      refine A_aload_n 0 d_Seconds_keep_18 rfl rfl ?_
      refine A_getAv (z := some 159) T_ok d_Seconds_keep_19 f_Seconds_11 (hb_s hb0 sf_158) (hb_r hb0 rff_158_0) ?_
      refine A_iload_n 2 d_Seconds_keep_22 rfl rfl ?_
      refine A_dup2RI d_Seconds_keep_23 ?_
      have g5 := H.1
      replace H := H.2
      refine A_laloadf d_Seconds_keep_24 (hb_s hb0 sf_159) g5.1 g5.2 (fun x4 ex4 lx4 ux4 => ?_)
      replace H := H x4 ex4 lx4 ux4
      refine A_pc (pc' := 25) rfl ?_
      refine A_lconst_1 d_Seconds_keep_25 ?_
      refine A_iload_n 1 d_Seconds_keep_26 rfl rfl ?_
      refine A_bipush d_Seconds_keep_27 rfl ?_
      refine A_iand d_Seconds_keep_29 ?_
      refine A_nrI (fun x6 ex6 lx6 ux6 => ?_)
      replace H := H x6 ex6 lx6 ux6
      refine A_lshl d_Seconds_keep_30 ?_
      refine A_nrL (fun x7 ex7 lx7 ux7 => ?_)
      replace H := H x7 ex7 lx7 ux7
      refine A_lor d_Seconds_keep_31 ?_
      refine A_nrL (fun x8 ex8 lx8 ux8 => ?_)
      replace H := H x8 ex8 lx8 ux8
      refine A_pc (pc' := 32) rfl ?_
      refine A_lastoreN d_Seconds_keep_32 (hb_s hb0 sf_159) g5.1 g5.2 ?_
      refine A_hn (fun h9 eh9 => ?_)
      have hb10 := hb_l hb0 eh9
      replace H := H h9 eh9
      refine A_aload_n 0 d_Seconds_keep_33 rfl rfl ?_
      refine A_dupR d_Seconds_keep_34 ?_
      refine A_getIf T_ok d_Seconds_keep_35 f_Seconds_22 (hb_s hb10 sf_158) (fun x11 ex11 lx11 ux11 => ?_)
      replace H := H x11 ex11 lx11 ux11
      refine A_iconst d_Seconds_keep_38 rfl ?_
      have g12 := H.1
      replace H := H.2
      refine A_iaddv (z := (x11 + 1)) d_Seconds_keep_39 (w32_to (by omega) (by unfold i32; omega)) ?_
      refine A_pc (pc' := 40) rfl ?_
      refine A_putI T_ok d_Seconds_keep_40 f_Seconds_22 (hb_s hb10 sf_158) fin_f ?_
      refine A_hn (fun h13 eh13 => ?_)
      have hb14 := hb_i hb10 eh13
      replace H := H h13 eh13
      refine A_pc (pc' := 43) rfl ?_
      refine A_free (L' := [none, none, none]) trivial ?_
      exact b_Seconds_keep_43    hb14 H
theorem c_Seconds_keep {G : cx_T} {s : Nat} {a1 : Int} {h : ah_T} {Q : Option av_T → ah_T → Prop} (hb0 : hb s h) (H : i32 a1 → B_Seconds_keep_0 G s a1 h Q ) : con G 0 0 0 m_Seconds_keep [av_R (some 158), av_I a1] h Q := by
  have hS : isS s := hb0.2.1
  refine con_of (L := [some (av_R (some 158)), some (av_I a1), none]) (by decide +kernel) (Nat.le_of_ble_eq_true rfl) rfl ?_
  refine A_locI 1 rfl (fun ra1 => ?_)
  exact b_Seconds_keep_0   hb0 (H ra1)
def B_Seconds_extend_93 (G : cx_T) (s : Nat) (dd : Nat) (a1 : Int) (a2 : Int) (v3 : Int) (h : ah_T) (Q : Option av_T → ah_T → Prop) (X25 : Int → ah_T → Prop) : Prop :=
 ((-2147483648) ≤ (v3 + 1) ∧ (v3 + 1) ≤ 2147483647) ∧ X25 ((v3 + 1)) h
theorem b_Seconds_extend_93 {G : cx_T} {s : Nat} {dd : Nat} {a1 : Int} {a2 : Int} (hdd : 3 ≤ dd) {v3 : Int} {h : ah_T} {Q : Option av_T → ah_T → Prop} {X25 : Int → ah_T → Prop} (hX25 : ∀ (v3 : Int) (h : ah_T), hb s h → X25 v3 h → aw G (rm_R (dd + 1) 0 0) m_Seconds_extend 0 0 25 [some (av_R (some 158)), some (av_I a1), some (av_I a2), some (av_I v3)] [] h Q) (hb0 : hb s h) (H : B_Seconds_extend_93 G s dd a1 a2 v3 h Q X25) : aw G (rm_R (dd + 1) 0 0) m_Seconds_extend 0 0 93 [some (av_R (some 158)), some (av_I a1), some (av_I a2), some (av_I v3)] [] h Q := by
  unfold B_Seconds_extend_93 at H
  have hS : isS s := hb0.2.1
  have g1 := H.1
  replace H := H.2
  refine A_iincv (z := (v3 + 1)) (L' := [some (av_R (some 158)), some (av_I a1), some (av_I a2), some (av_I (v3 + 1))]) d_Seconds_extend_93 rfl (w32_to (by omega) (by unfold i32; omega)) rfl ?_
  refine A_goto (tgt := 25) d_Seconds_extend_96 (by decide) ?_
  refine A_pc (pc' := 25) rfl ?_
  exact hX25 ((v3 + 1)) h  hb0 H
def B_Seconds_extend_78 (G : cx_T) (s : Nat) (dd : Nat) (a1 : Int) (a2 : Int) (v3 : Int) (h : ah_T) (Q : Option av_T → ah_T → Prop) (X25 : Int → ah_T → Prop) : Prop :=
 ((-2147483648) ≤ (a1 + 1) ∧ (a1 + 1) ≤ 2147483647) ∧ ∀ x2 : Int, x2 = h.2.1 158 3 → -2147483648 ≤ x2 → x2 ≤ 2147483647 → ∀ x3 : Int, x3 = a2 * x2 → ((-2147483648) ≤ x3 ∧ x3 ≤ 2147483647) ∧ ((-2147483648) ≤ (x3 + v3) ∧ (x3 + v3) ≤ 2147483647) ∧ con G dd 0 0 m_Seconds_extend [av_R (some 158), av_I (a1 + 1), av_I (x3 + v3)] h (fun r h6 => r = none ∧ hb s h6 ∧ B_Seconds_extend_93 G s dd a1 a2 (v3) h6 Q X25)
theorem b_Seconds_extend_78 {G : cx_T} {s : Nat} {dd : Nat} {a1 : Int} {a2 : Int} (hdd : 3 ≤ dd) {v3 : Int} {h : ah_T} {Q : Option av_T → ah_T → Prop} {X25 : Int → ah_T → Prop} (hX25 : ∀ (v3 : Int) (h : ah_T), hb s h → X25 v3 h → aw G (rm_R (dd + 1) 0 0) m_Seconds_extend 0 0 25 [some (av_R (some 158)), some (av_I a1), some (av_I a2), some (av_I v3)] [] h Q) (hb0 : hb s h) (H : B_Seconds_extend_78 G s dd a1 a2 v3 h Q X25) : aw G (rm_R (dd + 1) 0 0) m_Seconds_extend 0 0 78 [some (av_R (some 158)), some (av_I a1), some (av_I a2), some (av_I v3)] [] h Q := by
  unfold B_Seconds_extend_78 at H
  have hS : isS s := hb0.2.1
  refine A_aload_n 0 d_Seconds_extend_78 rfl rfl ?_
  refine A_iload_n 1 d_Seconds_extend_79 rfl rfl ?_
  refine A_iconst d_Seconds_extend_80 rfl ?_
  have g1 := H.1
  replace H := H.2
  refine A_iaddv (z := (a1 + 1)) d_Seconds_extend_81 (w32_to (by omega) (by unfold i32; omega)) ?_
  refine A_iload_n 2 d_Seconds_extend_82 rfl rfl ?_
  refine A_pc (pc' := 83) rfl ?_
  refine A_aload_n 0 d_Seconds_extend_83 rfl rfl ?_
  refine A_getIf T_ok d_Seconds_extend_84 f_Seconds_35 (hb_s hb0 sf_158) (fun x2 ex2 lx2 ux2 => ?_)
  replace H := H x2 ex2 lx2 ux2
  obtain ⟨x3, ex3⟩ : ∃ z : Int, z = a2 * x2 := ⟨_, rfl⟩
  replace H := H x3 ex3
  have g4 := H.1
  replace H := H.2
  refine A_imulv (z := x3) d_Seconds_extend_87 (w32_to ex3.symm (by unfold i32; omega)) ?_
  refine A_iload_n 3 d_Seconds_extend_88 rfl rfl ?_
  have g5 := H.1
  replace H := H.2
  refine A_iaddv (z := (x3 + v3)) d_Seconds_extend_89 (w32_to (by omega) (by unfold i32; omega)) ?_
  refine A_callV2 m_Seconds_extend T_ok d_Seconds_extend_90 l_Seconds_53 k_Seconds_extend (hb_s hb0 sf_158) rfl ⟨by show dd + 1 ≤ dd + 1; omega, by show 8 + (4 + 11) + 48 * dd ≤ 48 * (dd + 1); omega⟩ (And.intro (Nat.zero_le _) (Nat.zero_le _)) (Nat.le_of_ble_eq_true rfl) H (fun r h6 hq => ?_)
  clear H
  obtain ⟨rfl, hb7, H⟩ := hq
  refine A_pc (pc' := 93) rfl ?_
  exact b_Seconds_extend_93 hdd hX25  hb7 H
def B_Seconds_extend_65 (G : cx_T) (s : Nat) (dd : Nat) (a1 : Int) (a2 : Int) (v3 : Int) (h : ah_T) (Q : Option av_T → ah_T → Prop) (X25 : Int → ah_T → Prop) : Prop :=
 ((a1 < 2 → B_Seconds_extend_78 G s dd a1 a2 (v3) h Q X25) ∧ (¬ a1 < 2 → con G 1 0 0 m_Seconds_fitsLeap [av_R (some 158), av_I a1] h (fun r h1 => ∃ z3 : Int, r = some (av_I z3) ∧ hb s h1 ∧ ((z3 = 0 → B_Seconds_extend_93 G s dd a1 a2 (v3) h1 Q X25) ∧ (¬ z3 = 0 → B_Seconds_extend_78 G s dd a1 a2 (v3) h1 Q X25)))))
theorem b_Seconds_extend_65 {G : cx_T} {s : Nat} {dd : Nat} {a1 : Int} {a2 : Int} (hdd : 3 ≤ dd) {v3 : Int} {h : ah_T} {Q : Option av_T → ah_T → Prop} {X25 : Int → ah_T → Prop} (hX25 : ∀ (v3 : Int) (h : ah_T), hb s h → X25 v3 h → aw G (rm_R (dd + 1) 0 0) m_Seconds_extend 0 0 25 [some (av_R (some 158)), some (av_I a1), some (av_I a2), some (av_I v3)] [] h Q) (hb0 : hb s h) (H : B_Seconds_extend_65 G s dd a1 a2 v3 h Q X25) : aw G (rm_R (dd + 1) 0 0) m_Seconds_extend 0 0 65 [some (av_R (some 158)), some (av_I a1), some (av_I a2), some (av_I v3)] [] h Q := by
  unfold B_Seconds_extend_65 at H
  have hS : isS s := hb0.2.1
  refine A_iload_n 1 d_Seconds_extend_65 rfl rfl ?_
  refine A_iconst d_Seconds_extend_66 rfl ?_
  refine A_icmp_lt (tgt := 78) d_Seconds_extend_67 (by decide) (fun c => ?_) (fun c => ?_)
  · replace H := H.1 c
    refine A_pc (pc' := 78) rfl ?_
    exact b_Seconds_extend_78 hdd hX25  hb0 H
  · replace H := H.2 c
    refine A_aload_n 0 d_Seconds_extend_70 rfl rfl ?_
    refine A_iload_n 1 d_Seconds_extend_71 rfl rfl ?_
    refine A_callV1 m_Seconds_fitsLeap T_ok d_Seconds_extend_72 l_Seconds_68 k_Seconds_fitsLeap (hb_s hb0 sf_158) rfl ⟨by show 1 + 1 ≤ dd + 1; omega, by show 8 + (4 + 11) + 48 * 1 ≤ 48 * (dd + 1); omega⟩ (And.intro (Nat.zero_le _) (Nat.zero_le _)) (Nat.le_of_ble_eq_true rfl) H (fun r h1 hq => ?_)
    clear H
    obtain ⟨z3, rfl, hb2, H⟩ := hq
    refine A_if_eq (tgt := 93) d_Seconds_extend_75 (by decide) (fun c => ?_) (fun c => ?_)
    · replace H := H.1 c
      refine A_pc (pc' := 93) rfl ?_
      exact b_Seconds_extend_93 hdd hX25  hb2 H
    · replace H := H.2 c
      refine A_pc (pc' := 78) rfl ?_
      exact b_Seconds_extend_78 hdd hX25  hb2 H
def B_Seconds_extend_25 (G : cx_T) (s : Nat) (dd : Nat) (a1 : Int) (a2 : Int) (v3 : Int) (h : ah_T) (Q : Option av_T → ah_T → Prop) (X25 : Int → ah_T → Prop) : Prop :=
 ∀ x1 : Int, x1 = h.2.1 158 3 → -2147483648 ≤ x1 → x1 ≤ 2147483647 → ((x1 ≤ v3 → Q none h) ∧ (¬ x1 ≤ v3 → ∀ x3 : Int, x3 = h.2.1 158 2 → -2147483648 ≤ x3 → x3 ≤ 2147483647 → ((-2147483648) ≤ (x3 + v3) ∧ (x3 + v3) ≤ 2147483647) ∧ (0 ≤ a1 ∧ a1 < 8) ∧ ∀ h6 : ah_T, h6 = st_i h 161 (a1).toNat (x3 + v3) → con G 2 0 0 m_Seconds_fitsAlone [av_R (some 158), av_I a1] h6 (fun r h8 => ∃ z10 : Int, r = some (av_I z10) ∧ hb s h8 ∧ ((z10 = 0 → B_Seconds_extend_93 G s dd a1 a2 (v3) h8 Q X25) ∧ (¬ z10 = 0 → ((a1 = 0 → B_Seconds_extend_65 G s dd a1 a2 (v3) h8 Q X25) ∧ (¬ a1 = 0 → con G 2 0 0 m_Seconds_fitsBehind [av_R (some 158), av_I a1] h8 (fun r h11 => ∃ z13 : Int, r = some (av_I z13) ∧ hb s h11 ∧ ((z13 = 0 → B_Seconds_extend_93 G s dd a1 a2 (v3) h11 Q X25) ∧ (¬ z13 = 0 → B_Seconds_extend_65 G s dd a1 a2 (v3) h11 Q X25))))))))))
theorem b_Seconds_extend_25 {G : cx_T} {s : Nat} {dd : Nat} {a1 : Int} {a2 : Int} (hdd : 3 ≤ dd) {v3 : Int} {h : ah_T} {Q : Option av_T → ah_T → Prop} {X25 : Int → ah_T → Prop} (hX25 : ∀ (v3 : Int) (h : ah_T), hb s h → X25 v3 h → aw G (rm_R (dd + 1) 0 0) m_Seconds_extend 0 0 25 [some (av_R (some 158)), some (av_I a1), some (av_I a2), some (av_I v3)] [] h Q) (hb0 : hb s h) (H : B_Seconds_extend_25 G s dd a1 a2 v3 h Q X25) : aw G (rm_R (dd + 1) 0 0) m_Seconds_extend 0 0 25 [some (av_R (some 158)), some (av_I a1), some (av_I a2), some (av_I v3)] [] h Q := by
  unfold B_Seconds_extend_25 at H
  have hS : isS s := hb0.2.1
  refine A_iload_n 3 d_Seconds_extend_25 rfl rfl ?_
  refine A_aload_n 0 d_Seconds_extend_26 rfl rfl ?_
  refine A_getIf T_ok d_Seconds_extend_27 f_Seconds_35 (hb_s hb0 sf_158) (fun x1 ex1 lx1 ux1 => ?_)
  replace H := H x1 ex1 lx1 ux1
  refine A_icmp_ge (tgt := 99) d_Seconds_extend_30 (by decide) (fun c => ?_) (fun c => ?_)
  · replace H := H.1 c
    exact A_vret d_Seconds_extend_99 (And.intro (Nat.zero_le _) (Nat.zero_le _)) rfl H
  · replace H := H.2 c
    refine A_aload_n 0 d_Seconds_extend_33 rfl rfl ?_
    refine A_getAv (z := some 161) T_ok d_Seconds_extend_34 f_Seconds_19 (hb_s hb0 sf_158) (hb_r hb0 rff_158_7) ?_
    refine A_iload_n 1 d_Seconds_extend_37 rfl rfl ?_
    refine A_aload_n 0 d_Seconds_extend_38 rfl rfl ?_
    refine A_getIf T_ok d_Seconds_extend_39 f_Seconds_32 (hb_s hb0 sf_158) (fun x3 ex3 lx3 ux3 => ?_)
    replace H := H x3 ex3 lx3 ux3
    refine A_pc (pc' := 42) rfl ?_
    refine A_iload_n 3 d_Seconds_extend_42 rfl rfl ?_
    have g4 := H.1
    replace H := H.2
    refine A_iaddv (z := (x3 + v3)) d_Seconds_extend_43 (w32_to (by omega) (by unfold i32; omega)) ?_
    have g5 := H.1
    replace H := H.2
    refine A_iastoreN d_Seconds_extend_44 (hb_s hb0 sf_161) g5.1 g5.2 ?_
    refine A_hn (fun h6 eh6 => ?_)
    have hb7 := hb_i hb0 eh6
    replace H := H h6 eh6
    refine A_aload_n 0 d_Seconds_extend_45 rfl rfl ?_
    refine A_iload_n 1 d_Seconds_extend_46 rfl rfl ?_
    refine A_callV1 m_Seconds_fitsAlone T_ok d_Seconds_extend_47 l_Seconds_61 k_Seconds_fitsAlone (hb_s hb7 sf_158) rfl ⟨by show 2 + 1 ≤ dd + 1; omega, by show 8 + (4 + 11) + 48 * 2 ≤ 48 * (dd + 1); omega⟩ (And.intro (Nat.zero_le _) (Nat.zero_le _)) (Nat.le_of_ble_eq_true rfl) H (fun r h8 hq => ?_)
    clear H
    obtain ⟨z10, rfl, hb9, H⟩ := hq
    refine A_if_eq (tgt := 93) d_Seconds_extend_50 (by decide) (fun c => ?_) (fun c => ?_)
    · replace H := H.1 c
      refine A_pc (pc' := 93) rfl ?_
      exact b_Seconds_extend_93 hdd hX25  hb9 H
    · replace H := H.2 c
      refine A_iload_n 1 d_Seconds_extend_53 rfl rfl ?_
      refine A_if_eq (tgt := 65) d_Seconds_extend_54 (by decide) (fun c => ?_) (fun c => ?_)
      · replace H := H.1 c
        refine A_pc (pc' := 65) rfl ?_
        exact b_Seconds_extend_65 hdd hX25  hb9 H
      · replace H := H.2 c
        refine A_aload_n 0 d_Seconds_extend_57 rfl rfl ?_
        refine A_iload_n 1 d_Seconds_extend_58 rfl rfl ?_
        refine A_callV1 m_Seconds_fitsBehind T_ok d_Seconds_extend_59 l_Seconds_65 k_Seconds_fitsBehind (hb_s hb9 sf_158) rfl ⟨by show 2 + 1 ≤ dd + 1; omega, by show 8 + (7 + 11) + 48 * 2 ≤ 48 * (dd + 1); omega⟩ (And.intro (Nat.zero_le _) (Nat.zero_le _)) (Nat.le_of_ble_eq_true rfl) H (fun r h11 hq => ?_)
        clear H
        obtain ⟨z13, rfl, hb12, H⟩ := hq
        refine A_if_eq (tgt := 93) d_Seconds_extend_62 (by decide) (fun c => ?_) (fun c => ?_)
        · replace H := H.1 c
          refine A_pc (pc' := 93) rfl ?_
          exact b_Seconds_extend_93 hdd hX25  hb12 H
        · replace H := H.2 c
          refine A_pc (pc' := 65) rfl ?_
          exact b_Seconds_extend_65 hdd hX25  hb12 H
theorem lp_Seconds_extend_25 {G : cx_T} {s : Nat} {dd : Nat} {a1 : Int} {a2 : Int} (hdd : 3 ≤ dd) {Q : Option av_T → ah_T → Prop} (I : Int → ah_T → Prop) (μ : Int → ah_T → Nat) (hI : ∀ (v3 : Int) (h : ah_T), hb s h → I v3 h → B_Seconds_extend_25 G s dd a1 a2 v3 h Q (fun v3' h' => I v3' h' ∧ μ v3' h' < μ v3 h)) : ∀ (v3 : Int) (h : ah_T), hb s h → I v3 h → aw G (rm_R (dd + 1) 0 0) m_Seconds_extend 0 0 25 [some (av_R (some 158)), some (av_I a1), some (av_I a2), some (av_I v3)] [] h Q := by
  have key : ∀ (n : Nat) (v3 : Int) (h : ah_T), hb s h → I v3 h → μ v3 h < n → aw G (rm_R (dd + 1) 0 0) m_Seconds_extend 0 0 25 [some (av_R (some 158)), some (av_I a1), some (av_I a2), some (av_I v3)] [] h Q := by
    intro n
    induction n with
    | zero => intro v3 h  hb0 hi hm; omega
    | succ n ih => intro v3 h  hb0 hi hm; exact b_Seconds_extend_25 hdd (fun v3' h'  hb' hx => ih v3' h'  hb' hx.1 (by have := hx.2; omega))  hb0 (hI v3 h  hb0 hi)
  exact fun v3 h  hb0 hi => key _ v3 h  hb0 hi (Nat.lt_succ_self _)
def B_Seconds_extend_17 (G : cx_T) (s : Nat) (dd : Nat) (a1 : Int) (a2 : Int) (h : ah_T) (Q : Option av_T → ah_T → Prop) : Prop :=
 con G 0 0 0 m_Seconds_keep [av_R (some 158), av_I a2] h (fun r h1 => r = none ∧ hb s h1 ∧ Q none h1)
theorem b_Seconds_extend_17 {G : cx_T} {s : Nat} {dd : Nat} {a1 : Int} {a2 : Int} (hdd : 3 ≤ dd) {h : ah_T} {Q : Option av_T → ah_T → Prop} (hb0 : hb s h) (H : B_Seconds_extend_17 G s dd a1 a2 h Q ) : aw G (rm_R (dd + 1) 0 0) m_Seconds_extend 0 0 17 [some (av_R (some 158)), none, some (av_I a2), none] [] h Q := by
  unfold B_Seconds_extend_17 at H
  have hS : isS s := hb0.2.1
  refine A_aload_n 0 d_Seconds_extend_17 rfl rfl ?_
  refine A_iload_n 2 d_Seconds_extend_18 rfl rfl ?_
  refine A_callV1 m_Seconds_keep T_ok d_Seconds_extend_19 l_Seconds_57 k_Seconds_keep (hb_s hb0 sf_158) rfl ⟨by show 0 + 1 ≤ dd + 1; omega, by show 8 + (3 + 11) + 48 * 0 ≤ 48 * (dd + 1); omega⟩ (And.intro (Nat.zero_le _) (Nat.zero_le _)) (Nat.le_of_ble_eq_true rfl) H (fun r h1 hq => ?_)
  clear H
  obtain ⟨rfl, hb2, H⟩ := hq
  exact A_vret d_Seconds_extend_22 (And.intro (Nat.zero_le _) (Nat.zero_le _)) rfl H
def B_Seconds_extend_0 (G : cx_T) (s : Nat) (dd : Nat) (a1 : Int) (a2 : Int) (h : ah_T) (Q : Option av_T → ah_T → Prop) (X25 : Int → ah_T → Prop) : Prop :=
 ∀ x1 : Int, x1 = h.2.1 158 4 → -2147483648 ≤ x1 → x1 ≤ 2147483647 → ((x1 ≤ a1 → B_Seconds_extend_17 G s dd a1 a2 h Q ) ∧ (¬ x1 ≤ a1 → ((a1 < 8 → X25 (0) h) ∧ (¬ a1 < 8 → B_Seconds_extend_17 G s dd a1 a2 h Q ))))
theorem b_Seconds_extend_0 {G : cx_T} {s : Nat} {dd : Nat} {a1 : Int} {a2 : Int} (hdd : 3 ≤ dd) {h : ah_T} {Q : Option av_T → ah_T → Prop} {X25 : Int → ah_T → Prop} (hX25 : ∀ (v3 : Int) (h : ah_T), hb s h → X25 v3 h → aw G (rm_R (dd + 1) 0 0) m_Seconds_extend 0 0 25 [some (av_R (some 158)), some (av_I a1), some (av_I a2), some (av_I v3)] [] h Q) (hb0 : hb s h) (H : B_Seconds_extend_0 G s dd a1 a2 h Q X25) : aw G (rm_R (dd + 1) 0 0) m_Seconds_extend 0 0 0 [some (av_R (some 158)), some (av_I a1), some (av_I a2), none] [] h Q := by
  unfold B_Seconds_extend_0 at H
  have hS : isS s := hb0.2.1
  refine A_iload_n 1 d_Seconds_extend_0 rfl rfl ?_
  refine A_aload_n 0 d_Seconds_extend_1 rfl rfl ?_
  refine A_getIf T_ok d_Seconds_extend_2 f_Seconds_47 (hb_s hb0 sf_158) (fun x1 ex1 lx1 ux1 => ?_)
  replace H := H x1 ex1 lx1 ux1
  refine A_icmp_ge (tgt := 17) d_Seconds_extend_5 (by decide) (fun c => ?_) (fun c => ?_)
  · replace H := H.1 c
    refine A_pc (pc' := 17) rfl ?_
    refine A_free (L' := [some (av_R (some 158)), none, some (av_I a2), none]) (And.intro rfl (And.intro rfl trivial)) ?_
    exact b_Seconds_extend_17 hdd   hb0 H
  · replace H := H.2 c
    refine A_iload_n 1 d_Seconds_extend_8 rfl rfl ?_
    refine A_aload_n 0 d_Seconds_extend_9 rfl rfl ?_
    refine A_getAv (z := some 161) T_ok d_Seconds_extend_10 f_Seconds_19 (hb_s hb0 sf_158) (hb_r hb0 rff_158_7) ?_
    refine A_alenN d_Seconds_extend_13 (hb_s hb0 sf_161) (by decide) (by decide) ?_
    refine A_icmp_lt (tgt := 23) d_Seconds_extend_14 (by decide) (fun c => ?_) (fun c => ?_)
    · replace H := H.1 c
      refine A_iconst d_Seconds_extend_23 rfl ?_
      refine A_istore_n 3 (L' := [some (av_R (some 158)), some (av_I a1), some (av_I a2), some (av_I 0)]) d_Seconds_extend_24 rfl (Nat.le_of_ble_eq_true rfl) rfl ?_
      refine A_pc (pc' := 25) rfl ?_
      exact hX25 (0) h  hb0 H
    · replace H := H.2 c
      refine A_pc (pc' := 17) rfl ?_
      refine A_free (L' := [some (av_R (some 158)), none, some (av_I a2), none]) (And.intro rfl (And.intro rfl trivial)) ?_
      exact b_Seconds_extend_17 hdd   hb0 H
theorem c_Seconds_extend {G : cx_T} {s : Nat} {dd : Nat} {a1 : Int} {a2 : Int} (hdd : 3 ≤ dd) {h : ah_T} {Q : Option av_T → ah_T → Prop} {X25 : Int → ah_T → Prop} (hX25 : ∀ (v3 : Int) (h : ah_T), hb s h → X25 v3 h → aw G (rm_R (dd + 1) 0 0) m_Seconds_extend 0 0 25 [some (av_R (some 158)), some (av_I a1), some (av_I a2), some (av_I v3)] [] h Q) (hb0 : hb s h) (H : i32 a1 → i32 a2 → B_Seconds_extend_0 G s dd a1 a2 h Q X25) : con G (dd + 1) 0 0 m_Seconds_extend [av_R (some 158), av_I a1, av_I a2] h Q := by
  have hS : isS s := hb0.2.1
  refine con_of (L := [some (av_R (some 158)), some (av_I a1), some (av_I a2), none]) (by decide +kernel) (Nat.le_of_ble_eq_true rfl) rfl ?_
  refine A_locI 1 rfl (fun ra1 => ?_)
  refine A_locI 2 rfl (fun ra2 => ?_)
  exact b_Seconds_extend_0 hdd hX25 hb0 (H ra1 ra2)
def B_Seconds_find_110 (G : cx_T) (s : Nat) (a1 : Nat) (a2 : Int) (a3 : Int) (a4 : Int) (v7 : Int) (h : ah_T) (Q : Option av_T → ah_T → Prop) (X110 : Int → ah_T → Prop) : Prop :=
 ((1563 ≤ v7 → ∀ h2 : ah_T, h2 = st_i h 158 1 0 → con G 12 0 0 m_Seconds_extend [av_R (some 158), av_I 0, av_I 0] h2 (fun r h4 => r = none ∧ hb s h4 ∧ ∀ x7 : Int, x7 = h4.2.1 158 1 → -2147483648 ≤ x7 → x7 ≤ 2147483647 → Q (some (av_I x7)) h4)) ∧ (¬ 1563 ≤ v7 → (0 ≤ v7 ∧ v7 < 1563) ∧ ∀ h10 : ah_T, h10 = st_l h 159 (v7).toNat 0 → ((-2147483648) ≤ (v7 + 1) ∧ (v7 + 1) ≤ 2147483647) ∧ X110 ((v7 + 1)) h10))
theorem b_Seconds_find_110 {G : cx_T} {s : Nat} {a1 : Nat} {a2 : Int} {a3 : Int} {a4 : Int} (ha1 : isS a1) {v7 : Int} {h : ah_T} {Q : Option av_T → ah_T → Prop} {X110 : Int → ah_T → Prop} (hX110 : ∀ (v7 : Int) (h : ah_T), hb s h → X110 v7 h → aw G (rm_R 13 0 0) m_Seconds_find 0 0 110 [some (av_R (some 158)), none, none, none, none, none, none, some (av_I v7)] [] h Q) (hb0 : hb s h) (H : B_Seconds_find_110 G s a1 a2 a3 a4 v7 h Q X110) : aw G (rm_R 13 0 0) m_Seconds_find 0 0 110 [some (av_R (some 158)), none, none, none, none, none, none, some (av_I v7)] [] h Q := by
  unfold B_Seconds_find_110 at H
  have hS : isS s := hb0.2.1
  refine A_iload d_Seconds_find_110 rfl ?_
  refine A_aload_n 0 d_Seconds_find_112 rfl rfl ?_
  refine A_getAv (z := some 159) T_ok d_Seconds_find_113 f_Seconds_11 (hb_s hb0 sf_158) (hb_r hb0 rff_158_0) ?_
  refine A_alenN d_Seconds_find_116 (hb_s hb0 sf_159) (by decide) (by decide) ?_
  refine A_icmp_ge (tgt := 134) d_Seconds_find_117 (by decide) (fun c => ?_) (fun c => ?_)
  · replace H := H.1 c
    refine A_aload_n 0 d_Seconds_find_134 rfl rfl ?_
    refine A_iconst d_Seconds_find_135 rfl ?_
    refine A_putI T_ok d_Seconds_find_136 f_Seconds_22 (hb_s hb0 sf_158) fin_f ?_
    refine A_hn (fun h2 eh2 => ?_)
    have hb3 := hb_i hb0 eh2
    replace H := H h2 eh2
    refine A_aload_n 0 d_Seconds_find_139 rfl rfl ?_
    refine A_iconst d_Seconds_find_140 rfl ?_
    refine A_pc (pc' := 141) rfl ?_
    refine A_iconst d_Seconds_find_141 rfl ?_
    refine A_callV2 m_Seconds_extend T_ok d_Seconds_find_142 l_Seconds_53 k_Seconds_extend (hb_s hb3 sf_158) rfl (by decide +kernel) (by decide) (Nat.le_of_ble_eq_true rfl) H (fun r h4 hq => ?_)
    clear H
    obtain ⟨rfl, hb5, H⟩ := hq
    refine A_aload_n 0 d_Seconds_find_145 rfl rfl ?_
    refine A_getIf T_ok d_Seconds_find_146 f_Seconds_22 (hb_s hb5 sf_158) (fun x7 ex7 lx7 ux7 => ?_)
    replace H := H x7 ex7 lx7 ux7
    exact A_iret d_Seconds_find_149 (by decide) rfl H
  · replace H := H.2 c
    refine A_aload_n 0 d_Seconds_find_120 rfl rfl ?_
    refine A_getAv (z := some 159) T_ok d_Seconds_find_121 f_Seconds_11 (hb_s hb0 sf_158) (hb_r hb0 rff_158_0) ?_
    refine A_iload d_Seconds_find_124 rfl ?_
    refine A_lconst_0 d_Seconds_find_126 ?_
    have g9 := H.1
    replace H := H.2
    refine A_lastoreN d_Seconds_find_127 (hb_s hb0 sf_159) g9.1 g9.2 ?_
    refine A_hn (fun h10 eh10 => ?_)
    have hb11 := hb_l hb0 eh10
    replace H := H h10 eh10
    refine A_pc (pc' := 128) rfl ?_
    have g12 := H.1
    replace H := H.2
    refine A_iincv (z := (v7 + 1)) (L' := [some (av_R (some 158)), none, none, none, none, none, none, some (av_I (v7 + 1))]) d_Seconds_find_128 rfl (w32_to (by omega) (by unfold i32; omega)) rfl ?_
    refine A_goto (tgt := 110) d_Seconds_find_131 (by decide) ?_
    refine A_pc (pc' := 110) rfl ?_
    exact hX110 ((v7 + 1)) h10  hb11 H
theorem lp_Seconds_find_110 {G : cx_T} {s : Nat} {a1 : Nat} {a2 : Int} {a3 : Int} {a4 : Int} (ha1 : isS a1) {Q : Option av_T → ah_T → Prop} (I : Int → ah_T → Prop) (μ : Int → ah_T → Nat) (hI : ∀ (v7 : Int) (h : ah_T), hb s h → I v7 h → B_Seconds_find_110 G s a1 a2 a3 a4 v7 h Q (fun v7' h' => I v7' h' ∧ μ v7' h' < μ v7 h)) : ∀ (v7 : Int) (h : ah_T), hb s h → I v7 h → aw G (rm_R 13 0 0) m_Seconds_find 0 0 110 [some (av_R (some 158)), none, none, none, none, none, none, some (av_I v7)] [] h Q := by
  have key : ∀ (n : Nat) (v7 : Int) (h : ah_T), hb s h → I v7 h → μ v7 h < n → aw G (rm_R 13 0 0) m_Seconds_find 0 0 110 [some (av_R (some 158)), none, none, none, none, none, none, some (av_I v7)] [] h Q := by
    intro n
    induction n with
    | zero => intro v7 h  hb0 hi hm; omega
    | succ n ih => intro v7 h  hb0 hi hm; exact b_Seconds_find_110 ha1 (fun v7' h'  hb' hx => ih v7' h'  hb' hx.1 (by have := hx.2; omega))  hb0 (hI v7 h  hb0 hi)
  exact fun v7 h  hb0 hi => key _ v7 h  hb0 hi (Nat.lt_succ_self _)
def B_Seconds_find_78 (G : cx_T) (s : Nat) (a1 : Nat) (a2 : Int) (a3 : Int) (a4 : Int) (v7 : Int) (h : ah_T) (Q : Option av_T → ah_T → Prop) (X78 : Int → ah_T → Prop) (X110 : Int → ah_T → Prop) : Prop :=
 ∀ x1 : Int, x1 = h.2.1 158 4 → -2147483648 ≤ x1 → x1 ≤ 2147483647 → ((x1 ≤ v7 → X110 (0) h) ∧ (¬ x1 ≤ v7 → (0 ≤ v7 ∧ v7 < 8) ∧ ∀ x4 : Int, x4 = h.2.1 (a1 + 2) (v7).toNat → -2147483648 ≤ x4 → x4 ≤ 2147483647 → ∀ h6 : ah_T, h6 = st_i h 160 (v7).toNat x4 → ((-2147483648) ≤ (v7 + 1) ∧ (v7 + 1) ≤ 2147483647) ∧ X78 ((v7 + 1)) h6))
theorem b_Seconds_find_78 {G : cx_T} {s : Nat} {a1 : Nat} {a2 : Int} {a3 : Int} {a4 : Int} (ha1 : isS a1) {v7 : Int} {h : ah_T} {Q : Option av_T → ah_T → Prop} {X78 : Int → ah_T → Prop} {X110 : Int → ah_T → Prop} (hX78 : ∀ (v7 : Int) (h : ah_T), hb s h → X78 v7 h → aw G (rm_R 13 0 0) m_Seconds_find 0 0 78 [some (av_R (some 158)), some (av_R (some a1)), none, none, none, none, none, some (av_I v7)] [] h Q) (hX110 : ∀ (v7 : Int) (h : ah_T), hb s h → X110 v7 h → aw G (rm_R 13 0 0) m_Seconds_find 0 0 110 [some (av_R (some 158)), none, none, none, none, none, none, some (av_I v7)] [] h Q) (hb0 : hb s h) (H : B_Seconds_find_78 G s a1 a2 a3 a4 v7 h Q X78 X110) : aw G (rm_R 13 0 0) m_Seconds_find 0 0 78 [some (av_R (some 158)), some (av_R (some a1)), none, none, none, none, none, some (av_I v7)] [] h Q := by
  unfold B_Seconds_find_78 at H
  have hS : isS s := hb0.2.1
  refine A_iload d_Seconds_find_78 rfl ?_
  refine A_aload_n 0 d_Seconds_find_80 rfl rfl ?_
  refine A_getIf T_ok d_Seconds_find_81 f_Seconds_47 (hb_s hb0 sf_158) (fun x1 ex1 lx1 ux1 => ?_)
  replace H := H x1 ex1 lx1 ux1
  refine A_icmp_ge (tgt := 107) d_Seconds_find_84 (by decide) (fun c => ?_) (fun c => ?_)
  · replace H := H.1 c
    refine A_iconst d_Seconds_find_107 rfl ?_
    refine A_istore (L' := [some (av_R (some 158)), some (av_R (some a1)), none, none, none, none, none, some (av_I 0)]) d_Seconds_find_108 (Nat.le_of_ble_eq_true rfl) rfl ?_
    refine A_pc (pc' := 110) rfl ?_
    refine A_free (L' := [some (av_R (some 158)), none, none, none, none, none, none, some (av_I 0)]) (And.intro rfl (And.intro rfl trivial)) ?_
    exact hX110 (0) h  hb0 H
  · replace H := H.2 c
    refine A_aload_n 0 d_Seconds_find_87 rfl rfl ?_
    refine A_getAv (z := some 160) T_ok d_Seconds_find_88 f_Seconds_15 (hb_s hb0 sf_158) (hb_r hb0 rff_158_6) ?_
    refine A_iload d_Seconds_find_91 rfl ?_
    refine A_aload_n 1 d_Seconds_find_93 rfl rfl ?_
    refine A_getAv (z := some (a1 + 2)) T_ok d_Seconds_find_94 f_Seconds_50 (hs_S hb0 ha1) (hr_S_5 hb0 ha1) ?_
    refine A_pc (pc' := 97) rfl ?_
    refine A_iload d_Seconds_find_97 rfl ?_
    have g5 := H.1
    replace H := H.2
    refine A_ialoadf d_Seconds_find_99 (hs_S_5 hb0 ha1) g5.1 g5.2 (fun x4 ex4 lx4 ux4 => ?_)
    replace H := H x4 ex4 lx4 ux4
    refine A_iastoreN d_Seconds_find_100 (hb_s hb0 sf_160) g5.1 g5.2 ?_
    refine A_hn (fun h6 eh6 => ?_)
    have hb7 := hb_i hb0 eh6
    replace H := H h6 eh6
    have g8 := H.1
    replace H := H.2
    refine A_iincv (z := (v7 + 1)) (L' := [some (av_R (some 158)), some (av_R (some a1)), none, none, none, none, none, some (av_I (v7 + 1))]) d_Seconds_find_101 rfl (w32_to (by omega) (by unfold i32; omega)) rfl ?_
    refine A_goto (tgt := 78) d_Seconds_find_104 (by decide) ?_
    refine A_pc (pc' := 78) rfl ?_
    exact hX78 ((v7 + 1)) h6  hb7 H
theorem lp_Seconds_find_78 {G : cx_T} {s : Nat} {a1 : Nat} {a2 : Int} {a3 : Int} {a4 : Int} (ha1 : isS a1) {Q : Option av_T → ah_T → Prop} {X110 : Int → ah_T → Prop} (hX110 : ∀ (v7 : Int) (h : ah_T), hb s h → X110 v7 h → aw G (rm_R 13 0 0) m_Seconds_find 0 0 110 [some (av_R (some 158)), none, none, none, none, none, none, some (av_I v7)] [] h Q) (I : Int → ah_T → Prop) (μ : Int → ah_T → Nat) (hI : ∀ (v7 : Int) (h : ah_T), hb s h → I v7 h → B_Seconds_find_78 G s a1 a2 a3 a4 v7 h Q (fun v7' h' => I v7' h' ∧ μ v7' h' < μ v7 h) X110) : ∀ (v7 : Int) (h : ah_T), hb s h → I v7 h → aw G (rm_R 13 0 0) m_Seconds_find 0 0 78 [some (av_R (some 158)), some (av_R (some a1)), none, none, none, none, none, some (av_I v7)] [] h Q := by
  have key : ∀ (n : Nat) (v7 : Int) (h : ah_T), hb s h → I v7 h → μ v7 h < n → aw G (rm_R 13 0 0) m_Seconds_find 0 0 78 [some (av_R (some 158)), some (av_R (some a1)), none, none, none, none, none, some (av_I v7)] [] h Q := by
    intro n
    induction n with
    | zero => intro v7 h  hb0 hi hm; omega
    | succ n ih => intro v7 h  hb0 hi hm; exact b_Seconds_find_78 ha1 (fun v7' h'  hb' hx => ih v7' h'  hb' hx.1 (by have := hx.2; omega)) hX110  hb0 (hI v7 h  hb0 hi)
  exact fun v7 h  hb0 hi => key _ v7 h  hb0 hi (Nat.lt_succ_self _)
def B_Seconds_find_13 (G : cx_T) (s : Nat) (a1 : Nat) (a2 : Int) (a3 : Int) (a4 : Int) (v5 : Int) (v6 : Int) (v7 : Int) (h : ah_T) (Q : Option av_T → ah_T → Prop) (X13 : Int → Int → Int → ah_T → Prop) (X78 : Int → ah_T → Prop) : Prop :=
 ∀ x1 : Int, x1 = h.2.1 a1 6 → -2147483648 ≤ x1 → x1 ≤ 2147483647 → ((x1 ≤ v7 → ∀ h2 : ah_T, h2 = st_i h 158 2 a2 → ∀ h4 : ah_T, h4 = st_i h2 158 3 v5 → ∀ h6 : ah_T, h6 = st_i h4 158 5 a4 → ∀ x8 : Int, x8 = h6.2.1 a1 6 → -2147483648 ≤ x8 → x8 ≤ 2147483647 → ∀ x9 : Int, x9 = (if 8 < x8 then 8 else x8) → -2147483648 ≤ x9 → x9 ≤ 2147483647 → ∀ h10 : ah_T, h10 = st_i h6 158 4 x9 → X78 (0) h10) ∧ (¬ x1 ≤ v7 → ∀ x12 : Int, x12 = v6 * v5 → ((-2147483648) ≤ x12 ∧ x12 ≤ 2147483647) ∧ ((x12 ≤ 100000 → ((-2147483648) ≤ (v7 + 1) ∧ (v7 + 1) ≤ 2147483647) ∧ X13 (v5) (x12) ((v7 + 1)) h) ∧ (¬ x12 ≤ 100000 → Q (some (av_I (-4))) h))))
theorem b_Seconds_find_13 {G : cx_T} {s : Nat} {a1 : Nat} {a2 : Int} {a3 : Int} {a4 : Int} (ha1 : isS a1) {v5 : Int} {v6 : Int} {v7 : Int} {h : ah_T} {Q : Option av_T → ah_T → Prop} {X13 : Int → Int → Int → ah_T → Prop} {X78 : Int → ah_T → Prop} (hX13 : ∀ (v5 : Int) (v6 : Int) (v7 : Int) (h : ah_T), hb s h → X13 v5 v6 v7 h → aw G (rm_R 13 0 0) m_Seconds_find 0 0 13 [some (av_R (some 158)), some (av_R (some a1)), some (av_I a2), none, some (av_I a4), some (av_I v5), some (av_I v6), some (av_I v7)] [] h Q) (hX78 : ∀ (v7 : Int) (h : ah_T), hb s h → X78 v7 h → aw G (rm_R 13 0 0) m_Seconds_find 0 0 78 [some (av_R (some 158)), some (av_R (some a1)), none, none, none, none, none, some (av_I v7)] [] h Q) (hb0 : hb s h) (H : B_Seconds_find_13 G s a1 a2 a3 a4 v5 v6 v7 h Q X13 X78) : aw G (rm_R 13 0 0) m_Seconds_find 0 0 13 [some (av_R (some 158)), some (av_R (some a1)), some (av_I a2), none, some (av_I a4), some (av_I v5), some (av_I v6), some (av_I v7)] [] h Q := by
  unfold B_Seconds_find_13 at H
  have hS : isS s := hb0.2.1
  refine A_iload d_Seconds_find_13 rfl ?_
  refine A_aload_n 1 d_Seconds_find_15 rfl rfl ?_
  refine A_getIf T_ok d_Seconds_find_16 f_Seconds_26 (hs_S hb0 ha1) (fun x1 ex1 lx1 ux1 => ?_)
  replace H := H x1 ex1 lx1 ux1
  refine A_icmp_ge (tgt := 45) d_Seconds_find_19 (by decide) (fun c => ?_) (fun c => ?_)
  · replace H := H.1 c
    refine A_aload_n 0 d_Seconds_find_45 rfl rfl ?_
    refine A_iload_n 2 d_Seconds_find_46 rfl rfl ?_
    refine A_putI T_ok d_Seconds_find_47 f_Seconds_32 (hb_s hb0 sf_158) fin_f ?_
    refine A_hn (fun h2 eh2 => ?_)
    have hb3 := hb_i hb0 eh2
    replace H := H h2 eh2
    refine A_aload_n 0 d_Seconds_find_50 rfl rfl ?_
    refine A_iload d_Seconds_find_51 rfl ?_
    refine A_pc (pc' := 53) rfl ?_
    refine A_putI T_ok d_Seconds_find_53 f_Seconds_35 (hb_s hb3 sf_158) fin_f ?_
    refine A_hn (fun h4 eh4 => ?_)
    have hb5 := hb_i hb3 eh4
    replace H := H h4 eh4
    refine A_aload_n 0 d_Seconds_find_56 rfl rfl ?_
    refine A_iload d_Seconds_find_57 rfl ?_
    refine A_putI T_ok d_Seconds_find_59 f_Seconds_38 (hb_s hb5 sf_158) fin_f ?_
    refine A_hn (fun h6 eh6 => ?_)
    have hb7 := hb_i hb5 eh6
    replace H := H h6 eh6
    refine A_aload_n 0 d_Seconds_find_62 rfl rfl ?_
    refine A_aload_n 1 d_Seconds_find_63 rfl rfl ?_
    refine A_pc (pc' := 64) rfl ?_
    refine A_getIf T_ok d_Seconds_find_64 f_Seconds_26 (hs_S hb7 ha1) (fun x8 ex8 lx8 ux8 => ?_)
    replace H := H x8 ex8 lx8 ux8
    refine A_bipush d_Seconds_find_67 rfl ?_
    refine A_mmin (z := (if 8 < x8 then 8 else x8)) d_Seconds_find_69 lm_Seconds_41 ma_min (by decide) (by decide) (Nat.le_of_ble_eq_true rfl) rfl ?_
    refine A_nrI (fun x9 ex9 lx9 ux9 => ?_)
    replace H := H x9 ex9 lx9 ux9
    refine A_putI T_ok d_Seconds_find_72 f_Seconds_47 (hb_s hb7 sf_158) fin_f ?_
    refine A_hn (fun h10 eh10 => ?_)
    have hb11 := hb_i hb7 eh10
    replace H := H h10 eh10
    refine A_iconst d_Seconds_find_75 rfl ?_
    refine A_istore (L' := [some (av_R (some 158)), some (av_R (some a1)), some (av_I a2), none, some (av_I a4), some (av_I v5), some (av_I v6), some (av_I 0)]) d_Seconds_find_76 (Nat.le_of_ble_eq_true rfl) rfl ?_
    refine A_pc (pc' := 78) rfl ?_
    refine A_free (L' := [some (av_R (some 158)), some (av_R (some a1)), none, none, none, none, none, some (av_I 0)]) (And.intro rfl (And.intro rfl (And.intro rfl trivial))) ?_
    exact hX78 (0) h10  hb11 H
  · replace H := H.2 c
    refine A_iload d_Seconds_find_22 rfl ?_
    refine A_iload d_Seconds_find_24 rfl ?_
    obtain ⟨x12, ex12⟩ : ∃ z : Int, z = v6 * v5 := ⟨_, rfl⟩
    replace H := H x12 ex12
    have g13 := H.1
    replace H := H.2
    refine A_imulv (z := x12) d_Seconds_find_26 (w32_to ex12.symm (by unfold i32; omega)) ?_
    refine A_istore (L' := [some (av_R (some 158)), some (av_R (some a1)), some (av_I a2), none, some (av_I a4), some (av_I v5), some (av_I x12), some (av_I v7)]) d_Seconds_find_27 (Nat.le_of_ble_eq_true rfl) rfl ?_
    refine A_iload d_Seconds_find_29 rfl ?_
    refine A_pc (pc' := 31) rfl ?_
    refine A_ldc (z := 100000) d_Seconds_find_31 cst_Seconds_31 rfl ?_
    refine A_icmp_le (tgt := 39) d_Seconds_find_33 (by decide) (fun c => ?_) (fun c => ?_)
    · replace H := H.1 c
      have g14 := H.1
      replace H := H.2
      refine A_iincv (z := (v7 + 1)) (L' := [some (av_R (some 158)), some (av_R (some a1)), some (av_I a2), none, some (av_I a4), some (av_I v5), some (av_I x12), some (av_I (v7 + 1))]) d_Seconds_find_39 rfl (w32_to (by omega) (by unfold i32; omega)) rfl ?_
      refine A_goto (tgt := 13) d_Seconds_find_42 (by decide) ?_
      refine A_pc (pc' := 13) rfl ?_
      exact hX13 (v5) (x12) ((v7 + 1)) h  hb0 H
    · replace H := H.2 c
      refine A_bipush d_Seconds_find_36 rfl ?_
      exact A_iret d_Seconds_find_38 (by decide) rfl H
theorem lp_Seconds_find_13 {G : cx_T} {s : Nat} {a1 : Nat} {a2 : Int} {a3 : Int} {a4 : Int} (ha1 : isS a1) {Q : Option av_T → ah_T → Prop} {X78 : Int → ah_T → Prop} (hX78 : ∀ (v7 : Int) (h : ah_T), hb s h → X78 v7 h → aw G (rm_R 13 0 0) m_Seconds_find 0 0 78 [some (av_R (some 158)), some (av_R (some a1)), none, none, none, none, none, some (av_I v7)] [] h Q) (I : Int → Int → Int → ah_T → Prop) (μ : Int → Int → Int → ah_T → Nat) (hI : ∀ (v5 : Int) (v6 : Int) (v7 : Int) (h : ah_T), hb s h → I v5 v6 v7 h → B_Seconds_find_13 G s a1 a2 a3 a4 v5 v6 v7 h Q (fun v5' v6' v7' h' => I v5' v6' v7' h' ∧ μ v5' v6' v7' h' < μ v5 v6 v7 h) X78) : ∀ (v5 : Int) (v6 : Int) (v7 : Int) (h : ah_T), hb s h → I v5 v6 v7 h → aw G (rm_R 13 0 0) m_Seconds_find 0 0 13 [some (av_R (some 158)), some (av_R (some a1)), some (av_I a2), none, some (av_I a4), some (av_I v5), some (av_I v6), some (av_I v7)] [] h Q := by
  have key : ∀ (n : Nat) (v5 : Int) (v6 : Int) (v7 : Int) (h : ah_T), hb s h → I v5 v6 v7 h → μ v5 v6 v7 h < n → aw G (rm_R 13 0 0) m_Seconds_find 0 0 13 [some (av_R (some 158)), some (av_R (some a1)), some (av_I a2), none, some (av_I a4), some (av_I v5), some (av_I v6), some (av_I v7)] [] h Q := by
    intro n
    induction n with
    | zero => intro v5 v6 v7 h  hb0 hi hm; omega
    | succ n ih => intro v5 v6 v7 h  hb0 hi hm; exact b_Seconds_find_13 ha1 (fun v5' v6' v7' h'  hb' hx => ih v5' v6' v7' h'  hb' hx.1 (by have := hx.2; omega)) hX78  hb0 (hI v5 v6 v7 h  hb0 hi)
  exact fun v5 v6 v7 h  hb0 hi => key _ v5 v6 v7 h  hb0 hi (Nat.lt_succ_self _)
def B_Seconds_find_0 (G : cx_T) (s : Nat) (a1 : Nat) (a2 : Int) (a3 : Int) (a4 : Int) (h : ah_T) (Q : Option av_T → ah_T → Prop) (X13 : Int → Int → Int → ah_T → Prop) : Prop :=
 ((-2147483648) ≤ (a3 - a2) ∧ (a3 - a2) ≤ 2147483647) ∧ ((-2147483648) ≤ (a3 - a2 + 1) ∧ (a3 - a2 + 1) ≤ 2147483647) ∧ X13 ((a3 - a2 + 1)) (1) (0) h
theorem b_Seconds_find_0 {G : cx_T} {s : Nat} {a1 : Nat} {a2 : Int} {a3 : Int} {a4 : Int} (ha1 : isS a1) {h : ah_T} {Q : Option av_T → ah_T → Prop} {X13 : Int → Int → Int → ah_T → Prop} (hX13 : ∀ (v5 : Int) (v6 : Int) (v7 : Int) (h : ah_T), hb s h → X13 v5 v6 v7 h → aw G (rm_R 13 0 0) m_Seconds_find 0 0 13 [some (av_R (some 158)), some (av_R (some a1)), some (av_I a2), none, some (av_I a4), some (av_I v5), some (av_I v6), some (av_I v7)] [] h Q) (hb0 : hb s h) (H : B_Seconds_find_0 G s a1 a2 a3 a4 h Q X13) : aw G (rm_R 13 0 0) m_Seconds_find 0 0 0 [some (av_R (some 158)), some (av_R (some a1)), some (av_I a2), some (av_I a3), some (av_I a4), none, none, none] [] h Q := by
  unfold B_Seconds_find_0 at H
  have hS : isS s := hb0.2.1
  refine A_iload_n 3 d_Seconds_find_0 rfl rfl ?_
  refine A_iload_n 2 d_Seconds_find_1 rfl rfl ?_
  have g1 := H.1
  replace H := H.2
  refine A_isubv (z := (a3 - a2)) d_Seconds_find_2 (w32_to (by omega) (by unfold i32; omega)) ?_
  refine A_iconst d_Seconds_find_3 rfl ?_
  have g2 := H.1
  replace H := H.2
  refine A_iaddv (z := (a3 - a2 + 1)) d_Seconds_find_4 (w32_to (by omega) (by unfold i32; omega)) ?_
  refine A_pc (pc' := 5) rfl ?_
  refine A_istore (L' := [some (av_R (some 158)), some (av_R (some a1)), some (av_I a2), some (av_I a3), some (av_I a4), some (av_I (a3 - a2 + 1)), none, none]) d_Seconds_find_5 (Nat.le_of_ble_eq_true rfl) rfl ?_
  refine A_iconst d_Seconds_find_7 rfl ?_
  refine A_istore (L' := [some (av_R (some 158)), some (av_R (some a1)), some (av_I a2), some (av_I a3), some (av_I a4), some (av_I (a3 - a2 + 1)), some (av_I 1), none]) d_Seconds_find_8 (Nat.le_of_ble_eq_true rfl) rfl ?_
  refine A_iconst d_Seconds_find_10 rfl ?_
  refine A_istore (L' := [some (av_R (some 158)), some (av_R (some a1)), some (av_I a2), some (av_I a3), some (av_I a4), some (av_I (a3 - a2 + 1)), some (av_I 1), some (av_I 0)]) d_Seconds_find_11 (Nat.le_of_ble_eq_true rfl) rfl ?_
  refine A_pc (pc' := 13) rfl ?_
  refine A_free (L' := [some (av_R (some 158)), some (av_R (some a1)), some (av_I a2), none, some (av_I a4), some (av_I (a3 - a2 + 1)), some (av_I 1), some (av_I 0)]) (And.intro rfl (And.intro rfl (And.intro rfl (And.intro rfl (And.intro rfl (And.intro rfl (And.intro rfl trivial))))))) ?_
  exact hX13 ((a3 - a2 + 1)) (1) (0) h  hb0 H
theorem c_Seconds_find {G : cx_T} {s : Nat} {a1 : Nat} {a2 : Int} {a3 : Int} {a4 : Int} (ha1 : isS a1) {h : ah_T} {Q : Option av_T → ah_T → Prop} {X13 : Int → Int → Int → ah_T → Prop} (hX13 : ∀ (v5 : Int) (v6 : Int) (v7 : Int) (h : ah_T), hb s h → X13 v5 v6 v7 h → aw G (rm_R 13 0 0) m_Seconds_find 0 0 13 [some (av_R (some 158)), some (av_R (some a1)), some (av_I a2), none, some (av_I a4), some (av_I v5), some (av_I v6), some (av_I v7)] [] h Q) (hb0 : hb s h) (H : i32 a2 → i32 a3 → i32 a4 → B_Seconds_find_0 G s a1 a2 a3 a4 h Q X13) : con G 13 0 0 m_Seconds_find [av_R (some 158), av_R (some a1), av_I a2, av_I a3, av_I a4] h Q := by
  have hS : isS s := hb0.2.1
  refine con_of (L := [some (av_R (some 158)), some (av_R (some a1)), some (av_I a2), some (av_I a3), some (av_I a4), none, none, none]) (by decide +kernel) (Nat.le_of_ble_eq_true rfl) rfl ?_
  refine A_locI 2 rfl (fun ra2 => ?_)
  refine A_locI 3 rfl (fun ra3 => ?_)
  refine A_locI 4 rfl (fun ra4 => ?_)
  exact b_Seconds_find_0 ha1 hX13 hb0 (H ra2 ra3 ra4)
def B_Seconds_rowAt_103 (G : cx_T) (s : Nat) (a1 : Int) (h : ah_T) (Q : Option av_T → ah_T → Prop) : Prop :=
 Q (some (av_I 0)) h
theorem b_Seconds_rowAt_103 {G : cx_T} {s : Nat} {a1 : Int} {h : ah_T} {Q : Option av_T → ah_T → Prop} (hb0 : hb s h) (H : B_Seconds_rowAt_103 G s a1 h Q ) : aw G (rm_R 1 0 0) m_Seconds_rowAt 0 0 103 [none, none, none, none, none] [] h Q := by
  unfold B_Seconds_rowAt_103 at H
  have hS : isS s := hb0.2.1
  refine A_iconst d_Seconds_rowAt_103 rfl ?_
  exact A_iret d_Seconds_rowAt_104 (by decide) rfl H
def B_Seconds_rowAt_97 (G : cx_T) (s : Nat) (a1 : Int) (v2 : Int) (v3 : Int) (v4 : Int) (h : ah_T) (Q : Option av_T → ah_T → Prop) (X49 : Int → Int → Int → ah_T → Prop) : Prop :=
 ((-2147483648) ≤ (v4 + 1) ∧ (v4 + 1) ≤ 2147483647) ∧ X49 (v2) (v3) ((v4 + 1)) h
theorem b_Seconds_rowAt_97 {G : cx_T} {s : Nat} {a1 : Int} {v2 : Int} {v3 : Int} {v4 : Int} {h : ah_T} {Q : Option av_T → ah_T → Prop} {X49 : Int → Int → Int → ah_T → Prop} (hX49 : ∀ (v2 : Int) (v3 : Int) (v4 : Int) (h : ah_T), hb s h → X49 v2 v3 v4 h → aw G (rm_R 1 0 0) m_Seconds_rowAt 0 0 49 [some (av_R (some 158)), some (av_I a1), some (av_I v2), some (av_I v3), some (av_I v4)] [] h Q) (hb0 : hb s h) (H : B_Seconds_rowAt_97 G s a1 v2 v3 v4 h Q X49) : aw G (rm_R 1 0 0) m_Seconds_rowAt 0 0 97 [some (av_R (some 158)), some (av_I a1), some (av_I v2), some (av_I v3), some (av_I v4)] [] h Q := by
  unfold B_Seconds_rowAt_97 at H
  have hS : isS s := hb0.2.1
  have g1 := H.1
  replace H := H.2
  refine A_iincv (z := (v4 + 1)) (L' := [some (av_R (some 158)), some (av_I a1), some (av_I v2), some (av_I v3), some (av_I (v4 + 1))]) d_Seconds_rowAt_97 rfl (w32_to (by omega) (by unfold i32; omega)) rfl ?_
  refine A_goto (tgt := 49) d_Seconds_rowAt_100 (by decide) ?_
  refine A_pc (pc' := 49) rfl ?_
  exact hX49 (v2) (v3) ((v4 + 1)) h  hb0 H
def B_Seconds_rowAt_49 (G : cx_T) (s : Nat) (a1 : Int) (v2 : Int) (v3 : Int) (v4 : Int) (h : ah_T) (Q : Option av_T → ah_T → Prop) (X49 : Int → Int → Int → ah_T → Prop) : Prop :=
 ((64 ≤ v4 → B_Seconds_rowAt_103 G s a1 h Q ) ∧ (¬ 64 ≤ v4 → ((1563 ≤ v3 → B_Seconds_rowAt_103 G s a1 h Q ) ∧ (¬ 1563 ≤ v3 → (0 ≤ v3 ∧ v3 < 1563) ∧ ∀ x3 : Int, x3 = h.2.2.1 159 (v3).toNat → -9223372036854775808 ≤ x3 → x3 ≤ 9223372036854775807 → ∀ x5 : Int, x5 = (((Int64.ofInt x3).toUInt64 >>> ((Int32.ofInt v4).toInt64.toUInt64 &&& Int64.toUInt64 63)).toInt64).toInt → (-9223372036854775808) ≤ x5 → x5 ≤ 9223372036854775807 → ∀ x6 : Int, x6 = ((Int64.ofInt x5) &&& (Int64.ofInt 1)).toInt → (-9223372036854775808) ≤ x6 → x6 ≤ 9223372036854775807 → ((x6 = 0 → B_Seconds_rowAt_97 G s a1 (v2) (v3) (v4) h Q X49) ∧ (¬ x6 = 0 → ((v2 = a1 → ((-2147483648) ≤ (64 * v3) ∧ (64 * v3) ≤ 2147483647) ∧ ((-2147483648) ≤ (64 * v3 + v4) ∧ (64 * v3 + v4) ≤ 2147483647) ∧ Q (some (av_I (64 * v3 + v4))) h) ∧ (¬ v2 = a1 → ((-2147483648) ≤ (v2 + 1) ∧ (v2 + 1) ≤ 2147483647) ∧ B_Seconds_rowAt_97 G s a1 ((v2 + 1)) (v3) (v4) h Q X49))))))))
theorem b_Seconds_rowAt_49 {G : cx_T} {s : Nat} {a1 : Int} {v2 : Int} {v3 : Int} {v4 : Int} {h : ah_T} {Q : Option av_T → ah_T → Prop} {X49 : Int → Int → Int → ah_T → Prop} (hX49 : ∀ (v2 : Int) (v3 : Int) (v4 : Int) (h : ah_T), hb s h → X49 v2 v3 v4 h → aw G (rm_R 1 0 0) m_Seconds_rowAt 0 0 49 [some (av_R (some 158)), some (av_I a1), some (av_I v2), some (av_I v3), some (av_I v4)] [] h Q) (hb0 : hb s h) (H : B_Seconds_rowAt_49 G s a1 v2 v3 v4 h Q X49) : aw G (rm_R 1 0 0) m_Seconds_rowAt 0 0 49 [some (av_R (some 158)), some (av_I a1), some (av_I v2), some (av_I v3), some (av_I v4)] [] h Q := by
  unfold B_Seconds_rowAt_49 at H
  have hS : isS s := hb0.2.1
  refine A_iload d_Seconds_rowAt_49 rfl ?_
  refine A_bipush d_Seconds_rowAt_51 rfl ?_
  refine A_icmp_ge (tgt := 103) d_Seconds_rowAt_53 (by decide) (fun c => ?_) (fun c => ?_)
  · replace H := H.1 c
    refine A_pc (pc' := 103) rfl ?_
    refine A_free (L' := [none, none, none, none, none]) trivial ?_
    exact b_Seconds_rowAt_103    hb0 H
  · replace H := H.2 c
    refine A_iload_n 3 d_Seconds_rowAt_56 rfl rfl ?_
    refine A_aload_n 0 d_Seconds_rowAt_57 rfl rfl ?_
    refine A_getAv (z := some 159) T_ok d_Seconds_rowAt_58 f_Seconds_11 (hb_s hb0 sf_158) (hb_r hb0 rff_158_0) ?_
    refine A_alenN d_Seconds_rowAt_61 (hb_s hb0 sf_159) (by decide) (by decide) ?_
    refine A_icmp_ge (tgt := 103) d_Seconds_rowAt_62 (by decide) (fun c => ?_) (fun c => ?_)
    · replace H := H.1 c
      refine A_pc (pc' := 103) rfl ?_
      refine A_free (L' := [none, none, none, none, none]) trivial ?_
      exact b_Seconds_rowAt_103    hb0 H
    · replace H := H.2 c
      refine A_aload_n 0 d_Seconds_rowAt_65 rfl rfl ?_
      refine A_getAv (z := some 159) T_ok d_Seconds_rowAt_66 f_Seconds_11 (hb_s hb0 sf_158) (hb_r hb0 rff_158_0) ?_
      refine A_iload_n 3 d_Seconds_rowAt_69 rfl rfl ?_
      have g4 := H.1
      replace H := H.2
      refine A_laloadf d_Seconds_rowAt_70 (hb_s hb0 sf_159) g4.1 g4.2 (fun x3 ex3 lx3 ux3 => ?_)
      replace H := H x3 ex3 lx3 ux3
      refine A_iload d_Seconds_rowAt_71 rfl ?_
      refine A_pc (pc' := 73) rfl ?_
      refine A_lushr d_Seconds_rowAt_73 ?_
      refine A_nrL (fun x5 ex5 lx5 ux5 => ?_)
      replace H := H x5 ex5 lx5 ux5
      refine A_lconst_1 d_Seconds_rowAt_74 ?_
      refine A_land d_Seconds_rowAt_75 ?_
      refine A_nrL (fun x6 ex6 lx6 ux6 => ?_)
      replace H := H x6 ex6 lx6 ux6
      refine A_lconst_0 d_Seconds_rowAt_76 ?_
      refine A_lcmpn d_Seconds_rowAt_77 (fun x7 lx7 ex7 gx7 _ _ => ?_)
      refine A_if_eq (tgt := 97) d_Seconds_rowAt_78 (by decide) (fun c => ?_) (fun c => ?_)
      · replace H := H.1 (by omega)
        refine A_pc (pc' := 97) rfl ?_
        exact b_Seconds_rowAt_97  hX49  hb0 H
      · replace H := H.2 (by omega)
        refine A_iload_n 2 d_Seconds_rowAt_81 rfl rfl ?_
        refine A_iload_n 1 d_Seconds_rowAt_82 rfl rfl ?_
        refine A_icmp_ne (tgt := 94) d_Seconds_rowAt_83 (by decide) (fun c => ?_) (fun c => ?_)
        · replace H := H.2 c
          have g8 := H.1
          replace H := H.2
          refine A_iincv (z := (v2 + 1)) (L' := [some (av_R (some 158)), some (av_I a1), some (av_I (v2 + 1)), some (av_I v3), some (av_I v4)]) d_Seconds_rowAt_94 rfl (w32_to (by omega) (by unfold i32; omega)) rfl ?_
          refine A_pc (pc' := 97) rfl ?_
          exact b_Seconds_rowAt_97  hX49  hb0 H
        · replace H := H.1 c
          refine A_iload_n 3 d_Seconds_rowAt_86 rfl rfl ?_
          refine A_bipush d_Seconds_rowAt_87 rfl ?_
          have g9 := H.1
          replace H := H.2
          refine A_imulv (z := (64 * v3)) d_Seconds_rowAt_89 (w32_to (by omega) (by unfold i32; omega)) ?_
          refine A_iload d_Seconds_rowAt_90 rfl ?_
          have g10 := H.1
          replace H := H.2
          refine A_iaddv (z := (64 * v3 + v4)) d_Seconds_rowAt_92 (w32_to (by omega) (by unfold i32; omega)) ?_
          refine A_pc (pc' := 93) rfl ?_
          exact A_iret d_Seconds_rowAt_93 (by decide) rfl H
theorem lp_Seconds_rowAt_49 {G : cx_T} {s : Nat} {a1 : Int} {Q : Option av_T → ah_T → Prop} (I : Int → Int → Int → ah_T → Prop) (μ : Int → Int → Int → ah_T → Nat) (hI : ∀ (v2 : Int) (v3 : Int) (v4 : Int) (h : ah_T), hb s h → I v2 v3 v4 h → B_Seconds_rowAt_49 G s a1 v2 v3 v4 h Q (fun v2' v3' v4' h' => I v2' v3' v4' h' ∧ μ v2' v3' v4' h' < μ v2 v3 v4 h)) : ∀ (v2 : Int) (v3 : Int) (v4 : Int) (h : ah_T), hb s h → I v2 v3 v4 h → aw G (rm_R 1 0 0) m_Seconds_rowAt 0 0 49 [some (av_R (some 158)), some (av_I a1), some (av_I v2), some (av_I v3), some (av_I v4)] [] h Q := by
  have key : ∀ (n : Nat) (v2 : Int) (v3 : Int) (v4 : Int) (h : ah_T), hb s h → I v2 v3 v4 h → μ v2 v3 v4 h < n → aw G (rm_R 1 0 0) m_Seconds_rowAt 0 0 49 [some (av_R (some 158)), some (av_I a1), some (av_I v2), some (av_I v3), some (av_I v4)] [] h Q := by
    intro n
    induction n with
    | zero => intro v2 v3 v4 h  hb0 hi hm; omega
    | succ n ih => intro v2 v3 v4 h  hb0 hi hm; exact b_Seconds_rowAt_49  (fun v2' v3' v4' h'  hb' hx => ih v2' v3' v4' h'  hb' hx.1 (by have := hx.2; omega))  hb0 (hI v2 v3 v4 h  hb0 hi)
  exact fun v2 v3 v4 h  hb0 hi => key _ v2 v3 v4 h  hb0 hi (Nat.lt_succ_self _)
def B_Seconds_rowAt_46 (G : cx_T) (s : Nat) (a1 : Int) (v2 : Int) (v3 : Int) (h : ah_T) (Q : Option av_T → ah_T → Prop) (X49 : Int → Int → Int → ah_T → Prop) : Prop :=
 X49 (v2) (v3) (0) h
theorem b_Seconds_rowAt_46 {G : cx_T} {s : Nat} {a1 : Int} {v2 : Int} {v3 : Int} {h : ah_T} {Q : Option av_T → ah_T → Prop} {X49 : Int → Int → Int → ah_T → Prop} (hX49 : ∀ (v2 : Int) (v3 : Int) (v4 : Int) (h : ah_T), hb s h → X49 v2 v3 v4 h → aw G (rm_R 1 0 0) m_Seconds_rowAt 0 0 49 [some (av_R (some 158)), some (av_I a1), some (av_I v2), some (av_I v3), some (av_I v4)] [] h Q) (hb0 : hb s h) (H : B_Seconds_rowAt_46 G s a1 v2 v3 h Q X49) : aw G (rm_R 1 0 0) m_Seconds_rowAt 0 0 46 [some (av_R (some 158)), some (av_I a1), some (av_I v2), some (av_I v3), none] [] h Q := by
  unfold B_Seconds_rowAt_46 at H
  have hS : isS s := hb0.2.1
  refine A_iconst d_Seconds_rowAt_46 rfl ?_
  refine A_istore (L' := [some (av_R (some 158)), some (av_I a1), some (av_I v2), some (av_I v3), some (av_I 0)]) d_Seconds_rowAt_47 (Nat.le_of_ble_eq_true rfl) rfl ?_
  refine A_pc (pc' := 49) rfl ?_
  exact hX49 (v2) (v3) (0) h  hb0 H
def B_Seconds_rowAt_4 (G : cx_T) (s : Nat) (a1 : Int) (v2 : Int) (v3 : Int) (h : ah_T) (Q : Option av_T → ah_T → Prop) (X4 : Int → Int → ah_T → Prop) (X49 : Int → Int → Int → ah_T → Prop) : Prop :=
 ((1563 ≤ v3 → B_Seconds_rowAt_46 G s a1 (v2) (v3) h Q X49) ∧ (¬ 1563 ≤ v3 → (0 ≤ v3 ∧ v3 < 1563) ∧ ∀ x3 : Int, x3 = h.2.2.1 159 (v3).toNat → -9223372036854775808 ≤ x3 → x3 ≤ 9223372036854775807 → con G 0 0 0 m_JLong_bitCount [av_L x3] h (fun r h5 => ∃ z7 : Int, r = some (av_I z7) ∧ hb s h5 ∧ ((-2147483648) ≤ (v2 + z7) ∧ (v2 + z7) ≤ 2147483647) ∧ ((a1 < (v2 + z7) → B_Seconds_rowAt_46 G s a1 (v2) (v3) h5 Q X49) ∧ (¬ a1 < (v2 + z7) → ∀ x10 : Int, x10 = h5.2.2.1 159 (v3).toNat → -9223372036854775808 ≤ x10 → x10 ≤ 9223372036854775807 → con G 0 0 0 m_JLong_bitCount [av_L x10] h5 (fun r h11 => ∃ z13 : Int, r = some (av_I z13) ∧ hb s h11 ∧ ((-2147483648) ≤ (v2 + z13) ∧ (v2 + z13) ≤ 2147483647) ∧ ((-2147483648) ≤ (v3 + 1) ∧ (v3 + 1) ≤ 2147483647) ∧ X4 ((v2 + z13)) ((v3 + 1)) h11))))))
theorem b_Seconds_rowAt_4 {G : cx_T} {s : Nat} {a1 : Int} {v2 : Int} {v3 : Int} {h : ah_T} {Q : Option av_T → ah_T → Prop} {X4 : Int → Int → ah_T → Prop} {X49 : Int → Int → Int → ah_T → Prop} (hX4 : ∀ (v2 : Int) (v3 : Int) (h : ah_T), hb s h → X4 v2 v3 h → aw G (rm_R 1 0 0) m_Seconds_rowAt 0 0 4 [some (av_R (some 158)), some (av_I a1), some (av_I v2), some (av_I v3), none] [] h Q) (hX49 : ∀ (v2 : Int) (v3 : Int) (v4 : Int) (h : ah_T), hb s h → X49 v2 v3 v4 h → aw G (rm_R 1 0 0) m_Seconds_rowAt 0 0 49 [some (av_R (some 158)), some (av_I a1), some (av_I v2), some (av_I v3), some (av_I v4)] [] h Q) (hb0 : hb s h) (H : B_Seconds_rowAt_4 G s a1 v2 v3 h Q X4 X49) : aw G (rm_R 1 0 0) m_Seconds_rowAt 0 0 4 [some (av_R (some 158)), some (av_I a1), some (av_I v2), some (av_I v3), none] [] h Q := by
  unfold B_Seconds_rowAt_4 at H
  have hS : isS s := hb0.2.1
  refine A_iload_n 3 d_Seconds_rowAt_4 rfl rfl ?_
  refine A_aload_n 0 d_Seconds_rowAt_5 rfl rfl ?_
  refine A_getAv (z := some 159) T_ok d_Seconds_rowAt_6 f_Seconds_11 (hb_s hb0 sf_158) (hb_r hb0 rff_158_0) ?_
  refine A_alenN d_Seconds_rowAt_9 (hb_s hb0 sf_159) (by decide) (by decide) ?_
  refine A_icmp_ge (tgt := 46) d_Seconds_rowAt_10 (by decide) (fun c => ?_) (fun c => ?_)
  · replace H := H.1 c
    refine A_pc (pc' := 46) rfl ?_
    exact b_Seconds_rowAt_46  hX49  hb0 H
  · replace H := H.2 c
    refine A_iload_n 2 d_Seconds_rowAt_13 rfl rfl ?_
    refine A_aload_n 0 d_Seconds_rowAt_14 rfl rfl ?_
    refine A_getAv (z := some 159) T_ok d_Seconds_rowAt_15 f_Seconds_11 (hb_s hb0 sf_158) (hb_r hb0 rff_158_0) ?_
    refine A_iload_n 3 d_Seconds_rowAt_18 rfl rfl ?_
    have g4 := H.1
    replace H := H.2
    refine A_laloadf d_Seconds_rowAt_19 (hb_s hb0 sf_159) g4.1 g4.2 (fun x3 ex3 lx3 ux3 => ?_)
    replace H := H x3 ex3 lx3 ux3
    refine A_pc (pc' := 20) rfl ?_
    refine A_callS1 m_JLong_bitCount d_Seconds_rowAt_20 l_Seconds_88 k_JLong_bitCount (by decide +kernel) (by decide) (Nat.le_of_ble_eq_true rfl) H (fun r h5 hq => ?_)
    clear H
    obtain ⟨z7, rfl, hb6, H⟩ := hq
    have g8 := H.1
    replace H := H.2
    refine A_iaddv (z := (v2 + z7)) d_Seconds_rowAt_23 (w32_to (by omega) (by unfold i32; omega)) ?_
    refine A_iload_n 1 d_Seconds_rowAt_24 rfl rfl ?_
    refine A_icmp_gt (tgt := 46) d_Seconds_rowAt_25 (by decide) (fun c => ?_) (fun c => ?_)
    · replace H := H.1 c
      refine A_pc (pc' := 46) rfl ?_
      exact b_Seconds_rowAt_46  hX49  hb6 H
    · replace H := H.2 c
      refine A_iload_n 2 d_Seconds_rowAt_28 rfl rfl ?_
      refine A_aload_n 0 d_Seconds_rowAt_29 rfl rfl ?_
      refine A_getAv (z := some 159) T_ok d_Seconds_rowAt_30 f_Seconds_11 (hb_s hb6 sf_158) (hb_r hb6 rff_158_0) ?_
      refine A_iload_n 3 d_Seconds_rowAt_33 rfl rfl ?_
      refine A_laloadf d_Seconds_rowAt_34 (hb_s hb6 sf_159) g4.1 g4.2 (fun x10 ex10 lx10 ux10 => ?_)
      replace H := H x10 ex10 lx10 ux10
      refine A_pc (pc' := 35) rfl ?_
      refine A_callS1 m_JLong_bitCount d_Seconds_rowAt_35 l_Seconds_88 k_JLong_bitCount (by decide +kernel) (by decide) (Nat.le_of_ble_eq_true rfl) H (fun r h11 hq => ?_)
      clear H
      obtain ⟨z13, rfl, hb12, H⟩ := hq
      have g14 := H.1
      replace H := H.2
      refine A_iaddv (z := (v2 + z13)) d_Seconds_rowAt_38 (w32_to (by omega) (by unfold i32; omega)) ?_
      refine A_istore_n 2 (L' := [some (av_R (some 158)), some (av_I a1), some (av_I (v2 + z13)), some (av_I v3), none]) d_Seconds_rowAt_39 rfl (Nat.le_of_ble_eq_true rfl) rfl ?_
      have g15 := H.1
      replace H := H.2
      refine A_iincv (z := (v3 + 1)) (L' := [some (av_R (some 158)), some (av_I a1), some (av_I (v2 + z13)), some (av_I (v3 + 1)), none]) d_Seconds_rowAt_40 rfl (w32_to (by omega) (by unfold i32; omega)) rfl ?_
      refine A_goto (tgt := 4) d_Seconds_rowAt_43 (by decide) ?_
      refine A_pc (pc' := 4) rfl ?_
      exact hX4 ((v2 + z13)) ((v3 + 1)) h11  hb12 H
theorem lp_Seconds_rowAt_4 {G : cx_T} {s : Nat} {a1 : Int} {Q : Option av_T → ah_T → Prop} {X49 : Int → Int → Int → ah_T → Prop} (hX49 : ∀ (v2 : Int) (v3 : Int) (v4 : Int) (h : ah_T), hb s h → X49 v2 v3 v4 h → aw G (rm_R 1 0 0) m_Seconds_rowAt 0 0 49 [some (av_R (some 158)), some (av_I a1), some (av_I v2), some (av_I v3), some (av_I v4)] [] h Q) (I : Int → Int → ah_T → Prop) (μ : Int → Int → ah_T → Nat) (hI : ∀ (v2 : Int) (v3 : Int) (h : ah_T), hb s h → I v2 v3 h → B_Seconds_rowAt_4 G s a1 v2 v3 h Q (fun v2' v3' h' => I v2' v3' h' ∧ μ v2' v3' h' < μ v2 v3 h) X49) : ∀ (v2 : Int) (v3 : Int) (h : ah_T), hb s h → I v2 v3 h → aw G (rm_R 1 0 0) m_Seconds_rowAt 0 0 4 [some (av_R (some 158)), some (av_I a1), some (av_I v2), some (av_I v3), none] [] h Q := by
  have key : ∀ (n : Nat) (v2 : Int) (v3 : Int) (h : ah_T), hb s h → I v2 v3 h → μ v2 v3 h < n → aw G (rm_R 1 0 0) m_Seconds_rowAt 0 0 4 [some (av_R (some 158)), some (av_I a1), some (av_I v2), some (av_I v3), none] [] h Q := by
    intro n
    induction n with
    | zero => intro v2 v3 h  hb0 hi hm; omega
    | succ n ih => intro v2 v3 h  hb0 hi hm; exact b_Seconds_rowAt_4  (fun v2' v3' h'  hb' hx => ih v2' v3' h'  hb' hx.1 (by have := hx.2; omega)) hX49  hb0 (hI v2 v3 h  hb0 hi)
  exact fun v2 v3 h  hb0 hi => key _ v2 v3 h  hb0 hi (Nat.lt_succ_self _)
def B_Seconds_rowAt_0 (G : cx_T) (s : Nat) (a1 : Int) (h : ah_T) (Q : Option av_T → ah_T → Prop) (X4 : Int → Int → ah_T → Prop) : Prop :=
 X4 (0) (0) h
theorem b_Seconds_rowAt_0 {G : cx_T} {s : Nat} {a1 : Int} {h : ah_T} {Q : Option av_T → ah_T → Prop} {X4 : Int → Int → ah_T → Prop} (hX4 : ∀ (v2 : Int) (v3 : Int) (h : ah_T), hb s h → X4 v2 v3 h → aw G (rm_R 1 0 0) m_Seconds_rowAt 0 0 4 [some (av_R (some 158)), some (av_I a1), some (av_I v2), some (av_I v3), none] [] h Q) (hb0 : hb s h) (H : B_Seconds_rowAt_0 G s a1 h Q X4) : aw G (rm_R 1 0 0) m_Seconds_rowAt 0 0 0 [some (av_R (some 158)), some (av_I a1), none, none, none] [] h Q := by
  unfold B_Seconds_rowAt_0 at H
  have hS : isS s := hb0.2.1
  refine A_iconst d_Seconds_rowAt_0 rfl ?_
  refine A_istore_n 2 (L' := [some (av_R (some 158)), some (av_I a1), some (av_I 0), none, none]) d_Seconds_rowAt_1 rfl (Nat.le_of_ble_eq_true rfl) rfl ?_
  refine A_iconst d_Seconds_rowAt_2 rfl ?_
  refine A_istore_n 3 (L' := [some (av_R (some 158)), some (av_I a1), some (av_I 0), some (av_I 0), none]) d_Seconds_rowAt_3 rfl (Nat.le_of_ble_eq_true rfl) rfl ?_
  refine A_pc (pc' := 4) rfl ?_
  exact hX4 (0) (0) h  hb0 H
theorem c_Seconds_rowAt {G : cx_T} {s : Nat} {a1 : Int} {h : ah_T} {Q : Option av_T → ah_T → Prop} {X4 : Int → Int → ah_T → Prop} (hX4 : ∀ (v2 : Int) (v3 : Int) (h : ah_T), hb s h → X4 v2 v3 h → aw G (rm_R 1 0 0) m_Seconds_rowAt 0 0 4 [some (av_R (some 158)), some (av_I a1), some (av_I v2), some (av_I v3), none] [] h Q) (hb0 : hb s h) (H : i32 a1 → B_Seconds_rowAt_0 G s a1 h Q X4) : con G 1 0 0 m_Seconds_rowAt [av_R (some 158), av_I a1] h Q := by
  have hS : isS s := hb0.2.1
  refine con_of (L := [some (av_R (some 158)), some (av_I a1), none, none, none]) (by decide +kernel) (Nat.le_of_ble_eq_true rfl) rfl ?_
  refine A_locI 1 rfl (fun ra1 => ?_)
  exact b_Seconds_rowAt_0  hX4 hb0 (H ra1)
def B_Seconds_keyIn_48 (G : cx_T) (s : Nat) (a1 : Int) (a2 : Int) (v3 : Int) (v4 : Int) (h : ah_T) (Q : Option av_T → ah_T → Prop) (X48 : Int → Int → ah_T → Prop) : Prop :=
 ((v4 ≤ a2 → ∀ x1 : Int, x1 = h.2.1 158 2 → -2147483648 ≤ x1 → x1 ≤ 2147483647 → ∀ x2 : Int, x2 = h.2.1 158 3 → -2147483648 ≤ x2 → x2 ≤ 2147483647 → (x2 ≠ 0) ∧ ∀ x3 : Int, x3 = (v3).tmod x2 → (-2147483648) ≤ x3 → x3 ≤ 2147483647 → ((-2147483648) ≤ (x1 + x3) ∧ (x1 + x3) ≤ 2147483647) ∧ Q (some (av_I (x1 + x3))) h) ∧ (¬ v4 ≤ a2 → ∀ x5 : Int, x5 = h.2.1 158 3 → -2147483648 ≤ x5 → x5 ≤ 2147483647 → (x5 ≠ 0) ∧ ∀ x6 : Int, x6 = w32 ((v3).tdiv x5) → (-2147483648) ≤ x6 → x6 ≤ 2147483647 → ((-2147483648) ≤ (v4 - 1) ∧ (v4 - 1) ≤ 2147483647) ∧ X48 (x6) ((v4 - 1)) h))
theorem b_Seconds_keyIn_48 {G : cx_T} {s : Nat} {a1 : Int} {a2 : Int} {v3 : Int} {v4 : Int} {h : ah_T} {Q : Option av_T → ah_T → Prop} {X48 : Int → Int → ah_T → Prop} (hX48 : ∀ (v3 : Int) (v4 : Int) (h : ah_T), hb s h → X48 v3 v4 h → aw G (rm_R 2 0 0) m_Seconds_keyIn 0 0 48 [some (av_R (some 158)), none, some (av_I a2), some (av_I v3), some (av_I v4)] [] h Q) (hb0 : hb s h) (H : B_Seconds_keyIn_48 G s a1 a2 v3 v4 h Q X48) : aw G (rm_R 2 0 0) m_Seconds_keyIn 0 0 48 [some (av_R (some 158)), none, some (av_I a2), some (av_I v3), some (av_I v4)] [] h Q := by
  unfold B_Seconds_keyIn_48 at H
  have hS : isS s := hb0.2.1
  refine A_iload d_Seconds_keyIn_48 rfl ?_
  refine A_iload_n 2 d_Seconds_keyIn_50 rfl rfl ?_
  refine A_icmp_le (tgt := 67) d_Seconds_keyIn_51 (by decide) (fun c => ?_) (fun c => ?_)
  · replace H := H.1 c
    refine A_aload_n 0 d_Seconds_keyIn_67 rfl rfl ?_
    refine A_getIf T_ok d_Seconds_keyIn_68 f_Seconds_32 (hb_s hb0 sf_158) (fun x1 ex1 lx1 ux1 => ?_)
    replace H := H x1 ex1 lx1 ux1
    refine A_iload_n 3 d_Seconds_keyIn_71 rfl rfl ?_
    refine A_aload_n 0 d_Seconds_keyIn_72 rfl rfl ?_
    refine A_getIf T_ok d_Seconds_keyIn_73 f_Seconds_35 (hb_s hb0 sf_158) (fun x2 ex2 lx2 ux2 => ?_)
    replace H := H x2 ex2 lx2 ux2
    refine A_pc (pc' := 76) rfl ?_
    have H0 := H.1
    replace H := H.2
    refine A_iremc d_Seconds_keyIn_76 H0 (fun x3 ex3 lx3 ux3 => ?_)
    replace H := H x3 ex3 lx3 ux3
    have g4 := H.1
    replace H := H.2
    refine A_iaddv (z := (x1 + x3)) d_Seconds_keyIn_77 (w32_to (by omega) (by unfold i32; omega)) ?_
    exact A_iret d_Seconds_keyIn_78 (by decide) rfl H
  · replace H := H.2 c
    refine A_iload_n 3 d_Seconds_keyIn_54 rfl rfl ?_
    refine A_aload_n 0 d_Seconds_keyIn_55 rfl rfl ?_
    refine A_getIf T_ok d_Seconds_keyIn_56 f_Seconds_35 (hb_s hb0 sf_158) (fun x5 ex5 lx5 ux5 => ?_)
    replace H := H x5 ex5 lx5 ux5
    have H0 := H.1
    replace H := H.2
    refine A_idivc d_Seconds_keyIn_59 H0 (fun x6 ex6 lx6 ux6 => ?_)
    replace H := H x6 ex6 lx6 ux6
    refine A_istore_n 3 (L' := [some (av_R (some 158)), none, some (av_I a2), some (av_I x6), some (av_I v4)]) d_Seconds_keyIn_60 rfl (Nat.le_of_ble_eq_true rfl) rfl ?_
    refine A_pc (pc' := 61) rfl ?_
    have g7 := H.1
    replace H := H.2
    refine A_iincv (z := (v4 - 1)) (L' := [some (av_R (some 158)), none, some (av_I a2), some (av_I x6), some (av_I (v4 - 1))]) d_Seconds_keyIn_61 rfl (w32_to (by omega) (by unfold i32; omega)) rfl ?_
    refine A_goto (tgt := 48) d_Seconds_keyIn_64 (by decide) ?_
    refine A_pc (pc' := 48) rfl ?_
    exact hX48 (x6) ((v4 - 1)) h  hb0 H
theorem lp_Seconds_keyIn_48 {G : cx_T} {s : Nat} {a1 : Int} {a2 : Int} {Q : Option av_T → ah_T → Prop} (I : Int → Int → ah_T → Prop) (μ : Int → Int → ah_T → Nat) (hI : ∀ (v3 : Int) (v4 : Int) (h : ah_T), hb s h → I v3 v4 h → B_Seconds_keyIn_48 G s a1 a2 v3 v4 h Q (fun v3' v4' h' => I v3' v4' h' ∧ μ v3' v4' h' < μ v3 v4 h)) : ∀ (v3 : Int) (v4 : Int) (h : ah_T), hb s h → I v3 v4 h → aw G (rm_R 2 0 0) m_Seconds_keyIn 0 0 48 [some (av_R (some 158)), none, some (av_I a2), some (av_I v3), some (av_I v4)] [] h Q := by
  have key : ∀ (n : Nat) (v3 : Int) (v4 : Int) (h : ah_T), hb s h → I v3 v4 h → μ v3 v4 h < n → aw G (rm_R 2 0 0) m_Seconds_keyIn 0 0 48 [some (av_R (some 158)), none, some (av_I a2), some (av_I v3), some (av_I v4)] [] h Q := by
    intro n
    induction n with
    | zero => intro v3 v4 h  hb0 hi hm; omega
    | succ n ih => intro v3 v4 h  hb0 hi hm; exact b_Seconds_keyIn_48  (fun v3' v4' h'  hb' hx => ih v3' v4' h'  hb' hx.1 (by have := hx.2; omega))  hb0 (hI v3 v4 h  hb0 hi)
  exact fun v3 v4 h  hb0 hi => key _ v3 v4 h  hb0 hi (Nat.lt_succ_self _)
def B_Seconds_keyIn_32 (G : cx_T) (s : Nat) (a1 : Int) (a2 : Int) (h : ah_T) (Q : Option av_T → ah_T → Prop) : Prop :=
 Q (some (av_I (-1))) h
theorem b_Seconds_keyIn_32 {G : cx_T} {s : Nat} {a1 : Int} {a2 : Int} {h : ah_T} {Q : Option av_T → ah_T → Prop} (hb0 : hb s h) (H : B_Seconds_keyIn_32 G s a1 a2 h Q ) : aw G (rm_R 2 0 0) m_Seconds_keyIn 0 0 32 [none, none, none, none, none] [] h Q := by
  unfold B_Seconds_keyIn_32 at H
  have hS : isS s := hb0.2.1
  refine A_iconst d_Seconds_keyIn_32 rfl ?_
  exact A_iret d_Seconds_keyIn_33 (by decide) rfl H
def B_Seconds_keyIn_0 (G : cx_T) (s : Nat) (a1 : Int) (a2 : Int) (h : ah_T) (Q : Option av_T → ah_T → Prop) (X48 : Int → Int → ah_T → Prop) : Prop :=
 ((a1 < 0 → B_Seconds_keyIn_32 G s a1 a2 h Q ) ∧ (¬ a1 < 0 → ∀ x1 : Int, x1 = h.2.1 158 1 → -2147483648 ≤ x1 → x1 ≤ 2147483647 → ((x1 ≤ a1 → B_Seconds_keyIn_32 G s a1 a2 h Q ) ∧ (¬ x1 ≤ a1 → ((a2 < 0 → B_Seconds_keyIn_32 G s a1 a2 h Q ) ∧ (¬ a2 < 0 → ∀ x2 : Int, x2 = h.2.1 158 4 → -2147483648 ≤ x2 → x2 ≤ 2147483647 → ((x2 ≤ a2 → B_Seconds_keyIn_32 G s a1 a2 h Q ) ∧ (¬ x2 ≤ a2 → ∀ x3 : Int, x3 = h.2.1 158 3 → -2147483648 ≤ x3 → x3 ≤ 2147483647 → ((1 ≤ x3 → con G 1 0 0 m_Seconds_rowAt [av_R (some 158), av_I a1] h (fun r h4 => ∃ z6 : Int, r = some (av_I z6) ∧ hb s h4 ∧ ∀ x7 : Int, x7 = h4.2.1 158 4 → -2147483648 ≤ x7 → x7 ≤ 2147483647 → ((-2147483648) ≤ (x7 - 1) ∧ (x7 - 1) ≤ 2147483647) ∧ X48 (z6) ((x7 - 1)) h4)) ∧ (¬ 1 ≤ x3 → B_Seconds_keyIn_32 G s a1 a2 h Q ))))))))))
theorem b_Seconds_keyIn_0 {G : cx_T} {s : Nat} {a1 : Int} {a2 : Int} {h : ah_T} {Q : Option av_T → ah_T → Prop} {X48 : Int → Int → ah_T → Prop} (hX48 : ∀ (v3 : Int) (v4 : Int) (h : ah_T), hb s h → X48 v3 v4 h → aw G (rm_R 2 0 0) m_Seconds_keyIn 0 0 48 [some (av_R (some 158)), none, some (av_I a2), some (av_I v3), some (av_I v4)] [] h Q) (hb0 : hb s h) (H : B_Seconds_keyIn_0 G s a1 a2 h Q X48) : aw G (rm_R 2 0 0) m_Seconds_keyIn 0 0 0 [some (av_R (some 158)), some (av_I a1), some (av_I a2), none, none] [] h Q := by
  unfold B_Seconds_keyIn_0 at H
  have hS : isS s := hb0.2.1
  refine A_iload_n 1 d_Seconds_keyIn_0 rfl rfl ?_
  refine A_if_lt (tgt := 32) d_Seconds_keyIn_1 (by decide) (fun c => ?_) (fun c => ?_)
  · replace H := H.1 c
    refine A_pc (pc' := 32) rfl ?_
    refine A_free (L' := [none, none, none, none, none]) trivial ?_
    exact b_Seconds_keyIn_32    hb0 H
  · replace H := H.2 c
    refine A_iload_n 1 d_Seconds_keyIn_4 rfl rfl ?_
    refine A_aload_n 0 d_Seconds_keyIn_5 rfl rfl ?_
    refine A_getIf T_ok d_Seconds_keyIn_6 f_Seconds_22 (hb_s hb0 sf_158) (fun x1 ex1 lx1 ux1 => ?_)
    replace H := H x1 ex1 lx1 ux1
    refine A_icmp_ge (tgt := 32) d_Seconds_keyIn_9 (by decide) (fun c => ?_) (fun c => ?_)
    · replace H := H.1 c
      refine A_pc (pc' := 32) rfl ?_
      refine A_free (L' := [none, none, none, none, none]) trivial ?_
      exact b_Seconds_keyIn_32    hb0 H
    · replace H := H.2 c
      refine A_iload_n 2 d_Seconds_keyIn_12 rfl rfl ?_
      refine A_if_lt (tgt := 32) d_Seconds_keyIn_13 (by decide) (fun c => ?_) (fun c => ?_)
      · replace H := H.1 c
        refine A_pc (pc' := 32) rfl ?_
        refine A_free (L' := [none, none, none, none, none]) trivial ?_
        exact b_Seconds_keyIn_32    hb0 H
      · replace H := H.2 c
        refine A_iload_n 2 d_Seconds_keyIn_16 rfl rfl ?_
        refine A_aload_n 0 d_Seconds_keyIn_17 rfl rfl ?_
        refine A_getIf T_ok d_Seconds_keyIn_18 f_Seconds_47 (hb_s hb0 sf_158) (fun x2 ex2 lx2 ux2 => ?_)
        replace H := H x2 ex2 lx2 ux2
        refine A_icmp_ge (tgt := 32) d_Seconds_keyIn_21 (by decide) (fun c => ?_) (fun c => ?_)
        · replace H := H.1 c
          refine A_pc (pc' := 32) rfl ?_
          refine A_free (L' := [none, none, none, none, none]) trivial ?_
          exact b_Seconds_keyIn_32    hb0 H
        · replace H := H.2 c
          refine A_aload_n 0 d_Seconds_keyIn_24 rfl rfl ?_
          refine A_getIf T_ok d_Seconds_keyIn_25 f_Seconds_35 (hb_s hb0 sf_158) (fun x3 ex3 lx3 ux3 => ?_)
          replace H := H x3 ex3 lx3 ux3
          refine A_iconst d_Seconds_keyIn_28 rfl ?_
          refine A_icmp_ge (tgt := 34) d_Seconds_keyIn_29 (by decide) (fun c => ?_) (fun c => ?_)
          · replace H := H.1 c
            refine A_aload_n 0 d_Seconds_keyIn_34 rfl rfl ?_
            refine A_iload_n 1 d_Seconds_keyIn_35 rfl rfl ?_
            refine A_callV1 m_Seconds_rowAt T_ok d_Seconds_keyIn_36 l_Seconds_85 k_Seconds_rowAt (hb_s hb0 sf_158) rfl (by decide +kernel) (by decide) (Nat.le_of_ble_eq_true rfl) H (fun r h4 hq => ?_)
            clear H
            obtain ⟨z6, rfl, hb5, H⟩ := hq
            refine A_istore_n 3 (L' := [some (av_R (some 158)), some (av_I a1), some (av_I a2), some (av_I z6), none]) d_Seconds_keyIn_39 rfl (Nat.le_of_ble_eq_true rfl) rfl ?_
            refine A_aload_n 0 d_Seconds_keyIn_40 rfl rfl ?_
            refine A_getIf T_ok d_Seconds_keyIn_41 f_Seconds_47 (hb_s hb5 sf_158) (fun x7 ex7 lx7 ux7 => ?_)
            replace H := H x7 ex7 lx7 ux7
            refine A_iconst d_Seconds_keyIn_44 rfl ?_
            have g8 := H.1
            replace H := H.2
            refine A_isubv (z := (x7 - 1)) d_Seconds_keyIn_45 (w32_to (by omega) (by unfold i32; omega)) ?_
            refine A_pc (pc' := 46) rfl ?_
            refine A_istore (L' := [some (av_R (some 158)), some (av_I a1), some (av_I a2), some (av_I z6), some (av_I (x7 - 1))]) d_Seconds_keyIn_46 (Nat.le_of_ble_eq_true rfl) rfl ?_
            refine A_pc (pc' := 48) rfl ?_
            refine A_free (L' := [some (av_R (some 158)), none, some (av_I a2), some (av_I z6), some (av_I (x7 - 1))]) (And.intro rfl (And.intro rfl (And.intro rfl (And.intro rfl trivial)))) ?_
            exact hX48 (z6) ((x7 - 1)) h4  hb5 H
          · replace H := H.2 c
            refine A_pc (pc' := 32) rfl ?_
            refine A_free (L' := [none, none, none, none, none]) trivial ?_
            exact b_Seconds_keyIn_32    hb0 H
theorem c_Seconds_keyIn {G : cx_T} {s : Nat} {a1 : Int} {a2 : Int} {h : ah_T} {Q : Option av_T → ah_T → Prop} {X48 : Int → Int → ah_T → Prop} (hX48 : ∀ (v3 : Int) (v4 : Int) (h : ah_T), hb s h → X48 v3 v4 h → aw G (rm_R 2 0 0) m_Seconds_keyIn 0 0 48 [some (av_R (some 158)), none, some (av_I a2), some (av_I v3), some (av_I v4)] [] h Q) (hb0 : hb s h) (H : i32 a1 → i32 a2 → B_Seconds_keyIn_0 G s a1 a2 h Q X48) : con G 2 0 0 m_Seconds_keyIn [av_R (some 158), av_I a1, av_I a2] h Q := by
  have hS : isS s := hb0.2.1
  refine con_of (L := [some (av_R (some 158)), some (av_I a1), some (av_I a2), none, none]) (by decide +kernel) (Nat.le_of_ble_eq_true rfl) rfl ?_
  refine A_locI 1 rfl (fun ra1 => ?_)
  refine A_locI 2 rfl (fun ra2 => ?_)
  exact b_Seconds_keyIn_0  hX48 hb0 (H ra1 ra2)
def B_PM_lines_26 (G : cx_T) (s : Nat) (a1 : Int) (a2 : Int) (a3 : Int) (h : ah_T) (Q : Option av_T → ah_T → Prop) : Prop :=
 Q (some (av_I (-1))) h
theorem b_PM_lines_26 {G : cx_T} {s : Nat} {a1 : Int} {a2 : Int} {a3 : Int} {h : ah_T} {Q : Option av_T → ah_T → Prop} (hb0 : hb s h) (H : B_PM_lines_26 G s a1 a2 a3 h Q ) : aw G (rm_R 14 0 0) m_PM_lines 0 0 26 [none, none, none, none] [] h Q := by
  unfold B_PM_lines_26 at H
  have hS : isS s := hb0.2.1
  refine A_iconst d_PM_lines_26 rfl ?_
  exact A_iret d_PM_lines_27 (by decide) rfl H
def B_PM_lines_0 (G : cx_T) (s : Nat) (a1 : Int) (a2 : Int) (a3 : Int) (h : ah_T) (Q : Option av_T → ah_T → Prop) : Prop :=
 ((a1 < 0 → B_PM_lines_26 G s a1 a2 a3 h Q ) ∧ (¬ a1 < 0 → ((120 < a2 → B_PM_lines_26 G s a1 a2 a3 h Q ) ∧ (¬ 120 < a2 → ((a2 < a1 → B_PM_lines_26 G s a1 a2 a3 h Q ) ∧ (¬ a2 < a1 → ((a3 < 0 → B_PM_lines_26 G s a1 a2 a3 h Q ) ∧ (¬ a3 < 0 → ((a3 ≤ 511 → ∀ x2 : Int, x2 = h.2.1 (97 - s) 6 → -2147483648 ≤ x2 → x2 ≤ 2147483647 → ((x2 = 0 → Q (some (av_I (-2))) h) ∧ (¬ x2 = 0 → con G 13 0 0 m_Seconds_find [av_R (some 158), av_R (some (97 - s)), av_I a1, av_I a2, av_I a3] h (fun r h5 => ∃ z7 : Int, r = some (av_I z7) ∧ hb s h5 ∧ Q (some (av_I z7)) h5)))) ∧ (¬ a3 ≤ 511 → B_PM_lines_26 G s a1 a2 a3 h Q ))))))))))
theorem b_PM_lines_0 {G : cx_T} {s : Nat} {a1 : Int} {a2 : Int} {a3 : Int} {h : ah_T} {Q : Option av_T → ah_T → Prop} (hb0 : hb s h) (H : B_PM_lines_0 G s a1 a2 a3 h Q ) : aw G (rm_R 14 0 0) m_PM_lines 0 0 0 [some (av_R (some 0)), some (av_I a1), some (av_I a2), some (av_I a3)] [] h Q := by
  unfold B_PM_lines_0 at H
  have hS : isS s := hb0.2.1
  refine A_iload_n 1 d_PM_lines_0 rfl rfl ?_
  refine A_if_lt (tgt := 26) d_PM_lines_1 (by decide) (fun c => ?_) (fun c => ?_)
  · replace H := H.1 c
    refine A_pc (pc' := 26) rfl ?_
    refine A_free (L' := [none, none, none, none]) trivial ?_
    exact b_PM_lines_26    hb0 H
  · replace H := H.2 c
    refine A_iload_n 2 d_PM_lines_4 rfl rfl ?_
    refine A_bipush d_PM_lines_5 rfl ?_
    refine A_icmp_gt (tgt := 26) d_PM_lines_7 (by decide) (fun c => ?_) (fun c => ?_)
    · replace H := H.1 c
      refine A_pc (pc' := 26) rfl ?_
      refine A_free (L' := [none, none, none, none]) trivial ?_
      exact b_PM_lines_26    hb0 H
    · replace H := H.2 c
      refine A_iload_n 1 d_PM_lines_10 rfl rfl ?_
      refine A_iload_n 2 d_PM_lines_11 rfl rfl ?_
      refine A_icmp_gt (tgt := 26) d_PM_lines_12 (by decide) (fun c => ?_) (fun c => ?_)
      · replace H := H.1 c
        refine A_pc (pc' := 26) rfl ?_
        refine A_free (L' := [none, none, none, none]) trivial ?_
        exact b_PM_lines_26    hb0 H
      · replace H := H.2 c
        refine A_iload_n 3 d_PM_lines_15 rfl rfl ?_
        refine A_if_lt (tgt := 26) d_PM_lines_16 (by decide) (fun c => ?_) (fun c => ?_)
        · replace H := H.1 c
          refine A_pc (pc' := 26) rfl ?_
          refine A_free (L' := [none, none, none, none]) trivial ?_
          exact b_PM_lines_26    hb0 H
        · replace H := H.2 c
          refine A_iload_n 3 d_PM_lines_19 rfl rfl ?_
          refine A_sipush d_PM_lines_20 rfl ?_
          refine A_icmp_le (tgt := 28) d_PM_lines_23 (by decide) (fun c => ?_) (fun c => ?_)
          · replace H := H.1 c
            refine A_aload_n 0 d_PM_lines_28 rfl rfl ?_
            refine A_getOv (z := some (97 - s)) T_ok d_PM_lines_29 f_PM_27 (hb_s hb0 sf_0) hb0.2.2.1 ?_
            refine A_getIf T_ok d_PM_lines_32 f_PM_107 (hs_S hb0 (isS_o hS)) (fun x2 ex2 lx2 ux2 => ?_)
            replace H := H x2 ex2 lx2 ux2
            refine A_if_ne (tgt := 41) d_PM_lines_35 (by decide) (fun c => ?_) (fun c => ?_)
            · replace H := H.2 c
              refine A_aload_n 0 d_PM_lines_41 rfl rfl ?_
              refine A_getOv (z := some 158) T_ok d_PM_lines_42 f_PM_58 (hb_s hb0 sf_0) (hb_r hb0 rff_0_8) ?_
              refine A_aload_n 0 d_PM_lines_45 rfl rfl ?_
              refine A_getOv (z := some (97 - s)) T_ok d_PM_lines_46 f_PM_27 (hb_s hb0 sf_0) hb0.2.2.1 ?_
              refine A_iload_n 1 d_PM_lines_49 rfl rfl ?_
              refine A_pc (pc' := 50) rfl ?_
              refine A_iload_n 2 d_PM_lines_50 rfl rfl ?_
              refine A_iload_n 3 d_PM_lines_51 rfl rfl ?_
              refine A_callV4 m_Seconds_find T_ok d_PM_lines_52 l_PM_180 k_Seconds_find (hb_s hb0 sf_158) rfl (by decide +kernel) (by decide) (Nat.le_of_ble_eq_true rfl) H (fun r h5 hq => ?_)
              clear H
              obtain ⟨z7, rfl, hb6, H⟩ := hq
              exact A_iret d_PM_lines_55 (by decide) rfl H
            · replace H := H.1 c
              refine A_bipush d_PM_lines_38 rfl ?_
              exact A_iret d_PM_lines_40 (by decide) rfl H
          · replace H := H.2 c
            refine A_pc (pc' := 26) rfl ?_
            refine A_free (L' := [none, none, none, none]) trivial ?_
            exact b_PM_lines_26    hb0 H
theorem c_PM_lines {G : cx_T} {s : Nat} {a1 : Int} {a2 : Int} {a3 : Int} {h : ah_T} {Q : Option av_T → ah_T → Prop} (hb0 : hb s h) (H : i32 a1 → i32 a2 → i32 a3 → B_PM_lines_0 G s a1 a2 a3 h Q ) : con G 14 0 0 m_PM_lines [av_R (some 0), av_I a1, av_I a2, av_I a3] h Q := by
  have hS : isS s := hb0.2.1
  refine con_of (L := [some (av_R (some 0)), some (av_I a1), some (av_I a2), some (av_I a3)]) (by decide +kernel) (Nat.le_of_ble_eq_true rfl) rfl ?_
  refine A_locI 1 rfl (fun ra1 => ?_)
  refine A_locI 2 rfl (fun ra2 => ?_)
  refine A_locI 3 rfl (fun ra3 => ?_)
  exact b_PM_lines_0   hb0 (H ra1 ra2 ra3)
def B_PM_second_0 (G : cx_T) (s : Nat) (a1 : Int) (a2 : Int) (h : ah_T) (Q : Option av_T → ah_T → Prop) : Prop :=
 con G 2 0 0 m_Seconds_keyIn [av_R (some 158), av_I a1, av_I a2] h (fun r h2 => ∃ z4 : Int, r = some (av_I z4) ∧ hb s h2 ∧ Q (some (av_I z4)) h2)
theorem b_PM_second_0 {G : cx_T} {s : Nat} {a1 : Int} {a2 : Int} {h : ah_T} {Q : Option av_T → ah_T → Prop} (hb0 : hb s h) (H : B_PM_second_0 G s a1 a2 h Q ) : aw G (rm_R 3 0 0) m_PM_second 0 0 0 [some (av_R (some 0)), some (av_I a1), some (av_I a2)] [] h Q := by
  unfold B_PM_second_0 at H
  have hS : isS s := hb0.2.1
  refine A_aload_n 0 d_PM_second_0 rfl rfl ?_
  refine A_getOv (z := some 158) T_ok d_PM_second_1 f_PM_58 (hb_s hb0 sf_0) (hb_r hb0 rff_0_8) ?_
  refine A_iload_n 1 d_PM_second_4 rfl rfl ?_
  refine A_iload_n 2 d_PM_second_5 rfl rfl ?_
  refine A_callV2 m_Seconds_keyIn T_ok d_PM_second_6 l_PM_183 k_Seconds_keyIn (hb_s hb0 sf_158) rfl (by decide +kernel) (by decide) (Nat.le_of_ble_eq_true rfl) H (fun r h2 hq => ?_)
  clear H
  obtain ⟨z4, rfl, hb3, H⟩ := hq
  exact A_iret d_PM_second_9 (by decide) rfl H
theorem c_PM_second {G : cx_T} {s : Nat} {a1 : Int} {a2 : Int} {h : ah_T} {Q : Option av_T → ah_T → Prop} (hb0 : hb s h) (H : i32 a1 → i32 a2 → B_PM_second_0 G s a1 a2 h Q ) : con G 3 0 0 m_PM_second [av_R (some 0), av_I a1, av_I a2] h Q := by
  have hS : isS s := hb0.2.1
  refine con_of (L := [some (av_R (some 0)), some (av_I a1), some (av_I a2)]) (by decide +kernel) (Nat.le_of_ble_eq_true rfl) rfl ?_
  refine A_locI 1 rfl (fun ra1 => ?_)
  refine A_locI 2 rfl (fun ra2 => ?_)
  exact b_PM_second_0   hb0 (H ra1 ra2)
