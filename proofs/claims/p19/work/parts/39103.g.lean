/-! ===== verification conditions, 513 ===== -/
def B_JMath_min_JJJ_11 (G : cx_T) (s : Nat) (a0 : Int) (a1 : Int) (t0 : Int) (h : ah_T) (Q : Option av_T → ah_T → Prop) : Prop :=
 Q (some (av_L t0)) h
theorem b_JMath_min_JJJ_11 {G : cx_T} {s : Nat} {a0 : Int} {a1 : Int} {t0 : Int} {h : ah_T} {Q : Option av_T → ah_T → Prop} (hb0 : hb s h) (H : B_JMath_min_JJJ_11 G s a0 a1 t0 h Q ) : aw G (rm_R 0 0 0) m_JMath_min_JJJ 0 0 11 [none, none, none, none] [av_L t0] h Q := by
  unfold B_JMath_min_JJJ_11 at H
  have hS : isS s := hb0.2.1
  exact A_lret d_JMath_min_JJJ_11 (by decide) rfl H
def B_JMath_min_JJJ_0 (G : cx_T) (s : Nat) (a0 : Int) (a1 : Int) (h : ah_T) (Q : Option av_T → ah_T → Prop) : Prop :=
 ((a1 < a0 → B_JMath_min_JJJ_11 G s a0 a1 (a1) h Q ) ∧ (¬ a1 < a0 → B_JMath_min_JJJ_11 G s a0 a1 (a0) h Q ))
theorem b_JMath_min_JJJ_0 {G : cx_T} {s : Nat} {a0 : Int} {a1 : Int} {h : ah_T} {Q : Option av_T → ah_T → Prop} (hb0 : hb s h) (H : B_JMath_min_JJJ_0 G s a0 a1 h Q ) : aw G (rm_R 0 0 0) m_JMath_min_JJJ 0 0 0 [some (av_L a0), none, some (av_L a1), none] [] h Q := by
  unfold B_JMath_min_JJJ_0 at H
  have hS : isS s := hb0.2.1
  refine A_lload_n 0 d_JMath_min_JJJ_0 rfl rfl ?_
  refine A_lload_n 2 d_JMath_min_JJJ_1 rfl rfl ?_
  refine A_lcmpn d_JMath_min_JJJ_2 (fun x1 lx1 ex1 gx1 _ _ => ?_)
  refine A_if_gt (tgt := 10) d_JMath_min_JJJ_3 (by decide) (fun c => ?_) (fun c => ?_)
  · replace H := H.1 (by omega)
    refine A_lload_n 2 d_JMath_min_JJJ_10 rfl rfl ?_
    refine A_pc (pc' := 11) rfl ?_
    refine A_free (L' := [none, none, none, none]) trivial ?_
    exact b_JMath_min_JJJ_11    hb0 H
  · replace H := H.2 (by omega)
    refine A_lload_n 0 d_JMath_min_JJJ_6 rfl rfl ?_
    refine A_goto (tgt := 11) d_JMath_min_JJJ_7 (by decide) ?_
    refine A_pc (pc' := 11) rfl ?_
    refine A_free (L' := [none, none, none, none]) trivial ?_
    exact b_JMath_min_JJJ_11    hb0 H
theorem c_JMath_min_JJJ {G : cx_T} {s : Nat} {a0 : Int} {a1 : Int} {h : ah_T} {Q : Option av_T → ah_T → Prop} (hb0 : hb s h) (H : i64 a0 → i64 a1 → B_JMath_min_JJJ_0 G s a0 a1 h Q ) : con G 0 0 0 m_JMath_min_JJJ [av_L a0, av_L a1] h Q := by
  have hS : isS s := hb0.2.1
  refine con_ofF (L := [some (av_L a0), none, some (av_L a1), none]) (mathPlain0 rfl (by decide)) (Nat.le_of_ble_eq_true rfl) rfl ?_
  refine A_locL 0 rfl (fun ra0 => ?_)
  refine A_locL 2 rfl (fun ra2 => ?_)
  exact b_JMath_min_JJJ_0   hb0 (H ra0 ra2)
def B_Voice_isShort_23 (G : cx_T) (s : Nat) (a0 : Nat) (a1 : Int) (t0 : Int) (h : ah_T) (Q : Option av_T → ah_T → Prop) : Prop :=
 (t0 = 0 ∨ t0 = 1) ∧ Q (some (av_I t0)) h
theorem b_Voice_isShort_23 {G : cx_T} {s : Nat} {a0 : Nat} {a1 : Int} (ha0 : isV a0) {t0 : Int} {h : ah_T} {Q : Option av_T → ah_T → Prop} (hb0 : hb s h) (H : B_Voice_isShort_23 G s a0 a1 t0 h Q ) : aw G (rm_R 2 0 0) m_Voice_isShort 0 0 23 [none, none] [av_I t0] h Q := by
  unfold B_Voice_isShort_23 at H
  have hS : isS s := hb0.2.1
  exact A_zret d_Voice_isShort_23 (by decide) rfl H.1 H.2
def B_Voice_isShort_22 (G : cx_T) (s : Nat) (a0 : Nat) (a1 : Int) (h : ah_T) (Q : Option av_T → ah_T → Prop) : Prop :=
 B_Voice_isShort_23 G s a0 a1 (0) h Q 
theorem b_Voice_isShort_22 {G : cx_T} {s : Nat} {a0 : Nat} {a1 : Int} (ha0 : isV a0) {h : ah_T} {Q : Option av_T → ah_T → Prop} (hb0 : hb s h) (H : B_Voice_isShort_22 G s a0 a1 h Q ) : aw G (rm_R 2 0 0) m_Voice_isShort 0 0 22 [none, none] [] h Q := by
  unfold B_Voice_isShort_22 at H
  have hS : isS s := hb0.2.1
  refine A_iconst d_Voice_isShort_22 rfl ?_
  refine A_pc (pc' := 23) rfl ?_
  exact b_Voice_isShort_23 ha0   hb0 H
def B_Voice_isShort_0 (G : cx_T) (s : Nat) (a0 : Nat) (a1 : Int) (h : ah_T) (Q : Option av_T → ah_T → Prop) : Prop :=
 con G 1 0 0 m_Voice_isRest [av_R (some a0), av_I a1] h (fun r h1 => ∃ z3 : Int, r = some (av_I z3) ∧ hb s h1 ∧ ((z3 = 0 → con G 0 0 0 m_Voice_numberOf [av_R (some a0), av_I a1] h1 (fun r h4 => ∃ z6 : Int, r = some (av_I z6) ∧ hb s h4 ∧ ((z6 < 8 → B_Voice_isShort_22 G s a0 a1 h4 Q ) ∧ (¬ z6 < 8 → B_Voice_isShort_23 G s a0 a1 (1) h4 Q )))) ∧ (¬ z3 = 0 → B_Voice_isShort_22 G s a0 a1 h1 Q )))
theorem b_Voice_isShort_0 {G : cx_T} {s : Nat} {a0 : Nat} {a1 : Int} (ha0 : isV a0) {h : ah_T} {Q : Option av_T → ah_T → Prop} (hb0 : hb s h) (H : B_Voice_isShort_0 G s a0 a1 h Q ) : aw G (rm_R 2 0 0) m_Voice_isShort 0 0 0 [some (av_R (some a0)), some (av_I a1)] [] h Q := by
  unfold B_Voice_isShort_0 at H
  have hS : isS s := hb0.2.1
  refine A_aload_n 0 d_Voice_isShort_0 rfl rfl ?_
  refine A_iload_n 1 d_Voice_isShort_1 rfl rfl ?_
  refine A_callV1 m_Voice_isRest T_ok d_Voice_isShort_2 l_Voice_95 k_Voice_isRest (hs_V hb0 ha0) rfl (by decide +kernel) (by decide) (Nat.le_of_ble_eq_true rfl) H (fun r h1 hq => ?_)
  clear H
  obtain ⟨z3, rfl, hb2, H⟩ := hq
  refine A_if_ne (tgt := 22) d_Voice_isShort_5 (by decide) (fun c => ?_) (fun c => ?_)
  · replace H := H.2 c
    refine A_pc (pc' := 22) rfl ?_
    refine A_free (L' := [none, none]) trivial ?_
    exact b_Voice_isShort_22 ha0   hb2 H
  · replace H := H.1 c
    refine A_aload_n 0 d_Voice_isShort_8 rfl rfl ?_
    refine A_iload_n 1 d_Voice_isShort_9 rfl rfl ?_
    refine A_callV1 m_Voice_numberOf T_ok d_Voice_isShort_10 l_Voice_88 k_Voice_numberOf (hs_V hb2 ha0) rfl (by decide +kernel) (by decide) (Nat.le_of_ble_eq_true rfl) H (fun r h4 hq => ?_)
    clear H
    obtain ⟨z6, rfl, hb5, H⟩ := hq
    refine A_bipush d_Voice_isShort_13 rfl ?_
    refine A_icmp_lt (tgt := 22) d_Voice_isShort_15 (by decide) (fun c => ?_) (fun c => ?_)
    · replace H := H.1 c
      refine A_pc (pc' := 22) rfl ?_
      refine A_free (L' := [none, none]) trivial ?_
      exact b_Voice_isShort_22 ha0   hb5 H
    · replace H := H.2 c
      refine A_iconst d_Voice_isShort_18 rfl ?_
      refine A_goto (tgt := 23) d_Voice_isShort_19 (by decide) ?_
      refine A_pc (pc' := 23) rfl ?_
      refine A_free (L' := [none, none]) trivial ?_
      exact b_Voice_isShort_23 ha0   hb5 H
theorem c_Voice_isShort {G : cx_T} {s : Nat} {a0 : Nat} {a1 : Int} (ha0 : isV a0) {h : ah_T} {Q : Option av_T → ah_T → Prop} (hb0 : hb s h) (H : i32 a1 → B_Voice_isShort_0 G s a0 a1 h Q ) : con G 2 0 0 m_Voice_isShort [av_R (some a0), av_I a1] h Q := by
  have hS : isS s := hb0.2.1
  refine con_of (L := [some (av_R (some a0)), some (av_I a1)]) (by decide +kernel) (Nat.le_of_ble_eq_true rfl) rfl ?_
  refine A_locI 1 rfl (fun ra1 => ?_)
  exact b_Voice_isShort_0 ha0  hb0 (H ra1)
def B_Beams_shortOnes_26 (G : cx_T) (s : Nat) (a0 : Nat) (a1 : Int) (a2 : Int) (v4 : Int) (t0 : Int) (t1 : Int) (h : ah_T) (Q : Option av_T → ah_T → Prop) (X5 : Int → Int → ah_T → Prop) : Prop :=
 ((-2147483648) ≤ (t0 + t1) ∧ (t0 + t1) ≤ 2147483647) ∧ ((-2147483648) ≤ (v4 + 1) ∧ (v4 + 1) ≤ 2147483647) ∧ X5 ((t0 + t1)) ((v4 + 1)) h
theorem b_Beams_shortOnes_26 {G : cx_T} {s : Nat} {a0 : Nat} {a1 : Int} {a2 : Int} (ha0 : isV a0) {v4 : Int} {t0 : Int} {t1 : Int} {h : ah_T} {Q : Option av_T → ah_T → Prop} {X5 : Int → Int → ah_T → Prop} (hX5 : ∀ (v3 : Int) (v4 : Int) (h : ah_T), hb s h → X5 v3 v4 h → aw G (rm_R 3 0 0) m_Beams_shortOnes 0 0 5 [some (av_R (some a0)), none, some (av_I a2), some (av_I v3), some (av_I v4)] [] h Q) (hb0 : hb s h) (H : B_Beams_shortOnes_26 G s a0 a1 a2 v4 t0 t1 h Q X5) : aw G (rm_R 3 0 0) m_Beams_shortOnes 0 0 26 [some (av_R (some a0)), none, some (av_I a2), none, some (av_I v4)] [av_I t1, av_I t0] h Q := by
  unfold B_Beams_shortOnes_26 at H
  have hS : isS s := hb0.2.1
  have g1 := H.1
  replace H := H.2
  refine A_iaddv (z := (t0 + t1)) d_Beams_shortOnes_26 (w32_to (by omega) (by unfold i32; omega)) ?_
  refine A_istore_n 3 (L' := [some (av_R (some a0)), none, some (av_I a2), some (av_I (t0 + t1)), some (av_I v4)]) d_Beams_shortOnes_27 rfl (Nat.le_of_ble_eq_true rfl) rfl ?_
  have g2 := H.1
  replace H := H.2
  refine A_iincv (z := (v4 + 1)) (L' := [some (av_R (some a0)), none, some (av_I a2), some (av_I (t0 + t1)), some (av_I (v4 + 1))]) d_Beams_shortOnes_28 rfl (w32_to (by omega) (by unfold i32; omega)) rfl ?_
  refine A_goto (tgt := 5) d_Beams_shortOnes_31 (by decide) ?_
  refine A_pc (pc' := 5) rfl ?_
  exact hX5 ((t0 + t1)) ((v4 + 1)) h  hb0 H
def B_Beams_shortOnes_5 (G : cx_T) (s : Nat) (a0 : Nat) (a1 : Int) (a2 : Int) (v3 : Int) (v4 : Int) (h : ah_T) (Q : Option av_T → ah_T → Prop) (X5 : Int → Int → ah_T → Prop) : Prop :=
 ((a2 ≤ v4 → Q (some (av_I v3)) h) ∧ (¬ a2 ≤ v4 → con G 2 0 0 m_Voice_isShort [av_R (some a0), av_I v4] h (fun r h1 => ∃ z3 : Int, r = some (av_I z3) ∧ hb s h1 ∧ ((z3 = 0 → B_Beams_shortOnes_26 G s a0 a1 a2 (v4) (v3) (0) h1 Q X5) ∧ (¬ z3 = 0 → B_Beams_shortOnes_26 G s a0 a1 a2 (v4) (v3) (1) h1 Q X5)))))
theorem b_Beams_shortOnes_5 {G : cx_T} {s : Nat} {a0 : Nat} {a1 : Int} {a2 : Int} (ha0 : isV a0) {v3 : Int} {v4 : Int} {h : ah_T} {Q : Option av_T → ah_T → Prop} {X5 : Int → Int → ah_T → Prop} (hX5 : ∀ (v3 : Int) (v4 : Int) (h : ah_T), hb s h → X5 v3 v4 h → aw G (rm_R 3 0 0) m_Beams_shortOnes 0 0 5 [some (av_R (some a0)), none, some (av_I a2), some (av_I v3), some (av_I v4)] [] h Q) (hb0 : hb s h) (H : B_Beams_shortOnes_5 G s a0 a1 a2 v3 v4 h Q X5) : aw G (rm_R 3 0 0) m_Beams_shortOnes 0 0 5 [some (av_R (some a0)), none, some (av_I a2), some (av_I v3), some (av_I v4)] [] h Q := by
  unfold B_Beams_shortOnes_5 at H
  have hS : isS s := hb0.2.1
  refine A_iload d_Beams_shortOnes_5 rfl ?_
  refine A_iload_n 2 d_Beams_shortOnes_7 rfl rfl ?_
  refine A_icmp_ge (tgt := 34) d_Beams_shortOnes_8 (by decide) (fun c => ?_) (fun c => ?_)
  · replace H := H.1 c
    refine A_iload_n 3 d_Beams_shortOnes_34 rfl rfl ?_
    exact A_iret d_Beams_shortOnes_35 (by decide) rfl H
  · replace H := H.2 c
    refine A_iload_n 3 d_Beams_shortOnes_11 rfl rfl ?_
    refine A_aload_n 0 d_Beams_shortOnes_12 rfl rfl ?_
    refine A_iload d_Beams_shortOnes_13 rfl ?_
    refine A_callV1 m_Voice_isShort T_ok d_Beams_shortOnes_15 l_Beams_34 k_Voice_isShort (hs_V hb0 ha0) rfl (by decide +kernel) (by decide) (Nat.le_of_ble_eq_true rfl) H (fun r h1 hq => ?_)
    clear H
    obtain ⟨z3, rfl, hb2, H⟩ := hq
    refine A_if_eq (tgt := 25) d_Beams_shortOnes_18 (by decide) (fun c => ?_) (fun c => ?_)
    · replace H := H.1 c
      refine A_iconst d_Beams_shortOnes_25 rfl ?_
      refine A_pc (pc' := 26) rfl ?_
      refine A_free (L' := [some (av_R (some a0)), none, some (av_I a2), none, some (av_I v4)]) (And.intro rfl (And.intro rfl (And.intro rfl trivial))) ?_
      exact b_Beams_shortOnes_26 ha0 hX5  hb2 H
    · replace H := H.2 c
      refine A_iconst d_Beams_shortOnes_21 rfl ?_
      refine A_goto (tgt := 26) d_Beams_shortOnes_22 (by decide) ?_
      refine A_pc (pc' := 26) rfl ?_
      refine A_free (L' := [some (av_R (some a0)), none, some (av_I a2), none, some (av_I v4)]) (And.intro rfl (And.intro rfl (And.intro rfl trivial))) ?_
      exact b_Beams_shortOnes_26 ha0 hX5  hb2 H
theorem lp_Beams_shortOnes_5 {G : cx_T} {s : Nat} {a0 : Nat} {a1 : Int} {a2 : Int} (ha0 : isV a0) {Q : Option av_T → ah_T → Prop} (I : Int → Int → ah_T → Prop) (μ : Int → Int → ah_T → Nat) (hI : ∀ (v3 : Int) (v4 : Int) (h : ah_T), hb s h → I v3 v4 h → B_Beams_shortOnes_5 G s a0 a1 a2 v3 v4 h Q (fun v3' v4' h' => I v3' v4' h' ∧ μ v3' v4' h' < μ v3 v4 h)) : ∀ (v3 : Int) (v4 : Int) (h : ah_T), hb s h → I v3 v4 h → aw G (rm_R 3 0 0) m_Beams_shortOnes 0 0 5 [some (av_R (some a0)), none, some (av_I a2), some (av_I v3), some (av_I v4)] [] h Q := by
  have key : ∀ (n : Nat) (v3 : Int) (v4 : Int) (h : ah_T), hb s h → I v3 v4 h → μ v3 v4 h < n → aw G (rm_R 3 0 0) m_Beams_shortOnes 0 0 5 [some (av_R (some a0)), none, some (av_I a2), some (av_I v3), some (av_I v4)] [] h Q := by
    intro n
    induction n with
    | zero => intro v3 v4 h  hb0 hi hm; omega
    | succ n ih => intro v3 v4 h  hb0 hi hm; exact b_Beams_shortOnes_5 ha0 (fun v3' v4' h'  hb' hx => ih v3' v4' h'  hb' hx.1 (by have := hx.2; omega))  hb0 (hI v3 v4 h  hb0 hi)
  exact fun v3 v4 h  hb0 hi => key _ v3 v4 h  hb0 hi (Nat.lt_succ_self _)
def B_Beams_shortOnes_0 (G : cx_T) (s : Nat) (a0 : Nat) (a1 : Int) (a2 : Int) (h : ah_T) (Q : Option av_T → ah_T → Prop) (X5 : Int → Int → ah_T → Prop) : Prop :=
 X5 (0) (a1) h
theorem b_Beams_shortOnes_0 {G : cx_T} {s : Nat} {a0 : Nat} {a1 : Int} {a2 : Int} (ha0 : isV a0) {h : ah_T} {Q : Option av_T → ah_T → Prop} {X5 : Int → Int → ah_T → Prop} (hX5 : ∀ (v3 : Int) (v4 : Int) (h : ah_T), hb s h → X5 v3 v4 h → aw G (rm_R 3 0 0) m_Beams_shortOnes 0 0 5 [some (av_R (some a0)), none, some (av_I a2), some (av_I v3), some (av_I v4)] [] h Q) (hb0 : hb s h) (H : B_Beams_shortOnes_0 G s a0 a1 a2 h Q X5) : aw G (rm_R 3 0 0) m_Beams_shortOnes 0 0 0 [some (av_R (some a0)), some (av_I a1), some (av_I a2), none, none] [] h Q := by
  unfold B_Beams_shortOnes_0 at H
  have hS : isS s := hb0.2.1
  refine A_iconst d_Beams_shortOnes_0 rfl ?_
  refine A_istore_n 3 (L' := [some (av_R (some a0)), some (av_I a1), some (av_I a2), some (av_I 0), none]) d_Beams_shortOnes_1 rfl (Nat.le_of_ble_eq_true rfl) rfl ?_
  refine A_iload_n 1 d_Beams_shortOnes_2 rfl rfl ?_
  refine A_istore (L' := [some (av_R (some a0)), some (av_I a1), some (av_I a2), some (av_I 0), some (av_I a1)]) d_Beams_shortOnes_3 (Nat.le_of_ble_eq_true rfl) rfl ?_
  refine A_pc (pc' := 5) rfl ?_
  refine A_free (L' := [some (av_R (some a0)), none, some (av_I a2), some (av_I 0), some (av_I a1)]) (And.intro rfl (And.intro rfl (And.intro rfl (And.intro rfl trivial)))) ?_
  exact hX5 (0) (a1) h  hb0 H
theorem c_Beams_shortOnes {G : cx_T} {s : Nat} {a0 : Nat} {a1 : Int} {a2 : Int} (ha0 : isV a0) {h : ah_T} {Q : Option av_T → ah_T → Prop} {X5 : Int → Int → ah_T → Prop} (hX5 : ∀ (v3 : Int) (v4 : Int) (h : ah_T), hb s h → X5 v3 v4 h → aw G (rm_R 3 0 0) m_Beams_shortOnes 0 0 5 [some (av_R (some a0)), none, some (av_I a2), some (av_I v3), some (av_I v4)] [] h Q) (hb0 : hb s h) (H : i32 a1 → i32 a2 → B_Beams_shortOnes_0 G s a0 a1 a2 h Q X5) : con G 3 0 0 m_Beams_shortOnes [av_R (some a0), av_I a1, av_I a2] h Q := by
  have hS : isS s := hb0.2.1
  refine con_of (L := [some (av_R (some a0)), some (av_I a1), some (av_I a2), none, none]) (by decide +kernel) (Nat.le_of_ble_eq_true rfl) rfl ?_
  refine A_locI 1 rfl (fun ra1 => ?_)
  refine A_locI 2 rfl (fun ra2 => ?_)
  exact b_Beams_shortOnes_0 ha0 hX5 hb0 (H ra1 ra2)
def B_Beams_joinCost_56 (G : cx_T) (s : Nat) (a0 : Nat) (a1 : Int) (a2 : Int) (a3 : Int) (v4 : Int) (h : ah_T) (Q : Option av_T → ah_T → Prop) : Prop :=
 con G 0 0 0 m_Voice_stepOf [av_R (some a0), av_I a2, av_I 0] h (fun r h1 => ∃ z3 : Int, r = some (av_I z3) ∧ hb s h1 ∧ ((-2147483648) ≤ (a2 - 1) ∧ (a2 - 1) ≤ 2147483647) ∧ con G 0 0 0 m_Voice_stepOf [av_R (some a0), av_I (a2 - 1), av_I 0] h1 (fun r h5 => ∃ z7 : Int, r = some (av_I z7) ∧ hb s h5 ∧ ((-2147483648) ≤ (z3 - z7) ∧ (z3 - z7) ≤ 2147483647) ∧ ∀ x9 : Int, x9 = (if 0 ≤ (z3 - z7) then (z3 - z7) else w32 (0 - (z3 - z7))) → -2147483648 ≤ x9 → x9 ≤ 2147483647 → ((-2147483648) ≤ (x9 - 4) ∧ (x9 - 4) ≤ 2147483647) ∧ ∀ x11 : Int, x11 = (if 0 < (x9 - 4) then (x9 - 4) else 0) → -2147483648 ≤ x11 → x11 ≤ 2147483647 → ((-2147483648) ≤ (v4 + x11) ∧ (v4 + x11) ≤ 2147483647) ∧ Q (some (av_I (v4 + x11))) h5))
theorem b_Beams_joinCost_56 {G : cx_T} {s : Nat} {a0 : Nat} {a1 : Int} {a2 : Int} {a3 : Int} (ha0 : isV a0) {v4 : Int} {h : ah_T} {Q : Option av_T → ah_T → Prop} (hb0 : hb s h) (H : B_Beams_joinCost_56 G s a0 a1 a2 a3 v4 h Q ) : aw G (rm_R 1 0 0) m_Beams_joinCost 0 0 56 [some (av_R (some a0)), none, some (av_I a2), none, some (av_I v4), none, none, none] [] h Q := by
  unfold B_Beams_joinCost_56 at H
  have hS : isS s := hb0.2.1
  refine A_aload_n 0 d_Beams_joinCost_56 rfl rfl ?_
  refine A_iload_n 2 d_Beams_joinCost_57 rfl rfl ?_
  refine A_iconst d_Beams_joinCost_58 rfl ?_
  refine A_callV2 m_Voice_stepOf T_ok d_Beams_joinCost_59 l_Beams_63 k_Voice_stepOf (hs_V hb0 ha0) rfl (by decide +kernel) (by decide) (Nat.le_of_ble_eq_true rfl) H (fun r h1 hq => ?_)
  clear H
  obtain ⟨z3, rfl, hb2, H⟩ := hq
  refine A_aload_n 0 d_Beams_joinCost_62 rfl rfl ?_
  refine A_iload_n 2 d_Beams_joinCost_63 rfl rfl ?_
  refine A_iconst d_Beams_joinCost_64 rfl ?_
  have g4 := H.1
  replace H := H.2
  refine A_isubv (z := (a2 - 1)) d_Beams_joinCost_65 (w32_to (by omega) (by unfold i32; omega)) ?_
  refine A_iconst d_Beams_joinCost_66 rfl ?_
  refine A_pc (pc' := 67) rfl ?_
  refine A_callV2 m_Voice_stepOf T_ok d_Beams_joinCost_67 l_Beams_63 k_Voice_stepOf (hs_V hb2 ha0) rfl (by decide +kernel) (by decide) (Nat.le_of_ble_eq_true rfl) H (fun r h5 hq => ?_)
  clear H
  obtain ⟨z7, rfl, hb6, H⟩ := hq
  have g8 := H.1
  replace H := H.2
  refine A_isubv (z := (z3 - z7)) d_Beams_joinCost_70 (w32_to (by omega) (by unfold i32; omega)) ?_
  refine A_mabs (z := (if 0 ≤ (z3 - z7) then (z3 - z7) else w32 (0 - (z3 - z7)))) d_Beams_joinCost_71 lm_Beams_66 ma_abs (by decide) (by decide) (Nat.le_of_ble_eq_true rfl) rfl ?_
  refine A_nrI (fun x9 ex9 lx9 ux9 => ?_)
  replace H := H x9 ex9 lx9 ux9
  refine A_istore (L' := [some (av_R (some a0)), none, some (av_I a2), none, some (av_I v4), none, none, some (av_I x9)]) d_Beams_joinCost_74 (Nat.le_of_ble_eq_true rfl) rfl ?_
  refine A_iload d_Beams_joinCost_76 rfl ?_
  refine A_iconst d_Beams_joinCost_78 rfl ?_
  refine A_pc (pc' := 79) rfl ?_
  refine A_iload d_Beams_joinCost_79 rfl ?_
  refine A_iconst d_Beams_joinCost_81 rfl ?_
  have g10 := H.1
  replace H := H.2
  refine A_isubv (z := (x9 - 4)) d_Beams_joinCost_82 (w32_to (by omega) (by unfold i32; omega)) ?_
  refine A_mmax (z := (if 0 < (x9 - 4) then (x9 - 4) else 0)) d_Beams_joinCost_83 lm_Beams_69 ma_max (by decide) (by decide) (Nat.le_of_ble_eq_true rfl) rfl ?_
  refine A_nrI (fun x11 ex11 lx11 ux11 => ?_)
  replace H := H x11 ex11 lx11 ux11
  have g12 := H.1
  replace H := H.2
  refine A_iaddv (z := (v4 + x11)) d_Beams_joinCost_86 (w32_to (by omega) (by unfold i32; omega)) ?_
  exact A_iret d_Beams_joinCost_87 (by decide) rfl H
def B_Beams_joinCost_38 (G : cx_T) (s : Nat) (a0 : Nat) (a1 : Int) (a2 : Int) (a3 : Int) (v4 : Int) (h : ah_T) (Q : Option av_T → ah_T → Prop) : Prop :=
 con G 0 0 0 m_Voice_numberOf [av_R (some a0), av_I a2] h (fun r h1 => ∃ z3 : Int, r = some (av_I z3) ∧ hb s h1 ∧ ((-2147483648) ≤ (a2 - 1) ∧ (a2 - 1) ≤ 2147483647) ∧ con G 0 0 0 m_Voice_numberOf [av_R (some a0), av_I (a2 - 1)] h1 (fun r h5 => ∃ z7 : Int, r = some (av_I z7) ∧ hb s h5 ∧ ((z3 = z7 → B_Beams_joinCost_56 G s a0 a1 a2 a3 (v4) h5 Q ) ∧ (¬ z3 = z7 → ((-2147483648) ≤ (v4 + 1) ∧ (v4 + 1) ≤ 2147483647) ∧ B_Beams_joinCost_56 G s a0 a1 a2 a3 ((v4 + 1)) h5 Q ))))
theorem b_Beams_joinCost_38 {G : cx_T} {s : Nat} {a0 : Nat} {a1 : Int} {a2 : Int} {a3 : Int} (ha0 : isV a0) {v4 : Int} {h : ah_T} {Q : Option av_T → ah_T → Prop} (hb0 : hb s h) (H : B_Beams_joinCost_38 G s a0 a1 a2 a3 v4 h Q ) : aw G (rm_R 1 0 0) m_Beams_joinCost 0 0 38 [some (av_R (some a0)), none, some (av_I a2), none, some (av_I v4), none, none, none] [] h Q := by
  unfold B_Beams_joinCost_38 at H
  have hS : isS s := hb0.2.1
  refine A_aload_n 0 d_Beams_joinCost_38 rfl rfl ?_
  refine A_iload_n 2 d_Beams_joinCost_39 rfl rfl ?_
  refine A_callV1 m_Voice_numberOf T_ok d_Beams_joinCost_40 l_Beams_59 k_Voice_numberOf (hs_V hb0 ha0) rfl (by decide +kernel) (by decide) (Nat.le_of_ble_eq_true rfl) H (fun r h1 hq => ?_)
  clear H
  obtain ⟨z3, rfl, hb2, H⟩ := hq
  refine A_aload_n 0 d_Beams_joinCost_43 rfl rfl ?_
  refine A_iload_n 2 d_Beams_joinCost_44 rfl rfl ?_
  refine A_iconst d_Beams_joinCost_45 rfl ?_
  have g4 := H.1
  replace H := H.2
  refine A_isubv (z := (a2 - 1)) d_Beams_joinCost_46 (w32_to (by omega) (by unfold i32; omega)) ?_
  refine A_callV1 m_Voice_numberOf T_ok d_Beams_joinCost_47 l_Beams_59 k_Voice_numberOf (hs_V hb2 ha0) rfl (by decide +kernel) (by decide) (Nat.le_of_ble_eq_true rfl) H (fun r h5 hq => ?_)
  clear H
  obtain ⟨z7, rfl, hb6, H⟩ := hq
  refine A_icmp_eq (tgt := 56) d_Beams_joinCost_50 (by decide) (fun c => ?_) (fun c => ?_)
  · replace H := H.1 c
    refine A_pc (pc' := 56) rfl ?_
    exact b_Beams_joinCost_56 ha0   hb6 H
  · replace H := H.2 c
    have g8 := H.1
    replace H := H.2
    refine A_iincv (z := (v4 + 1)) (L' := [some (av_R (some a0)), none, some (av_I a2), none, some (av_I (v4 + 1)), none, none, none]) d_Beams_joinCost_53 rfl (w32_to (by omega) (by unfold i32; omega)) rfl ?_
    refine A_pc (pc' := 56) rfl ?_
    exact b_Beams_joinCost_56 ha0   hb6 H
def B_Beams_joinCost_0 (G : cx_T) (s : Nat) (a0 : Nat) (a1 : Int) (a2 : Int) (a3 : Int) (h : ah_T) (Q : Option av_T → ah_T → Prop) : Prop :=
 con G 0 0 0 m_Voice_sinceBarBottom [av_R (some a0), av_I a1, av_I a2] h (fun r h1 => ∃ z3 : Int, r = some (av_L z3) ∧ hb s h1 ∧ ((z3 ≤ 0 → B_Beams_joinCost_38 G s a0 a1 a2 a3 (0) h1 Q ) ∧ (¬ z3 ≤ 0 → con G 0 0 0 m_Voice_sinceBarTop [av_R (some a0), av_I a1, av_I a2] h1 (fun r h5 => ∃ z7 : Int, r = some (av_L z7) ∧ hb s h5 ∧ ∀ x8 : Int, x8 = z7 * a3 → ((-9223372036854775808) ≤ x8 ∧ x8 ≤ 9223372036854775807) ∧ (z3 ≠ 0) ∧ ∀ x10 : Int, x10 = (x8).tmod z3 → (-9223372036854775808) ≤ x10 → x10 ≤ 9223372036854775807 → ((x10 = 0 → B_Beams_joinCost_38 G s a0 a1 a2 a3 (2) h5 Q ) ∧ (¬ x10 = 0 → B_Beams_joinCost_38 G s a0 a1 a2 a3 (0) h5 Q ))))))
theorem b_Beams_joinCost_0 {G : cx_T} {s : Nat} {a0 : Nat} {a1 : Int} {a2 : Int} {a3 : Int} (ha0 : isV a0) {h : ah_T} {Q : Option av_T → ah_T → Prop} (hb0 : hb s h) (H : B_Beams_joinCost_0 G s a0 a1 a2 a3 h Q ) : aw G (rm_R 1 0 0) m_Beams_joinCost 0 0 0 [some (av_R (some a0)), some (av_I a1), some (av_I a2), some (av_I a3), none, none, none, none] [] h Q := by
  unfold B_Beams_joinCost_0 at H
  have hS : isS s := hb0.2.1
  refine A_iconst d_Beams_joinCost_0 rfl ?_
  refine A_istore (L' := [some (av_R (some a0)), some (av_I a1), some (av_I a2), some (av_I a3), some (av_I 0), none, none, none]) d_Beams_joinCost_1 (Nat.le_of_ble_eq_true rfl) rfl ?_
  refine A_aload_n 0 d_Beams_joinCost_3 rfl rfl ?_
  refine A_iload_n 1 d_Beams_joinCost_4 rfl rfl ?_
  refine A_iload_n 2 d_Beams_joinCost_5 rfl rfl ?_
  refine A_pc (pc' := 6) rfl ?_
  refine A_callV2 m_Voice_sinceBarBottom T_ok d_Beams_joinCost_6 l_Beams_52 k_Voice_sinceBarBottom (hs_V hb0 ha0) rfl (by decide +kernel) (by decide) (Nat.le_of_ble_eq_true rfl) H (fun r h1 hq => ?_)
  clear H
  obtain ⟨z3, rfl, hb2, H⟩ := hq
  refine A_lstore (L' := [some (av_R (some a0)), some (av_I a1), some (av_I a2), some (av_I a3), some (av_I 0), some (av_L z3), none, none]) d_Beams_joinCost_9 (Nat.le_of_ble_eq_true rfl) rfl ?_
  refine A_lload d_Beams_joinCost_11 rfl ?_
  refine A_lconst_0 d_Beams_joinCost_13 ?_
  refine A_lcmpn d_Beams_joinCost_14 (fun x4 lx4 ex4 gx4 _ _ => ?_)
  refine A_if_le (tgt := 38) d_Beams_joinCost_15 (by decide) (fun c => ?_) (fun c => ?_)
  · replace H := H.1 (by omega)
    refine A_pc (pc' := 38) rfl ?_
    refine A_free (L' := [some (av_R (some a0)), none, some (av_I a2), none, some (av_I 0), none, none, none]) (And.intro rfl (And.intro rfl (And.intro rfl trivial))) ?_
    exact b_Beams_joinCost_38 ha0   hb2 H
  · replace H := H.2 (by omega)
    refine A_aload_n 0 d_Beams_joinCost_18 rfl rfl ?_
    refine A_iload_n 1 d_Beams_joinCost_19 rfl rfl ?_
    refine A_iload_n 2 d_Beams_joinCost_20 rfl rfl ?_
    refine A_callV2 m_Voice_sinceBarTop T_ok d_Beams_joinCost_21 l_Beams_56 k_Voice_sinceBarTop (hs_V hb2 ha0) rfl (by decide +kernel) (by decide) (Nat.le_of_ble_eq_true rfl) H (fun r h5 hq => ?_)
    clear H
    obtain ⟨z7, rfl, hb6, H⟩ := hq
    refine A_iload_n 3 d_Beams_joinCost_24 rfl rfl ?_
    refine A_i2l d_Beams_joinCost_25 ?_
    obtain ⟨x8, ex8⟩ : ∃ z : Int, z = z7 * a3 := ⟨_, rfl⟩
    replace H := H x8 ex8
    have g9 := H.1
    replace H := H.2
    refine A_lmulv (z := x8) d_Beams_joinCost_26 (w64_to ex8.symm (by unfold i64; omega)) ?_
    refine A_lload d_Beams_joinCost_27 rfl ?_
    have H0 := H.1
    replace H := H.2
    refine A_lremc d_Beams_joinCost_29 H0 (fun x10 ex10 lx10 ux10 => ?_)
    replace H := H x10 ex10 lx10 ux10
    refine A_pc (pc' := 30) rfl ?_
    refine A_lconst_0 d_Beams_joinCost_30 ?_
    refine A_lcmpn d_Beams_joinCost_31 (fun x11 lx11 ex11 gx11 _ _ => ?_)
    refine A_if_ne (tgt := 38) d_Beams_joinCost_32 (by decide) (fun c => ?_) (fun c => ?_)
    · replace H := H.2 (by omega)
      refine A_pc (pc' := 38) rfl ?_
      refine A_free (L' := [some (av_R (some a0)), none, some (av_I a2), none, some (av_I 0), none, none, none]) (And.intro rfl (And.intro rfl (And.intro rfl trivial))) ?_
      exact b_Beams_joinCost_38 ha0   hb6 H
    · replace H := H.1 (by omega)
      refine A_iincv (z := 2) (L' := [some (av_R (some a0)), some (av_I a1), some (av_I a2), some (av_I a3), some (av_I 2), some (av_L z3), none, none]) d_Beams_joinCost_35 rfl (by decide +kernel) rfl ?_
      refine A_pc (pc' := 38) rfl ?_
      refine A_free (L' := [some (av_R (some a0)), none, some (av_I a2), none, some (av_I 2), none, none, none]) (And.intro rfl (And.intro rfl (And.intro rfl trivial))) ?_
      exact b_Beams_joinCost_38 ha0   hb6 H
theorem c_Beams_joinCost {G : cx_T} {s : Nat} {a0 : Nat} {a1 : Int} {a2 : Int} {a3 : Int} (ha0 : isV a0) {h : ah_T} {Q : Option av_T → ah_T → Prop} (hb0 : hb s h) (H : i32 a1 → i32 a2 → i32 a3 → B_Beams_joinCost_0 G s a0 a1 a2 a3 h Q ) : con G 1 0 0 m_Beams_joinCost [av_R (some a0), av_I a1, av_I a2, av_I a3] h Q := by
  have hS : isS s := hb0.2.1
  refine con_of (L := [some (av_R (some a0)), some (av_I a1), some (av_I a2), some (av_I a3), none, none, none, none]) (by decide +kernel) (Nat.le_of_ble_eq_true rfl) rfl ?_
  refine A_locI 1 rfl (fun ra1 => ?_)
  refine A_locI 2 rfl (fun ra2 => ?_)
  refine A_locI 3 rfl (fun ra3 => ?_)
  exact b_Beams_joinCost_0 ha0  hb0 (H ra1 ra2 ra3)
def B_Beams_cutRun_234 (G : cx_T) (s : Nat) (a1 : Nat) (a2 : Int) (a3 : Int) (a4 : Int) (a5 : Int) (h : ah_T) (Q : Option av_T → ah_T → Prop) : Prop :=
 ∀ x2 : Int, x2 = h.2.1 148 0 → -2147483648 ≤ x2 → x2 ≤ 2147483647 → Q (some (av_I x2)) h
theorem b_Beams_cutRun_234 {G : cx_T} {s : Nat} {a1 : Nat} {a2 : Int} {a3 : Int} {a4 : Int} {a5 : Int} (ha1 : isV a1) {h : ah_T} {Q : Option av_T → ah_T → Prop} (hb0 : hb s h) (H : B_Beams_cutRun_234 G s a1 a2 a3 a4 a5 h Q ) : aw G (rm_R 2 0 0) m_Beams_cutRun 0 0 234 [some (av_R (some 146)), none, none, none, none, none, none, none, none, none] [] h Q := by
  unfold B_Beams_cutRun_234 at H
  have hS : isS s := hb0.2.1
  refine A_aload_n 0 d_Beams_cutRun_234 rfl rfl ?_
  refine A_getAv (z := some 148) T_ok d_Beams_cutRun_235 f_Beams_15 (hb_s hb0 sf_146) (hb_r hb0 rff_146_2) ?_
  refine A_iconst d_Beams_cutRun_238 rfl ?_
  refine A_ialoadf d_Beams_cutRun_239 (hb_s hb0 sf_148) (by decide) (by decide) (fun x2 ex2 lx2 ux2 => ?_)
  replace H := H x2 ex2 lx2 ux2
  exact A_iret d_Beams_cutRun_240 (by decide) rfl H
def B_Beams_cutRun_174 (G : cx_T) (s : Nat) (a1 : Nat) (a2 : Int) (a3 : Int) (a4 : Int) (a5 : Int) (v6 : Int) (v7 : Int) (h : ah_T) (Q : Option av_T → ah_T → Prop) (X174 : Int → Int → ah_T → Prop) : Prop :=
 ((v6 ≤ v7 → B_Beams_cutRun_234 G s a1 a2 a3 a4 a5 h Q ) ∧ (¬ v6 ≤ v7 → ∀ x1 : Int, x1 = h.2.1 146 1 → -2147483648 ≤ x1 → x1 ≤ 2147483647 → ((14 ≤ x1 → B_Beams_cutRun_234 G s a1 a2 a3 a4 a5 h Q ) ∧ (¬ 14 ≤ x1 → (0 ≤ v7 ∧ v7 < 15) ∧ ∀ x6 : Int, x6 = h.2.1 149 (v7).toNat → -2147483648 ≤ x6 → x6 ≤ 2147483647 → (0 ≤ x1 ∧ x1 < 14) ∧ ∀ h9 : ah_T, h9 = st_i h 147 (x1).toNat x6 → ((-2147483648) ≤ (x1 + 1) ∧ (x1 + 1) ≤ 2147483647) ∧ ∀ h13 : ah_T, h13 = st_i h9 146 1 (x1 + 1) → ((-2147483648) ≤ (v7 + x6) ∧ (v7 + x6) ≤ 2147483647) ∧ X174 (v6) ((v7 + x6)) h13))))
theorem b_Beams_cutRun_174 {G : cx_T} {s : Nat} {a1 : Nat} {a2 : Int} {a3 : Int} {a4 : Int} {a5 : Int} (ha1 : isV a1) {v6 : Int} {v7 : Int} {h : ah_T} {Q : Option av_T → ah_T → Prop} {X174 : Int → Int → ah_T → Prop} (hX174 : ∀ (v6 : Int) (v7 : Int) (h : ah_T), hb s h → X174 v6 v7 h → aw G (rm_R 2 0 0) m_Beams_cutRun 0 0 174 [some (av_R (some 146)), none, none, none, none, none, some (av_I v6), some (av_I v7), none, none] [] h Q) (hb0 : hb s h) (H : B_Beams_cutRun_174 G s a1 a2 a3 a4 a5 v6 v7 h Q X174) : aw G (rm_R 2 0 0) m_Beams_cutRun 0 0 174 [some (av_R (some 146)), none, none, none, none, none, some (av_I v6), some (av_I v7), none, none] [] h Q := by
  unfold B_Beams_cutRun_174 at H
  have hS : isS s := hb0.2.1
  refine A_iload d_Beams_cutRun_174 rfl ?_
  refine A_iload d_Beams_cutRun_176 rfl ?_
  refine A_icmp_ge (tgt := 234) d_Beams_cutRun_178 (by decide) (fun c => ?_) (fun c => ?_)
  · replace H := H.1 c
    refine A_pc (pc' := 234) rfl ?_
    refine A_free (L' := [some (av_R (some 146)), none, none, none, none, none, none, none, none, none]) (And.intro rfl trivial) ?_
    exact b_Beams_cutRun_234 ha1   hb0 H
  · replace H := H.2 c
    refine A_aload_n 0 d_Beams_cutRun_181 rfl rfl ?_
    refine A_getIf T_ok d_Beams_cutRun_182 f_Beams_21 (hb_s hb0 sf_146) (fun x1 ex1 lx1 ux1 => ?_)
    replace H := H x1 ex1 lx1 ux1
    refine A_aload_n 0 d_Beams_cutRun_185 rfl rfl ?_
    refine A_getAv (z := some 147) T_ok d_Beams_cutRun_186 f_Beams_11 (hb_s hb0 sf_146) (hb_r hb0 rff_146_0) ?_
    refine A_alenN d_Beams_cutRun_189 (hb_s hb0 sf_147) (by decide) (by decide) ?_
    refine A_pc (pc' := 190) rfl ?_
    refine A_icmp_ge (tgt := 234) d_Beams_cutRun_190 (by decide) (fun c => ?_) (fun c => ?_)
    · replace H := H.1 c
      refine A_pc (pc' := 234) rfl ?_
      refine A_free (L' := [some (av_R (some 146)), none, none, none, none, none, none, none, none, none]) (And.intro rfl trivial) ?_
      exact b_Beams_cutRun_234 ha1   hb0 H
    · replace H := H.2 c
      refine A_aload_n 0 d_Beams_cutRun_193 rfl rfl ?_
      refine A_getAv (z := some 147) T_ok d_Beams_cutRun_194 f_Beams_11 (hb_s hb0 sf_146) (hb_r hb0 rff_146_0) ?_
      refine A_aload_n 0 d_Beams_cutRun_197 rfl rfl ?_
      refine A_getIv (z := x1) T_ok d_Beams_cutRun_198 f_Beams_21 (hb_s hb0 sf_146) ex1.symm ?_
      refine A_aload_n 0 d_Beams_cutRun_201 rfl rfl ?_
      refine A_pc (pc' := 202) rfl ?_
      refine A_getAv (z := some 149) T_ok d_Beams_cutRun_202 f_Beams_18 (hb_s hb0 sf_146) (hb_r hb0 rff_146_3) ?_
      refine A_iload d_Beams_cutRun_205 rfl ?_
      have g7 := H.1
      replace H := H.2
      refine A_ialoadf d_Beams_cutRun_207 (hb_s hb0 sf_149) g7.1 g7.2 (fun x6 ex6 lx6 ux6 => ?_)
      replace H := H x6 ex6 lx6 ux6
      have g8 := H.1
      replace H := H.2
      refine A_iastoreN d_Beams_cutRun_208 (hb_s hb0 sf_147) g8.1 g8.2 ?_
      refine A_hn (fun h9 eh9 => ?_)
      have hb10 := hb_i hb0 eh9
      replace H := H h9 eh9
      refine A_aload_n 0 d_Beams_cutRun_209 rfl rfl ?_
      refine A_dupR d_Beams_cutRun_210 ?_
      refine A_pc (pc' := 211) rfl ?_
      refine A_getIv (z := x1) T_ok d_Beams_cutRun_211 f_Beams_21 (hb_s hb10 sf_146) ((mm_i eh9 (fun q => absurd q.1 (by decide))).trans ex1.symm) ?_
      refine A_iconst d_Beams_cutRun_214 rfl ?_
      have g12 := H.1
      replace H := H.2
      refine A_iaddv (z := (x1 + 1)) d_Beams_cutRun_215 (w32_to (by omega) (by unfold i32; omega)) ?_
      refine A_putI T_ok d_Beams_cutRun_216 f_Beams_21 (hb_s hb10 sf_146) fin_f ?_
      refine A_hn (fun h13 eh13 => ?_)
      have hb14 := hb_i hb10 eh13
      replace H := H h13 eh13
      refine A_iload d_Beams_cutRun_219 rfl ?_
      refine A_aload_n 0 d_Beams_cutRun_221 rfl rfl ?_
      refine A_pc (pc' := 222) rfl ?_
      refine A_getAv (z := some 149) T_ok d_Beams_cutRun_222 f_Beams_18 (hb_s hb14 sf_146) (hb_r hb14 rff_146_3) ?_
      refine A_iload d_Beams_cutRun_225 rfl ?_
      refine A_ialoadv (z := x6) d_Beams_cutRun_227 (hb_s hb14 sf_149) (by omega) (by omega) ((mm_i eh13 (fun q => absurd q.1 (by decide))).trans ((mm_i eh9 (fun q => absurd q.1 (by decide))).trans ex6.symm)) ?_
      have g17 := H.1
      replace H := H.2
      refine A_iaddv (z := (v7 + x6)) d_Beams_cutRun_228 (w32_to (by omega) (by unfold i32; omega)) ?_
      refine A_istore (L' := [some (av_R (some 146)), none, none, none, none, none, some (av_I v6), some (av_I (v7 + x6)), none, none]) d_Beams_cutRun_229 (Nat.le_of_ble_eq_true rfl) rfl ?_
      refine A_goto (tgt := 174) d_Beams_cutRun_231 (by decide) ?_
      refine A_pc (pc' := 174) rfl ?_
      exact hX174 (v6) ((v7 + x6)) h13  hb14 H
theorem lp_Beams_cutRun_174 {G : cx_T} {s : Nat} {a1 : Nat} {a2 : Int} {a3 : Int} {a4 : Int} {a5 : Int} (ha1 : isV a1) {Q : Option av_T → ah_T → Prop} (I : Int → Int → ah_T → Prop) (μ : Int → Int → ah_T → Nat) (hI : ∀ (v6 : Int) (v7 : Int) (h : ah_T), hb s h → I v6 v7 h → B_Beams_cutRun_174 G s a1 a2 a3 a4 a5 v6 v7 h Q (fun v6' v7' h' => I v6' v7' h' ∧ μ v6' v7' h' < μ v6 v7 h)) : ∀ (v6 : Int) (v7 : Int) (h : ah_T), hb s h → I v6 v7 h → aw G (rm_R 2 0 0) m_Beams_cutRun 0 0 174 [some (av_R (some 146)), none, none, none, none, none, some (av_I v6), some (av_I v7), none, none] [] h Q := by
  have key : ∀ (n : Nat) (v6 : Int) (v7 : Int) (h : ah_T), hb s h → I v6 v7 h → μ v6 v7 h < n → aw G (rm_R 2 0 0) m_Beams_cutRun 0 0 174 [some (av_R (some 146)), none, none, none, none, none, some (av_I v6), some (av_I v7), none, none] [] h Q := by
    intro n
    induction n with
    | zero => intro v6 v7 h  hb0 hi hm; omega
    | succ n ih => intro v6 v7 h  hb0 hi hm; exact b_Beams_cutRun_174 ha1 (fun v6' v7' h'  hb' hx => ih v6' v7' h'  hb' hx.1 (by have := hx.2; omega))  hb0 (hI v6 v7 h  hb0 hi)
  exact fun v6 v7 h  hb0 hi => key _ v6 v7 h  hb0 hi (Nat.lt_succ_self _)
def B_Beams_cutRun_165 (G : cx_T) (s : Nat) (a1 : Nat) (a2 : Int) (a3 : Int) (a4 : Int) (a5 : Int) (v6 : Int) (v7 : Int) (h : ah_T) (Q : Option av_T → ah_T → Prop) (X32 : Int → Int → ah_T → Prop) : Prop :=
 ((-2147483648) ≤ (v7 - 1) ∧ (v7 - 1) ≤ 2147483647) ∧ X32 (v6) ((v7 - 1)) h
theorem b_Beams_cutRun_165 {G : cx_T} {s : Nat} {a1 : Nat} {a2 : Int} {a3 : Int} {a4 : Int} {a5 : Int} (ha1 : isV a1) {v6 : Int} {v7 : Int} {h : ah_T} {Q : Option av_T → ah_T → Prop} {X32 : Int → Int → ah_T → Prop} (hX32 : ∀ (v6 : Int) (v7 : Int) (h : ah_T), hb s h → X32 v6 v7 h → aw G (rm_R 2 0 0) m_Beams_cutRun 0 0 32 [some (av_R (some 146)), some (av_R (some a1)), some (av_I a2), some (av_I a3), none, some (av_I a5), some (av_I v6), some (av_I v7), none, none] [] h Q) (hb0 : hb s h) (H : B_Beams_cutRun_165 G s a1 a2 a3 a4 a5 v6 v7 h Q X32) : aw G (rm_R 2 0 0) m_Beams_cutRun 0 0 165 [some (av_R (some 146)), some (av_R (some a1)), some (av_I a2), some (av_I a3), none, some (av_I a5), some (av_I v6), some (av_I v7), none, none] [] h Q := by
  unfold B_Beams_cutRun_165 at H
  have hS : isS s := hb0.2.1
  have g1 := H.1
  replace H := H.2
  refine A_iincv (z := (v7 - 1)) (L' := [some (av_R (some 146)), some (av_R (some a1)), some (av_I a2), some (av_I a3), none, some (av_I a5), some (av_I v6), some (av_I (v7 - 1)), none, none]) d_Beams_cutRun_165 rfl (w32_to (by omega) (by unfold i32; omega)) rfl ?_
  refine A_goto (tgt := 32) d_Beams_cutRun_168 (by decide) ?_
  refine A_pc (pc' := 32) rfl ?_
  exact hX32 (v6) ((v7 - 1)) h  hb0 H
def B_Beams_cutRun_159 (G : cx_T) (s : Nat) (a1 : Nat) (a2 : Int) (a3 : Int) (a4 : Int) (a5 : Int) (v6 : Int) (v7 : Int) (v8 : Int) (v9 : Int) (h : ah_T) (Q : Option av_T → ah_T → Prop) (X69 : Int → Int → Int → Int → ah_T → Prop) : Prop :=
 ((-2147483648) ≤ (v9 + 1) ∧ (v9 + 1) ≤ 2147483647) ∧ X69 (v6) (v7) (v8) ((v9 + 1)) h
theorem b_Beams_cutRun_159 {G : cx_T} {s : Nat} {a1 : Nat} {a2 : Int} {a3 : Int} {a4 : Int} {a5 : Int} (ha1 : isV a1) {v6 : Int} {v7 : Int} {v8 : Int} {v9 : Int} {h : ah_T} {Q : Option av_T → ah_T → Prop} {X69 : Int → Int → Int → Int → ah_T → Prop} (hX69 : ∀ (v6 : Int) (v7 : Int) (v8 : Int) (v9 : Int) (h : ah_T), hb s h → X69 v6 v7 v8 v9 h → aw G (rm_R 2 0 0) m_Beams_cutRun 0 0 69 [some (av_R (some 146)), some (av_R (some a1)), some (av_I a2), some (av_I a3), none, some (av_I a5), some (av_I v6), some (av_I v7), some (av_I v8), some (av_I v9)] [] h Q) (hb0 : hb s h) (H : B_Beams_cutRun_159 G s a1 a2 a3 a4 a5 v6 v7 v8 v9 h Q X69) : aw G (rm_R 2 0 0) m_Beams_cutRun 0 0 159 [some (av_R (some 146)), some (av_R (some a1)), some (av_I a2), some (av_I a3), none, some (av_I a5), some (av_I v6), some (av_I v7), some (av_I v8), some (av_I v9)] [] h Q := by
  unfold B_Beams_cutRun_159 at H
  have hS : isS s := hb0.2.1
  have g1 := H.1
  replace H := H.2
  refine A_iincv (z := (v9 + 1)) (L' := [some (av_R (some 146)), some (av_R (some a1)), some (av_I a2), some (av_I a3), none, some (av_I a5), some (av_I v6), some (av_I v7), some (av_I v8), some (av_I (v9 + 1))]) d_Beams_cutRun_159 rfl (w32_to (by omega) (by unfold i32; omega)) rfl ?_
  refine A_goto (tgt := 69) d_Beams_cutRun_162 (by decide) ?_
  refine A_pc (pc' := 69) rfl ?_
  exact hX69 (v6) (v7) (v8) ((v9 + 1)) h  hb0 H
def B_Beams_cutRun_69 (G : cx_T) (s : Nat) (a1 : Nat) (a2 : Int) (a3 : Int) (a4 : Int) (a5 : Int) (v6 : Int) (v7 : Int) (v8 : Int) (v9 : Int) (h : ah_T) (Q : Option av_T → ah_T → Prop) (X32 : Int → Int → ah_T → Prop) (X69 : Int → Int → Int → Int → ah_T → Prop) : Prop :=
 ((6 < v9 → B_Beams_cutRun_165 G s a1 a2 a3 a4 a5 (v6) (v7) h Q X32) ∧ (¬ 6 < v9 → ((-2147483648) ≤ (v7 + v9) ∧ (v7 + v9) ≤ 2147483647) ∧ ((v6 < (v7 + v9) → B_Beams_cutRun_165 G s a1 a2 a3 a4 a5 (v6) (v7) h Q X32) ∧ (¬ v6 < (v7 + v9) → ((-2147483648) ≤ (a3 + v7) ∧ (a3 + v7) ≤ 2147483647) ∧ ((-2147483648) ≤ (a3 + v7 + v9) ∧ (a3 + v7 + v9) ≤ 2147483647) ∧ ((-2147483648) ≤ (a3 + v7 + v9 - 1) ∧ (a3 + v7 + v9 - 1) ≤ 2147483647) ∧ con G 1 0 0 m_Beams_joinCost [av_R (some a1), av_I a2, av_I (a3 + v7 + v9 - 1), av_I a5] h (fun r h5 => ∃ z7 : Int, r = some (av_I z7) ∧ hb s h5 ∧ ((-2147483648) ≤ (v8 + z7) ∧ (v8 + z7) ≤ 2147483647) ∧ (0 ≤ (v7 + v9) ∧ (v7 + v9) < 15) ∧ ∀ x10 : Int, x10 = h5.2.1 148 ((v7 + v9)).toNat → -2147483648 ≤ x10 → x10 ≤ 2147483647 → ((-2147483648) ≤ (v8 + z7 + x10) ∧ (v8 + z7 + x10) ≤ 2147483647) ∧ (0 ≤ v7 ∧ v7 < 15) ∧ ∀ x14 : Int, x14 = h5.2.1 148 (v7).toNat → -2147483648 ≤ x14 → x14 ≤ 2147483647 → ((x14 < (v8 + z7 + x10) → B_Beams_cutRun_159 G s a1 a2 a3 a4 a5 (v6) (v7) ((v8 + z7)) (v9) h5 Q X69) ∧ (¬ x14 < (v8 + z7 + x10) → ∀ h17 : ah_T, h17 = st_i h5 149 (v7).toNat v9 → ∀ h22 : ah_T, h22 = st_i h17 148 (v7).toNat (v8 + z7 + x10) → B_Beams_cutRun_159 G s a1 a2 a3 a4 a5 (v6) (v7) ((v8 + z7)) (v9) h22 Q X69)))))))
theorem b_Beams_cutRun_69 {G : cx_T} {s : Nat} {a1 : Nat} {a2 : Int} {a3 : Int} {a4 : Int} {a5 : Int} (ha1 : isV a1) {v6 : Int} {v7 : Int} {v8 : Int} {v9 : Int} {h : ah_T} {Q : Option av_T → ah_T → Prop} {X32 : Int → Int → ah_T → Prop} {X69 : Int → Int → Int → Int → ah_T → Prop} (hX32 : ∀ (v6 : Int) (v7 : Int) (h : ah_T), hb s h → X32 v6 v7 h → aw G (rm_R 2 0 0) m_Beams_cutRun 0 0 32 [some (av_R (some 146)), some (av_R (some a1)), some (av_I a2), some (av_I a3), none, some (av_I a5), some (av_I v6), some (av_I v7), none, none] [] h Q) (hX69 : ∀ (v6 : Int) (v7 : Int) (v8 : Int) (v9 : Int) (h : ah_T), hb s h → X69 v6 v7 v8 v9 h → aw G (rm_R 2 0 0) m_Beams_cutRun 0 0 69 [some (av_R (some 146)), some (av_R (some a1)), some (av_I a2), some (av_I a3), none, some (av_I a5), some (av_I v6), some (av_I v7), some (av_I v8), some (av_I v9)] [] h Q) (hb0 : hb s h) (H : B_Beams_cutRun_69 G s a1 a2 a3 a4 a5 v6 v7 v8 v9 h Q X32 X69) : aw G (rm_R 2 0 0) m_Beams_cutRun 0 0 69 [some (av_R (some 146)), some (av_R (some a1)), some (av_I a2), some (av_I a3), none, some (av_I a5), some (av_I v6), some (av_I v7), some (av_I v8), some (av_I v9)] [] h Q := by
  unfold B_Beams_cutRun_69 at H
  have hS : isS s := hb0.2.1
  refine A_iload d_Beams_cutRun_69 rfl ?_
  refine A_bipush d_Beams_cutRun_71 rfl ?_
  refine A_icmp_gt (tgt := 165) d_Beams_cutRun_73 (by decide) (fun c => ?_) (fun c => ?_)
  · replace H := H.1 c
    refine A_pc (pc' := 165) rfl ?_
    refine A_free (L' := [some (av_R (some 146)), some (av_R (some a1)), some (av_I a2), some (av_I a3), none, some (av_I a5), some (av_I v6), some (av_I v7), none, none]) (And.intro rfl (And.intro rfl (And.intro rfl (And.intro rfl (And.intro rfl (And.intro rfl (And.intro rfl trivial))))))) ?_
    exact b_Beams_cutRun_165 ha1 hX32  hb0 H
  · replace H := H.2 c
    refine A_iload d_Beams_cutRun_76 rfl ?_
    refine A_iload d_Beams_cutRun_78 rfl ?_
    have g1 := H.1
    replace H := H.2
    refine A_iaddv (z := (v7 + v9)) d_Beams_cutRun_80 (w32_to (by omega) (by unfold i32; omega)) ?_
    refine A_iload d_Beams_cutRun_81 rfl ?_
    refine A_icmp_gt (tgt := 165) d_Beams_cutRun_83 (by decide) (fun c => ?_) (fun c => ?_)
    · replace H := H.1 c
      refine A_pc (pc' := 165) rfl ?_
      refine A_free (L' := [some (av_R (some 146)), some (av_R (some a1)), some (av_I a2), some (av_I a3), none, some (av_I a5), some (av_I v6), some (av_I v7), none, none]) (And.intro rfl (And.intro rfl (And.intro rfl (And.intro rfl (And.intro rfl (And.intro rfl (And.intro rfl trivial))))))) ?_
      exact b_Beams_cutRun_165 ha1 hX32  hb0 H
    · replace H := H.2 c
      refine A_iload d_Beams_cutRun_86 rfl ?_
      refine A_aload_n 1 d_Beams_cutRun_88 rfl rfl ?_
      refine A_iload_n 2 d_Beams_cutRun_89 rfl rfl ?_
      refine A_iload_n 3 d_Beams_cutRun_90 rfl rfl ?_
      refine A_iload d_Beams_cutRun_91 rfl ?_
      refine A_pc (pc' := 93) rfl ?_
      have g2 := H.1
      replace H := H.2
      refine A_iaddv (z := (a3 + v7)) d_Beams_cutRun_93 (w32_to (by omega) (by unfold i32; omega)) ?_
      refine A_iload d_Beams_cutRun_94 rfl ?_
      have g3 := H.1
      replace H := H.2
      refine A_iaddv (z := (a3 + v7 + v9)) d_Beams_cutRun_96 (w32_to (by omega) (by unfold i32; omega)) ?_
      refine A_iconst d_Beams_cutRun_97 rfl ?_
      have g4 := H.1
      replace H := H.2
      refine A_isubv (z := (a3 + v7 + v9 - 1)) d_Beams_cutRun_98 (w32_to (by omega) (by unfold i32; omega)) ?_
      refine A_iload d_Beams_cutRun_99 rfl ?_
      refine A_pc (pc' := 101) rfl ?_
      refine A_callS4 m_Beams_joinCost d_Beams_cutRun_101 l_Beams_48 k_Beams_joinCost (by decide +kernel) (by decide) (Nat.le_of_ble_eq_true rfl) H (fun r h5 hq => ?_)
      clear H
      obtain ⟨z7, rfl, hb6, H⟩ := hq
      have g8 := H.1
      replace H := H.2
      refine A_iaddv (z := (v8 + z7)) d_Beams_cutRun_104 (w32_to (by omega) (by unfold i32; omega)) ?_
      refine A_istore (L' := [some (av_R (some 146)), some (av_R (some a1)), some (av_I a2), some (av_I a3), none, some (av_I a5), some (av_I v6), some (av_I v7), some (av_I (v8 + z7)), some (av_I v9)]) d_Beams_cutRun_105 (Nat.le_of_ble_eq_true rfl) rfl ?_
      refine A_iload d_Beams_cutRun_107 rfl ?_
      refine A_aload_n 0 d_Beams_cutRun_109 rfl rfl ?_
      refine A_getAv (z := some 148) T_ok d_Beams_cutRun_110 f_Beams_15 (hb_s hb6 sf_146) (hb_r hb6 rff_146_2) ?_
      refine A_pc (pc' := 113) rfl ?_
      refine A_iload d_Beams_cutRun_113 rfl ?_
      refine A_iload d_Beams_cutRun_115 rfl ?_
      refine A_iaddv (z := (v7 + v9)) d_Beams_cutRun_117 (w32_to (by omega) (by unfold i32; omega)) ?_
      have g11 := H.1
      replace H := H.2
      refine A_ialoadf d_Beams_cutRun_118 (hb_s hb6 sf_148) g11.1 g11.2 (fun x10 ex10 lx10 ux10 => ?_)
      replace H := H x10 ex10 lx10 ux10
      have g12 := H.1
      replace H := H.2
      refine A_iaddv (z := (v8 + z7 + x10)) d_Beams_cutRun_119 (w32_to (by omega) (by unfold i32; omega)) ?_
      refine A_aload_n 0 d_Beams_cutRun_120 rfl rfl ?_
      refine A_pc (pc' := 121) rfl ?_
      refine A_getAv (z := some 148) T_ok d_Beams_cutRun_121 f_Beams_15 (hb_s hb6 sf_146) (hb_r hb6 rff_146_2) ?_
      refine A_iload d_Beams_cutRun_124 rfl ?_
      have g15 := H.1
      replace H := H.2
      refine A_ialoadf d_Beams_cutRun_126 (hb_s hb6 sf_148) g15.1 g15.2 (fun x14 ex14 lx14 ux14 => ?_)
      replace H := H x14 ex14 lx14 ux14
      refine A_icmp_gt (tgt := 159) d_Beams_cutRun_127 (by decide) (fun c => ?_) (fun c => ?_)
      · replace H := H.1 c
        refine A_pc (pc' := 159) rfl ?_
        exact b_Beams_cutRun_159 ha1 hX69  hb6 H
      · replace H := H.2 c
        refine A_aload_n 0 d_Beams_cutRun_130 rfl rfl ?_
        refine A_getAv (z := some 149) T_ok d_Beams_cutRun_131 f_Beams_18 (hb_s hb6 sf_146) (hb_r hb6 rff_146_3) ?_
        refine A_iload d_Beams_cutRun_134 rfl ?_
        refine A_iload d_Beams_cutRun_136 rfl ?_
        refine A_iastoreN d_Beams_cutRun_138 (hb_s hb6 sf_149) g15.1 g15.2 ?_
        refine A_hn (fun h17 eh17 => ?_)
        have hb18 := hb_i hb6 eh17
        replace H := H h17 eh17
        refine A_pc (pc' := 139) rfl ?_
        refine A_aload_n 0 d_Beams_cutRun_139 rfl rfl ?_
        refine A_getAv (z := some 148) T_ok d_Beams_cutRun_140 f_Beams_15 (hb_s hb18 sf_146) (hb_r hb18 rff_146_2) ?_
        refine A_iload d_Beams_cutRun_143 rfl ?_
        refine A_iload d_Beams_cutRun_145 rfl ?_
        refine A_aload_n 0 d_Beams_cutRun_147 rfl rfl ?_
        refine A_getAv (z := some 148) T_ok d_Beams_cutRun_148 f_Beams_15 (hb_s hb18 sf_146) (hb_r hb18 rff_146_2) ?_
        refine A_pc (pc' := 151) rfl ?_
        refine A_iload d_Beams_cutRun_151 rfl ?_
        refine A_iload d_Beams_cutRun_153 rfl ?_
        refine A_iaddv (z := (v7 + v9)) d_Beams_cutRun_155 (w32_to (by omega) (by unfold i32; omega)) ?_
        refine A_ialoadv (z := x10) d_Beams_cutRun_156 (hb_s hb18 sf_148) (by omega) (by omega) ((mm_i eh17 (fun q => absurd q.1 (by decide))).trans ex10.symm) ?_
        refine A_iaddv (z := (v8 + z7 + x10)) d_Beams_cutRun_157 (w32_to (by omega) (by unfold i32; omega)) ?_
        refine A_iastoreN d_Beams_cutRun_158 (hb_s hb18 sf_148) g15.1 g15.2 ?_
        refine A_hn (fun h22 eh22 => ?_)
        have hb23 := hb_i hb18 eh22
        replace H := H h22 eh22
        refine A_pc (pc' := 159) rfl ?_
        exact b_Beams_cutRun_159 ha1 hX69  hb23 H
theorem lp_Beams_cutRun_69 {G : cx_T} {s : Nat} {a1 : Nat} {a2 : Int} {a3 : Int} {a4 : Int} {a5 : Int} (ha1 : isV a1) {Q : Option av_T → ah_T → Prop} {X32 : Int → Int → ah_T → Prop} (hX32 : ∀ (v6 : Int) (v7 : Int) (h : ah_T), hb s h → X32 v6 v7 h → aw G (rm_R 2 0 0) m_Beams_cutRun 0 0 32 [some (av_R (some 146)), some (av_R (some a1)), some (av_I a2), some (av_I a3), none, some (av_I a5), some (av_I v6), some (av_I v7), none, none] [] h Q) (I : Int → Int → Int → Int → ah_T → Prop) (μ : Int → Int → Int → Int → ah_T → Nat) (hI : ∀ (v6 : Int) (v7 : Int) (v8 : Int) (v9 : Int) (h : ah_T), hb s h → I v6 v7 v8 v9 h → B_Beams_cutRun_69 G s a1 a2 a3 a4 a5 v6 v7 v8 v9 h Q X32 (fun v6' v7' v8' v9' h' => I v6' v7' v8' v9' h' ∧ μ v6' v7' v8' v9' h' < μ v6 v7 v8 v9 h)) : ∀ (v6 : Int) (v7 : Int) (v8 : Int) (v9 : Int) (h : ah_T), hb s h → I v6 v7 v8 v9 h → aw G (rm_R 2 0 0) m_Beams_cutRun 0 0 69 [some (av_R (some 146)), some (av_R (some a1)), some (av_I a2), some (av_I a3), none, some (av_I a5), some (av_I v6), some (av_I v7), some (av_I v8), some (av_I v9)] [] h Q := by
  have key : ∀ (n : Nat) (v6 : Int) (v7 : Int) (v8 : Int) (v9 : Int) (h : ah_T), hb s h → I v6 v7 v8 v9 h → μ v6 v7 v8 v9 h < n → aw G (rm_R 2 0 0) m_Beams_cutRun 0 0 69 [some (av_R (some 146)), some (av_R (some a1)), some (av_I a2), some (av_I a3), none, some (av_I a5), some (av_I v6), some (av_I v7), some (av_I v8), some (av_I v9)] [] h Q := by
    intro n
    induction n with
    | zero => intro v6 v7 v8 v9 h  hb0 hi hm; omega
    | succ n ih => intro v6 v7 v8 v9 h  hb0 hi hm; exact b_Beams_cutRun_69 ha1 hX32 (fun v6' v7' v8' v9' h'  hb' hx => ih v6' v7' v8' v9' h'  hb' hx.1 (by have := hx.2; omega))  hb0 (hI v6 v7 v8 v9 h  hb0 hi)
  exact fun v6 v7 v8 v9 h  hb0 hi => key _ v6 v7 v8 v9 h  hb0 hi (Nat.lt_succ_self _)
def B_Beams_cutRun_32 (G : cx_T) (s : Nat) (a1 : Nat) (a2 : Int) (a3 : Int) (a4 : Int) (a5 : Int) (v6 : Int) (v7 : Int) (h : ah_T) (Q : Option av_T → ah_T → Prop) (X69 : Int → Int → Int → Int → ah_T → Prop) (X174 : Int → Int → ah_T → Prop) : Prop :=
 ((v7 < 0 → X174 (v6) (0) h) ∧ (¬ v7 < 0 → (0 ≤ v7 ∧ v7 < 15) ∧ ∀ h3 : ah_T, h3 = st_i h 149 (v7).toNat 1 → ((-2147483648) ≤ (v7 + 1) ∧ (v7 + 1) ≤ 2147483647) ∧ (0 ≤ (v7 + 1) ∧ (v7 + 1) < 15) ∧ ∀ x8 : Int, x8 = h3.2.1 148 ((v7 + 1)).toNat → -2147483648 ≤ x8 → x8 ≤ 2147483647 → ((-2147483648) ≤ (x8 + 3) ∧ (x8 + 3) ≤ 2147483647) ∧ ∀ h11 : ah_T, h11 = st_i h3 148 (v7).toNat (x8 + 3) → X69 (v6) (v7) (1) (2) h11))
theorem b_Beams_cutRun_32 {G : cx_T} {s : Nat} {a1 : Nat} {a2 : Int} {a3 : Int} {a4 : Int} {a5 : Int} (ha1 : isV a1) {v6 : Int} {v7 : Int} {h : ah_T} {Q : Option av_T → ah_T → Prop} {X69 : Int → Int → Int → Int → ah_T → Prop} {X174 : Int → Int → ah_T → Prop} (hX69 : ∀ (v6 : Int) (v7 : Int) (v8 : Int) (v9 : Int) (h : ah_T), hb s h → X69 v6 v7 v8 v9 h → aw G (rm_R 2 0 0) m_Beams_cutRun 0 0 69 [some (av_R (some 146)), some (av_R (some a1)), some (av_I a2), some (av_I a3), none, some (av_I a5), some (av_I v6), some (av_I v7), some (av_I v8), some (av_I v9)] [] h Q) (hX174 : ∀ (v6 : Int) (v7 : Int) (h : ah_T), hb s h → X174 v6 v7 h → aw G (rm_R 2 0 0) m_Beams_cutRun 0 0 174 [some (av_R (some 146)), none, none, none, none, none, some (av_I v6), some (av_I v7), none, none] [] h Q) (hb0 : hb s h) (H : B_Beams_cutRun_32 G s a1 a2 a3 a4 a5 v6 v7 h Q X69 X174) : aw G (rm_R 2 0 0) m_Beams_cutRun 0 0 32 [some (av_R (some 146)), some (av_R (some a1)), some (av_I a2), some (av_I a3), none, some (av_I a5), some (av_I v6), some (av_I v7), none, none] [] h Q := by
  unfold B_Beams_cutRun_32 at H
  have hS : isS s := hb0.2.1
  refine A_iload d_Beams_cutRun_32 rfl ?_
  refine A_if_lt (tgt := 171) d_Beams_cutRun_34 (by decide) (fun c => ?_) (fun c => ?_)
  · replace H := H.1 c
    refine A_iconst d_Beams_cutRun_171 rfl ?_
    refine A_istore (L' := [some (av_R (some 146)), some (av_R (some a1)), some (av_I a2), some (av_I a3), none, some (av_I a5), some (av_I v6), some (av_I 0), none, none]) d_Beams_cutRun_172 (Nat.le_of_ble_eq_true rfl) rfl ?_
    refine A_pc (pc' := 174) rfl ?_
    refine A_free (L' := [some (av_R (some 146)), none, none, none, none, none, some (av_I v6), some (av_I 0), none, none]) (And.intro rfl (And.intro rfl (And.intro rfl trivial))) ?_
    exact hX174 (v6) (0) h  hb0 H
  · replace H := H.2 c
    refine A_aload_n 0 d_Beams_cutRun_37 rfl rfl ?_
    refine A_getAv (z := some 149) T_ok d_Beams_cutRun_38 f_Beams_18 (hb_s hb0 sf_146) (hb_r hb0 rff_146_3) ?_
    refine A_iload d_Beams_cutRun_41 rfl ?_
    refine A_iconst d_Beams_cutRun_43 rfl ?_
    have g2 := H.1
    replace H := H.2
    refine A_iastoreN d_Beams_cutRun_44 (hb_s hb0 sf_149) g2.1 g2.2 ?_
    refine A_hn (fun h3 eh3 => ?_)
    have hb4 := hb_i hb0 eh3
    replace H := H h3 eh3
    refine A_pc (pc' := 45) rfl ?_
    refine A_aload_n 0 d_Beams_cutRun_45 rfl rfl ?_
    refine A_getAv (z := some 148) T_ok d_Beams_cutRun_46 f_Beams_15 (hb_s hb4 sf_146) (hb_r hb4 rff_146_2) ?_
    refine A_iload d_Beams_cutRun_49 rfl ?_
    refine A_iconst d_Beams_cutRun_51 rfl ?_
    refine A_aload_n 0 d_Beams_cutRun_52 rfl rfl ?_
    refine A_getAv (z := some 148) T_ok d_Beams_cutRun_53 f_Beams_15 (hb_s hb4 sf_146) (hb_r hb4 rff_146_2) ?_
    refine A_pc (pc' := 56) rfl ?_
    refine A_iload d_Beams_cutRun_56 rfl ?_
    refine A_iconst d_Beams_cutRun_58 rfl ?_
    have g7 := H.1
    replace H := H.2
    refine A_iaddv (z := (v7 + 1)) d_Beams_cutRun_59 (w32_to (by omega) (by unfold i32; omega)) ?_
    have g9 := H.1
    replace H := H.2
    refine A_ialoadf d_Beams_cutRun_60 (hb_s hb4 sf_148) g9.1 g9.2 (fun x8 ex8 lx8 ux8 => ?_)
    replace H := H x8 ex8 lx8 ux8
    have g10 := H.1
    replace H := H.2
    refine A_iaddv (z := (x8 + 3)) d_Beams_cutRun_61 (w32_to (by omega) (by unfold i32; omega)) ?_
    refine A_iastoreN d_Beams_cutRun_62 (hb_s hb4 sf_148) g2.1 g2.2 ?_
    refine A_hn (fun h11 eh11 => ?_)
    have hb12 := hb_i hb4 eh11
    replace H := H h11 eh11
    refine A_pc (pc' := 63) rfl ?_
    refine A_iconst d_Beams_cutRun_63 rfl ?_
    refine A_istore (L' := [some (av_R (some 146)), some (av_R (some a1)), some (av_I a2), some (av_I a3), none, some (av_I a5), some (av_I v6), some (av_I v7), some (av_I 1), none]) d_Beams_cutRun_64 (Nat.le_of_ble_eq_true rfl) rfl ?_
    refine A_iconst d_Beams_cutRun_66 rfl ?_
    refine A_istore (L' := [some (av_R (some 146)), some (av_R (some a1)), some (av_I a2), some (av_I a3), none, some (av_I a5), some (av_I v6), some (av_I v7), some (av_I 1), some (av_I 2)]) d_Beams_cutRun_67 (Nat.le_of_ble_eq_true rfl) rfl ?_
    refine A_pc (pc' := 69) rfl ?_
    exact hX69 (v6) (v7) (1) (2) h11  hb12 H
theorem lp_Beams_cutRun_32 {G : cx_T} {s : Nat} {a1 : Nat} {a2 : Int} {a3 : Int} {a4 : Int} {a5 : Int} (ha1 : isV a1) {Q : Option av_T → ah_T → Prop} {X69 : Int → Int → Int → Int → ah_T → Prop} {X174 : Int → Int → ah_T → Prop} (hX69 : ∀ (v6 : Int) (v7 : Int) (v8 : Int) (v9 : Int) (h : ah_T), hb s h → X69 v6 v7 v8 v9 h → aw G (rm_R 2 0 0) m_Beams_cutRun 0 0 69 [some (av_R (some 146)), some (av_R (some a1)), some (av_I a2), some (av_I a3), none, some (av_I a5), some (av_I v6), some (av_I v7), some (av_I v8), some (av_I v9)] [] h Q) (hX174 : ∀ (v6 : Int) (v7 : Int) (h : ah_T), hb s h → X174 v6 v7 h → aw G (rm_R 2 0 0) m_Beams_cutRun 0 0 174 [some (av_R (some 146)), none, none, none, none, none, some (av_I v6), some (av_I v7), none, none] [] h Q) (I : Int → Int → ah_T → Prop) (μ : Int → Int → ah_T → Nat) (hI : ∀ (v6 : Int) (v7 : Int) (h : ah_T), hb s h → I v6 v7 h → B_Beams_cutRun_32 G s a1 a2 a3 a4 a5 v6 v7 h Q X69 X174) : ∀ (v6 : Int) (v7 : Int) (h : ah_T), hb s h → I v6 v7 h → aw G (rm_R 2 0 0) m_Beams_cutRun 0 0 32 [some (av_R (some 146)), some (av_R (some a1)), some (av_I a2), some (av_I a3), none, some (av_I a5), some (av_I v6), some (av_I v7), none, none] [] h Q := by
  have key : ∀ (n : Nat) (v6 : Int) (v7 : Int) (h : ah_T), hb s h → I v6 v7 h → μ v6 v7 h < n → aw G (rm_R 2 0 0) m_Beams_cutRun 0 0 32 [some (av_R (some 146)), some (av_R (some a1)), some (av_I a2), some (av_I a3), none, some (av_I a5), some (av_I v6), some (av_I v7), none, none] [] h Q := by
    intro n
    induction n with
    | zero => intro v6 v7 h  hb0 hi hm; omega
    | succ n ih => intro v6 v7 h  hb0 hi hm; exact b_Beams_cutRun_32 ha1 hX69 hX174  hb0 (hI v6 v7 h  hb0 hi)
  exact fun v6 v7 h  hb0 hi => key _ v6 v7 h  hb0 hi (Nat.lt_succ_self _)
def B_Beams_cutRun_0 (G : cx_T) (s : Nat) (a1 : Nat) (a2 : Int) (a3 : Int) (a4 : Int) (a5 : Int) (h : ah_T) (Q : Option av_T → ah_T → Prop) (X32 : Int → Int → ah_T → Prop) : Prop :=
 ((-2147483648) ≤ (a4 - a3) ∧ (a4 - a3) ≤ 2147483647) ∧ ∀ x2 : Int, x2 = (if 14 < (a4 - a3) then 14 else (a4 - a3)) → -2147483648 ≤ x2 → x2 ≤ 2147483647 → ((0 < x2 → (0 ≤ x2 ∧ x2 < 15) ∧ ∀ h5 : ah_T, h5 = st_i h 148 (x2).toNat 0 → ((-2147483648) ≤ (x2 - 1) ∧ (x2 - 1) ≤ 2147483647) ∧ X32 (x2) ((x2 - 1)) h5) ∧ (¬ 0 < x2 → Q (some (av_I 0)) h))
theorem b_Beams_cutRun_0 {G : cx_T} {s : Nat} {a1 : Nat} {a2 : Int} {a3 : Int} {a4 : Int} {a5 : Int} (ha1 : isV a1) {h : ah_T} {Q : Option av_T → ah_T → Prop} {X32 : Int → Int → ah_T → Prop} (hX32 : ∀ (v6 : Int) (v7 : Int) (h : ah_T), hb s h → X32 v6 v7 h → aw G (rm_R 2 0 0) m_Beams_cutRun 0 0 32 [some (av_R (some 146)), some (av_R (some a1)), some (av_I a2), some (av_I a3), none, some (av_I a5), some (av_I v6), some (av_I v7), none, none] [] h Q) (hb0 : hb s h) (H : B_Beams_cutRun_0 G s a1 a2 a3 a4 a5 h Q X32) : aw G (rm_R 2 0 0) m_Beams_cutRun 0 0 0 [some (av_R (some 146)), some (av_R (some a1)), some (av_I a2), some (av_I a3), some (av_I a4), some (av_I a5), none, none, none, none] [] h Q := by
  unfold B_Beams_cutRun_0 at H
  have hS : isS s := hb0.2.1
  refine A_iload d_Beams_cutRun_0 rfl ?_
  refine A_iload_n 3 d_Beams_cutRun_2 rfl rfl ?_
  have g1 := H.1
  replace H := H.2
  refine A_isubv (z := (a4 - a3)) d_Beams_cutRun_3 (w32_to (by omega) (by unfold i32; omega)) ?_
  refine A_bipush d_Beams_cutRun_4 rfl ?_
  refine A_mmin (z := (if 14 < (a4 - a3) then 14 else (a4 - a3))) d_Beams_cutRun_6 lm_Beams_42 ma_min (by decide) (by decide) (Nat.le_of_ble_eq_true rfl) rfl ?_
  refine A_nrI (fun x2 ex2 lx2 ux2 => ?_)
  replace H := H x2 ex2 lx2 ux2
  refine A_pc (pc' := 9) rfl ?_
  refine A_istore (L' := [some (av_R (some 146)), some (av_R (some a1)), some (av_I a2), some (av_I a3), some (av_I a4), some (av_I a5), some (av_I x2), none, none, none]) d_Beams_cutRun_9 (Nat.le_of_ble_eq_true rfl) rfl ?_
  refine A_iload d_Beams_cutRun_11 rfl ?_
  refine A_if_gt (tgt := 18) d_Beams_cutRun_13 (by decide) (fun c => ?_) (fun c => ?_)
  · replace H := H.1 c
    refine A_aload_n 0 d_Beams_cutRun_18 rfl rfl ?_
    refine A_getAv (z := some 148) T_ok d_Beams_cutRun_19 f_Beams_15 (hb_s hb0 sf_146) (hb_r hb0 rff_146_2) ?_
    refine A_iload d_Beams_cutRun_22 rfl ?_
    refine A_iconst d_Beams_cutRun_24 rfl ?_
    have g4 := H.1
    replace H := H.2
    refine A_iastoreN d_Beams_cutRun_25 (hb_s hb0 sf_148) g4.1 g4.2 ?_
    refine A_hn (fun h5 eh5 => ?_)
    have hb6 := hb_i hb0 eh5
    replace H := H h5 eh5
    refine A_pc (pc' := 26) rfl ?_
    refine A_iload d_Beams_cutRun_26 rfl ?_
    refine A_iconst d_Beams_cutRun_28 rfl ?_
    have g7 := H.1
    replace H := H.2
    refine A_isubv (z := (x2 - 1)) d_Beams_cutRun_29 (w32_to (by omega) (by unfold i32; omega)) ?_
    refine A_istore (L' := [some (av_R (some 146)), some (av_R (some a1)), some (av_I a2), some (av_I a3), some (av_I a4), some (av_I a5), some (av_I x2), some (av_I (x2 - 1)), none, none]) d_Beams_cutRun_30 (Nat.le_of_ble_eq_true rfl) rfl ?_
    refine A_pc (pc' := 32) rfl ?_
    refine A_free (L' := [some (av_R (some 146)), some (av_R (some a1)), some (av_I a2), some (av_I a3), none, some (av_I a5), some (av_I x2), some (av_I (x2 - 1)), none, none]) (And.intro rfl (And.intro rfl (And.intro rfl (And.intro rfl (And.intro rfl (And.intro rfl (And.intro rfl trivial))))))) ?_
    exact hX32 (x2) ((x2 - 1)) h5  hb6 H
  · replace H := H.2 c
    refine A_iconst d_Beams_cutRun_16 rfl ?_
    exact A_iret d_Beams_cutRun_17 (by decide) rfl H
theorem c_Beams_cutRun {G : cx_T} {s : Nat} {a1 : Nat} {a2 : Int} {a3 : Int} {a4 : Int} {a5 : Int} (ha1 : isV a1) {h : ah_T} {Q : Option av_T → ah_T → Prop} {X32 : Int → Int → ah_T → Prop} (hX32 : ∀ (v6 : Int) (v7 : Int) (h : ah_T), hb s h → X32 v6 v7 h → aw G (rm_R 2 0 0) m_Beams_cutRun 0 0 32 [some (av_R (some 146)), some (av_R (some a1)), some (av_I a2), some (av_I a3), none, some (av_I a5), some (av_I v6), some (av_I v7), none, none] [] h Q) (hb0 : hb s h) (H : i32 a2 → i32 a3 → i32 a4 → i32 a5 → B_Beams_cutRun_0 G s a1 a2 a3 a4 a5 h Q X32) : con G 2 0 0 m_Beams_cutRun [av_R (some 146), av_R (some a1), av_I a2, av_I a3, av_I a4, av_I a5] h Q := by
  have hS : isS s := hb0.2.1
  refine con_of (L := [some (av_R (some 146)), some (av_R (some a1)), some (av_I a2), some (av_I a3), some (av_I a4), some (av_I a5), none, none, none, none]) (by decide +kernel) (Nat.le_of_ble_eq_true rfl) rfl ?_
  refine A_locI 2 rfl (fun ra2 => ?_)
  refine A_locI 3 rfl (fun ra3 => ?_)
  refine A_locI 4 rfl (fun ra4 => ?_)
  refine A_locI 5 rfl (fun ra5 => ?_)
  exact b_Beams_cutRun_0 ha1 hX32 hb0 (H ra2 ra3 ra4 ra5)
def B_Beams_find_95 (G : cx_T) (s : Nat) (a1 : Nat) (a2 : Int) (a3 : Int) (v5 : Int) (v6 : Int) (v7 : Int) (v8 : Int) (h : ah_T) (Q : Option av_T → ah_T → Prop) (X50 : Int → Int → Int → Int → ah_T → Prop) : Prop :=
 ((-2147483648) ≤ (v8 + 1) ∧ (v8 + 1) ≤ 2147483647) ∧ X50 (v5) (v6) (v7) ((v8 + 1)) h
theorem b_Beams_find_95 {G : cx_T} {s : Nat} {a1 : Nat} {a2 : Int} {a3 : Int} (ha1 : isV a1) {v5 : Int} {v6 : Int} {v7 : Int} {v8 : Int} {h : ah_T} {Q : Option av_T → ah_T → Prop} {X50 : Int → Int → Int → Int → ah_T → Prop} (hX50 : ∀ (v5 : Int) (v6 : Int) (v7 : Int) (v8 : Int) (h : ah_T), hb s h → X50 v5 v6 v7 v8 h → aw G (rm_R 4 0 0) m_Beams_find 0 0 50 [some (av_R (some 146)), some (av_R (some a1)), some (av_I a2), some (av_I a3), none, some (av_I v5), some (av_I v6), some (av_I v7), some (av_I v8)] [] h Q) (hb0 : hb s h) (H : B_Beams_find_95 G s a1 a2 a3 v5 v6 v7 v8 h Q X50) : aw G (rm_R 4 0 0) m_Beams_find 0 0 95 [some (av_R (some 146)), some (av_R (some a1)), some (av_I a2), some (av_I a3), none, some (av_I v5), some (av_I v6), some (av_I v7), some (av_I v8)] [] h Q := by
  unfold B_Beams_find_95 at H
  have hS : isS s := hb0.2.1
  have g1 := H.1
  replace H := H.2
  refine A_iincv (z := (v8 + 1)) (L' := [some (av_R (some 146)), some (av_R (some a1)), some (av_I a2), some (av_I a3), none, some (av_I v5), some (av_I v6), some (av_I v7), some (av_I (v8 + 1))]) d_Beams_find_95 rfl (w32_to (by omega) (by unfold i32; omega)) rfl ?_
  refine A_goto (tgt := 50) d_Beams_find_98 (by decide) ?_
  refine A_pc (pc' := 50) rfl ?_
  exact hX50 (v5) (v6) (v7) ((v8 + 1)) h  hb0 H
def B_Beams_find_73 (G : cx_T) (s : Nat) (a1 : Nat) (a2 : Int) (a3 : Int) (v5 : Int) (v6 : Int) (v7 : Int) (v8 : Int) (h : ah_T) (Q : Option av_T → ah_T → Prop) (X50 : Int → Int → Int → Int → ah_T → Prop) : Prop :=
 con G 2 0 0 m_Beams_cutRun [av_R (some 146), av_R (some a1), av_I a2, av_I v7, av_I v8, av_I a3] h (fun r h1 => ∃ z3 : Int, r = some (av_I z3) ∧ hb s h1 ∧ ((-2147483648) ≤ (v6 + z3) ∧ (v6 + z3) ≤ 2147483647) ∧ ((-2147483648) ≤ (v8 + 1) ∧ (v8 + 1) ≤ 2147483647) ∧ B_Beams_find_95 G s a1 a2 a3 (v5) ((v6 + z3)) ((v8 + 1)) (v8) h1 Q X50)
theorem b_Beams_find_73 {G : cx_T} {s : Nat} {a1 : Nat} {a2 : Int} {a3 : Int} (ha1 : isV a1) {v5 : Int} {v6 : Int} {v7 : Int} {v8 : Int} {h : ah_T} {Q : Option av_T → ah_T → Prop} {X50 : Int → Int → Int → Int → ah_T → Prop} (hX50 : ∀ (v5 : Int) (v6 : Int) (v7 : Int) (v8 : Int) (h : ah_T), hb s h → X50 v5 v6 v7 v8 h → aw G (rm_R 4 0 0) m_Beams_find 0 0 50 [some (av_R (some 146)), some (av_R (some a1)), some (av_I a2), some (av_I a3), none, some (av_I v5), some (av_I v6), some (av_I v7), some (av_I v8)] [] h Q) (hb0 : hb s h) (H : B_Beams_find_73 G s a1 a2 a3 v5 v6 v7 v8 h Q X50) : aw G (rm_R 4 0 0) m_Beams_find 0 0 73 [some (av_R (some 146)), some (av_R (some a1)), some (av_I a2), some (av_I a3), none, some (av_I v5), some (av_I v6), some (av_I v7), some (av_I v8)] [] h Q := by
  unfold B_Beams_find_73 at H
  have hS : isS s := hb0.2.1
  refine A_iload d_Beams_find_73 rfl ?_
  refine A_aload_n 0 d_Beams_find_75 rfl rfl ?_
  refine A_aload_n 1 d_Beams_find_76 rfl rfl ?_
  refine A_iload_n 2 d_Beams_find_77 rfl rfl ?_
  refine A_iload d_Beams_find_78 rfl ?_
  refine A_pc (pc' := 80) rfl ?_
  refine A_iload d_Beams_find_80 rfl ?_
  refine A_iload_n 3 d_Beams_find_82 rfl rfl ?_
  refine A_callV5 m_Beams_cutRun T_ok d_Beams_find_83 l_Beams_38 k_Beams_cutRun (hb_s hb0 sf_146) rfl (by decide +kernel) (by decide) (Nat.le_of_ble_eq_true rfl) H (fun r h1 hq => ?_)
  clear H
  obtain ⟨z3, rfl, hb2, H⟩ := hq
  have g4 := H.1
  replace H := H.2
  refine A_iaddv (z := (v6 + z3)) d_Beams_find_86 (w32_to (by omega) (by unfold i32; omega)) ?_
  refine A_istore (L' := [some (av_R (some 146)), some (av_R (some a1)), some (av_I a2), some (av_I a3), none, some (av_I v5), some (av_I (v6 + z3)), some (av_I v7), some (av_I v8)]) d_Beams_find_87 (Nat.le_of_ble_eq_true rfl) rfl ?_
  refine A_iload d_Beams_find_89 rfl ?_
  refine A_iconst d_Beams_find_91 rfl ?_
  have g5 := H.1
  replace H := H.2
  refine A_iaddv (z := (v8 + 1)) d_Beams_find_92 (w32_to (by omega) (by unfold i32; omega)) ?_
  refine A_pc (pc' := 93) rfl ?_
  refine A_istore (L' := [some (av_R (some 146)), some (av_R (some a1)), some (av_I a2), some (av_I a3), none, some (av_I v5), some (av_I (v6 + z3)), some (av_I (v8 + 1)), some (av_I v8)]) d_Beams_find_93 (Nat.le_of_ble_eq_true rfl) rfl ?_
  refine A_pc (pc' := 95) rfl ?_
  exact b_Beams_find_95 ha1 hX50  hb2 H
def B_Beams_find_50 (G : cx_T) (s : Nat) (a1 : Nat) (a2 : Int) (a3 : Int) (v5 : Int) (v6 : Int) (v7 : Int) (v8 : Int) (h : ah_T) (Q : Option av_T → ah_T → Prop) (X50 : Int → Int → Int → Int → ah_T → Prop) : Prop :=
 ((v5 < v8 → Q (some (av_I v6)) h) ∧ (¬ v5 < v8 → ((v8 = v5 → B_Beams_find_73 G s a1 a2 a3 (v5) (v6) (v7) (v8) h Q X50) ∧ (¬ v8 = v5 → con G 2 0 0 m_Voice_isShort [av_R (some a1), av_I v8] h (fun r h1 => ∃ z3 : Int, r = some (av_I z3) ∧ hb s h1 ∧ ((z3 = 0 → B_Beams_find_73 G s a1 a2 a3 (v5) (v6) (v7) (v8) h1 Q X50) ∧ (¬ z3 = 0 → B_Beams_find_95 G s a1 a2 a3 (v5) (v6) (v7) (v8) h1 Q X50)))))))
theorem b_Beams_find_50 {G : cx_T} {s : Nat} {a1 : Nat} {a2 : Int} {a3 : Int} (ha1 : isV a1) {v5 : Int} {v6 : Int} {v7 : Int} {v8 : Int} {h : ah_T} {Q : Option av_T → ah_T → Prop} {X50 : Int → Int → Int → Int → ah_T → Prop} (hX50 : ∀ (v5 : Int) (v6 : Int) (v7 : Int) (v8 : Int) (h : ah_T), hb s h → X50 v5 v6 v7 v8 h → aw G (rm_R 4 0 0) m_Beams_find 0 0 50 [some (av_R (some 146)), some (av_R (some a1)), some (av_I a2), some (av_I a3), none, some (av_I v5), some (av_I v6), some (av_I v7), some (av_I v8)] [] h Q) (hb0 : hb s h) (H : B_Beams_find_50 G s a1 a2 a3 v5 v6 v7 v8 h Q X50) : aw G (rm_R 4 0 0) m_Beams_find 0 0 50 [some (av_R (some 146)), some (av_R (some a1)), some (av_I a2), some (av_I a3), none, some (av_I v5), some (av_I v6), some (av_I v7), some (av_I v8)] [] h Q := by
  unfold B_Beams_find_50 at H
  have hS : isS s := hb0.2.1
  refine A_iload d_Beams_find_50 rfl ?_
  refine A_iload d_Beams_find_52 rfl ?_
  refine A_icmp_gt (tgt := 101) d_Beams_find_54 (by decide) (fun c => ?_) (fun c => ?_)
  · replace H := H.1 c
    refine A_iload d_Beams_find_101 rfl ?_
    exact A_iret d_Beams_find_103 (by decide) rfl H
  · replace H := H.2 c
    refine A_iload d_Beams_find_57 rfl ?_
    refine A_iload d_Beams_find_59 rfl ?_
    refine A_icmp_eq (tgt := 73) d_Beams_find_61 (by decide) (fun c => ?_) (fun c => ?_)
    · replace H := H.1 c
      refine A_pc (pc' := 73) rfl ?_
      exact b_Beams_find_73 ha1 hX50  hb0 H
    · replace H := H.2 c
      refine A_aload_n 1 d_Beams_find_64 rfl rfl ?_
      refine A_iload d_Beams_find_65 rfl ?_
      refine A_callV1 m_Voice_isShort T_ok d_Beams_find_67 l_Beams_34 k_Voice_isShort (hs_V hb0 ha1) rfl (by decide +kernel) (by decide) (Nat.le_of_ble_eq_true rfl) H (fun r h1 hq => ?_)
      clear H
      obtain ⟨z3, rfl, hb2, H⟩ := hq
      refine A_if_ne (tgt := 95) d_Beams_find_70 (by decide) (fun c => ?_) (fun c => ?_)
      · replace H := H.2 c
        refine A_pc (pc' := 95) rfl ?_
        exact b_Beams_find_95 ha1 hX50  hb2 H
      · replace H := H.1 c
        refine A_pc (pc' := 73) rfl ?_
        exact b_Beams_find_73 ha1 hX50  hb2 H
theorem lp_Beams_find_50 {G : cx_T} {s : Nat} {a1 : Nat} {a2 : Int} {a3 : Int} (ha1 : isV a1) {Q : Option av_T → ah_T → Prop} (I : Int → Int → Int → Int → ah_T → Prop) (μ : Int → Int → Int → Int → ah_T → Nat) (hI : ∀ (v5 : Int) (v6 : Int) (v7 : Int) (v8 : Int) (h : ah_T), hb s h → I v5 v6 v7 v8 h → B_Beams_find_50 G s a1 a2 a3 v5 v6 v7 v8 h Q (fun v5' v6' v7' v8' h' => I v5' v6' v7' v8' h' ∧ μ v5' v6' v7' v8' h' < μ v5 v6 v7 v8 h)) : ∀ (v5 : Int) (v6 : Int) (v7 : Int) (v8 : Int) (h : ah_T), hb s h → I v5 v6 v7 v8 h → aw G (rm_R 4 0 0) m_Beams_find 0 0 50 [some (av_R (some 146)), some (av_R (some a1)), some (av_I a2), some (av_I a3), none, some (av_I v5), some (av_I v6), some (av_I v7), some (av_I v8)] [] h Q := by
  have key : ∀ (n : Nat) (v5 : Int) (v6 : Int) (v7 : Int) (v8 : Int) (h : ah_T), hb s h → I v5 v6 v7 v8 h → μ v5 v6 v7 v8 h < n → aw G (rm_R 4 0 0) m_Beams_find 0 0 50 [some (av_R (some 146)), some (av_R (some a1)), some (av_I a2), some (av_I a3), none, some (av_I v5), some (av_I v6), some (av_I v7), some (av_I v8)] [] h Q := by
    intro n
    induction n with
    | zero => intro v5 v6 v7 v8 h  hb0 hi hm; omega
    | succ n ih => intro v5 v6 v7 v8 h  hb0 hi hm; exact b_Beams_find_50 ha1 (fun v5' v6' v7' v8' h'  hb' hx => ih v5' v6' v7' v8' h'  hb' hx.1 (by have := hx.2; omega))  hb0 (hI v5 v6 v7 v8 h  hb0 hi)
  exact fun v5 v6 v7 v8 h  hb0 hi => key _ v5 v6 v7 v8 h  hb0 hi (Nat.lt_succ_self _)
def B_Beams_find_0 (G : cx_T) (s : Nat) (a1 : Nat) (a2 : Int) (a3 : Int) (h : ah_T) (Q : Option av_T → ah_T → Prop) (X50 : Int → Int → Int → Int → ah_T → Prop) : Prop :=
 (0 ≤ a2 ∧ a2 < 102) ∧ ∀ x2 : Int, x2 = h.2.1 (a1 + 13) (a2).toNat → -2147483648 ≤ x2 → x2 ≤ 2147483647 → ((-2147483648) ≤ (a2 + 1) ∧ (a2 + 1) ≤ 2147483647) ∧ (0 ≤ (a2 + 1) ∧ (a2 + 1) < 102) ∧ ∀ x6 : Int, x6 = h.2.1 (a1 + 13) ((a2 + 1)).toNat → -2147483648 ≤ x6 → x6 ≤ 2147483647 → con G 3 0 0 m_Beams_shortOnes [av_R (some a1), av_I x2, av_I x6] h (fun r h8 => ∃ z10 : Int, r = some (av_I z10) ∧ hb s h8 ∧ ((z10 ≤ 14 → ∀ h11 : ah_T, h11 = st_i h8 146 1 0 → X50 (x6) (0) (x2) (x2) h11) ∧ (¬ z10 ≤ 14 → Q (some (av_I (-4))) h8)))
theorem b_Beams_find_0 {G : cx_T} {s : Nat} {a1 : Nat} {a2 : Int} {a3 : Int} (ha1 : isV a1) {h : ah_T} {Q : Option av_T → ah_T → Prop} {X50 : Int → Int → Int → Int → ah_T → Prop} (hX50 : ∀ (v5 : Int) (v6 : Int) (v7 : Int) (v8 : Int) (h : ah_T), hb s h → X50 v5 v6 v7 v8 h → aw G (rm_R 4 0 0) m_Beams_find 0 0 50 [some (av_R (some 146)), some (av_R (some a1)), some (av_I a2), some (av_I a3), none, some (av_I v5), some (av_I v6), some (av_I v7), some (av_I v8)] [] h Q) (hb0 : hb s h) (H : B_Beams_find_0 G s a1 a2 a3 h Q X50) : aw G (rm_R 4 0 0) m_Beams_find 0 0 0 [some (av_R (some 146)), some (av_R (some a1)), some (av_I a2), some (av_I a3), none, none, none, none, none] [] h Q := by
  unfold B_Beams_find_0 at H
  have hS : isS s := hb0.2.1
  refine A_aload_n 1 d_Beams_find_0 rfl rfl ?_
  refine A_getAv (z := some (a1 + 13)) T_ok d_Beams_find_1 f_Beams_25 (hs_V hb0 ha1) (hr_V_15 hb0 ha1) ?_
  refine A_iload_n 2 d_Beams_find_4 rfl rfl ?_
  have g3 := H.1
  replace H := H.2
  refine A_ialoadf d_Beams_find_5 (hs_V_15 hb0 ha1) g3.1 g3.2 (fun x2 ex2 lx2 ux2 => ?_)
  replace H := H x2 ex2 lx2 ux2
  refine A_istore (L' := [some (av_R (some 146)), some (av_R (some a1)), some (av_I a2), some (av_I a3), some (av_I x2), none, none, none, none]) d_Beams_find_6 (Nat.le_of_ble_eq_true rfl) rfl ?_
  refine A_pc (pc' := 8) rfl ?_
  refine A_aload_n 1 d_Beams_find_8 rfl rfl ?_
  refine A_getAv (z := some (a1 + 13)) T_ok d_Beams_find_9 f_Beams_25 (hs_V hb0 ha1) (hr_V_15 hb0 ha1) ?_
  refine A_iload_n 2 d_Beams_find_12 rfl rfl ?_
  refine A_iconst d_Beams_find_13 rfl ?_
  have g5 := H.1
  replace H := H.2
  refine A_iaddv (z := (a2 + 1)) d_Beams_find_14 (w32_to (by omega) (by unfold i32; omega)) ?_
  have g7 := H.1
  replace H := H.2
  refine A_ialoadf d_Beams_find_15 (hs_V_15 hb0 ha1) g7.1 g7.2 (fun x6 ex6 lx6 ux6 => ?_)
  replace H := H x6 ex6 lx6 ux6
  refine A_pc (pc' := 16) rfl ?_
  refine A_istore (L' := [some (av_R (some 146)), some (av_R (some a1)), some (av_I a2), some (av_I a3), some (av_I x2), some (av_I x6), none, none, none]) d_Beams_find_16 (Nat.le_of_ble_eq_true rfl) rfl ?_
  refine A_aload_n 1 d_Beams_find_18 rfl rfl ?_
  refine A_iload d_Beams_find_19 rfl ?_
  refine A_iload d_Beams_find_21 rfl ?_
  refine A_callS3 m_Beams_shortOnes d_Beams_find_23 l_Beams_30 k_Beams_shortOnes (by decide +kernel) (by decide) (Nat.le_of_ble_eq_true rfl) H (fun r h8 hq => ?_)
  clear H
  obtain ⟨z10, rfl, hb9, H⟩ := hq
  refine A_bipush d_Beams_find_26 rfl ?_
  refine A_icmp_le (tgt := 34) d_Beams_find_28 (by decide) (fun c => ?_) (fun c => ?_)
  · replace H := H.1 c
    refine A_aload_n 0 d_Beams_find_34 rfl rfl ?_
    refine A_iconst d_Beams_find_35 rfl ?_
    refine A_putI T_ok d_Beams_find_36 f_Beams_21 (hb_s hb9 sf_146) fin_f ?_
    refine A_hn (fun h11 eh11 => ?_)
    have hb12 := hb_i hb9 eh11
    replace H := H h11 eh11
    refine A_iconst d_Beams_find_39 rfl ?_
    refine A_istore (L' := [some (av_R (some 146)), some (av_R (some a1)), some (av_I a2), some (av_I a3), some (av_I x2), some (av_I x6), some (av_I 0), none, none]) d_Beams_find_40 (Nat.le_of_ble_eq_true rfl) rfl ?_
    refine A_pc (pc' := 42) rfl ?_
    refine A_iload d_Beams_find_42 rfl ?_
    refine A_istore (L' := [some (av_R (some 146)), some (av_R (some a1)), some (av_I a2), some (av_I a3), some (av_I x2), some (av_I x6), some (av_I 0), some (av_I x2), none]) d_Beams_find_44 (Nat.le_of_ble_eq_true rfl) rfl ?_
    refine A_iload d_Beams_find_46 rfl ?_
    refine A_istore (L' := [some (av_R (some 146)), some (av_R (some a1)), some (av_I a2), some (av_I a3), some (av_I x2), some (av_I x6), some (av_I 0), some (av_I x2), some (av_I x2)]) d_Beams_find_48 (Nat.le_of_ble_eq_true rfl) rfl ?_
    refine A_pc (pc' := 50) rfl ?_
    refine A_free (L' := [some (av_R (some 146)), some (av_R (some a1)), some (av_I a2), some (av_I a3), none, some (av_I x6), some (av_I 0), some (av_I x2), some (av_I x2)]) (And.intro rfl (And.intro rfl (And.intro rfl (And.intro rfl (And.intro rfl (And.intro rfl (And.intro rfl (And.intro rfl trivial)))))))) ?_
    exact hX50 (x6) (0) (x2) (x2) h11  hb12 H
  · replace H := H.2 c
    refine A_bipush d_Beams_find_31 rfl ?_
    exact A_iret d_Beams_find_33 (by decide) rfl H
theorem c_Beams_find {G : cx_T} {s : Nat} {a1 : Nat} {a2 : Int} {a3 : Int} (ha1 : isV a1) {h : ah_T} {Q : Option av_T → ah_T → Prop} {X50 : Int → Int → Int → Int → ah_T → Prop} (hX50 : ∀ (v5 : Int) (v6 : Int) (v7 : Int) (v8 : Int) (h : ah_T), hb s h → X50 v5 v6 v7 v8 h → aw G (rm_R 4 0 0) m_Beams_find 0 0 50 [some (av_R (some 146)), some (av_R (some a1)), some (av_I a2), some (av_I a3), none, some (av_I v5), some (av_I v6), some (av_I v7), some (av_I v8)] [] h Q) (hb0 : hb s h) (H : i32 a2 → i32 a3 → B_Beams_find_0 G s a1 a2 a3 h Q X50) : con G 4 0 0 m_Beams_find [av_R (some 146), av_R (some a1), av_I a2, av_I a3] h Q := by
  have hS : isS s := hb0.2.1
  refine con_of (L := [some (av_R (some 146)), some (av_R (some a1)), some (av_I a2), some (av_I a3), none, none, none, none, none]) (by decide +kernel) (Nat.le_of_ble_eq_true rfl) rfl ?_
  refine A_locI 2 rfl (fun ra2 => ?_)
  refine A_locI 3 rfl (fun ra3 => ?_)
  exact b_Beams_find_0 ha1 hX50 hb0 (H ra2 ra3)
def B_Beams_eventsIn_31 (G : cx_T) (s : Nat) (a1 : Int) (t0 : Int) (h : ah_T) (Q : Option av_T → ah_T → Prop) : Prop :=
 Q (some (av_I t0)) h
theorem b_Beams_eventsIn_31 {G : cx_T} {s : Nat} {a1 : Int} {t0 : Int} {h : ah_T} {Q : Option av_T → ah_T → Prop} (hb0 : hb s h) (H : B_Beams_eventsIn_31 G s a1 t0 h Q ) : aw G (rm_R 0 0 0) m_Beams_eventsIn 0 0 31 [none, none] [av_I t0] h Q := by
  unfold B_Beams_eventsIn_31 at H
  have hS : isS s := hb0.2.1
  exact A_iret d_Beams_eventsIn_31 (by decide) rfl H
def B_Beams_eventsIn_30 (G : cx_T) (s : Nat) (a1 : Int) (h : ah_T) (Q : Option av_T → ah_T → Prop) : Prop :=
 B_Beams_eventsIn_31 G s a1 (0) h Q 
theorem b_Beams_eventsIn_30 {G : cx_T} {s : Nat} {a1 : Int} {h : ah_T} {Q : Option av_T → ah_T → Prop} (hb0 : hb s h) (H : B_Beams_eventsIn_30 G s a1 h Q ) : aw G (rm_R 0 0 0) m_Beams_eventsIn 0 0 30 [none, none] [] h Q := by
  unfold B_Beams_eventsIn_30 at H
  have hS : isS s := hb0.2.1
  refine A_iconst d_Beams_eventsIn_30 rfl ?_
  refine A_pc (pc' := 31) rfl ?_
  exact b_Beams_eventsIn_31    hb0 H
def B_Beams_eventsIn_0 (G : cx_T) (s : Nat) (a1 : Int) (h : ah_T) (Q : Option av_T → ah_T → Prop) : Prop :=
 ((a1 < 0 → B_Beams_eventsIn_30 G s a1 h Q ) ∧ (¬ a1 < 0 → ∀ x1 : Int, x1 = h.2.1 146 1 → -2147483648 ≤ x1 → x1 ≤ 2147483647 → ((x1 ≤ a1 → B_Beams_eventsIn_30 G s a1 h Q ) ∧ (¬ x1 ≤ a1 → ((14 ≤ a1 → B_Beams_eventsIn_30 G s a1 h Q ) ∧ (¬ 14 ≤ a1 → (0 ≤ a1 ∧ a1 < 14) ∧ ∀ x4 : Int, x4 = h.2.1 147 (a1).toNat → -2147483648 ≤ x4 → x4 ≤ 2147483647 → B_Beams_eventsIn_31 G s a1 (x4) h Q ))))))
theorem b_Beams_eventsIn_0 {G : cx_T} {s : Nat} {a1 : Int} {h : ah_T} {Q : Option av_T → ah_T → Prop} (hb0 : hb s h) (H : B_Beams_eventsIn_0 G s a1 h Q ) : aw G (rm_R 0 0 0) m_Beams_eventsIn 0 0 0 [some (av_R (some 146)), some (av_I a1)] [] h Q := by
  unfold B_Beams_eventsIn_0 at H
  have hS : isS s := hb0.2.1
  refine A_iload_n 1 d_Beams_eventsIn_0 rfl rfl ?_
  refine A_if_lt (tgt := 30) d_Beams_eventsIn_1 (by decide) (fun c => ?_) (fun c => ?_)
  · replace H := H.1 c
    refine A_pc (pc' := 30) rfl ?_
    refine A_free (L' := [none, none]) trivial ?_
    exact b_Beams_eventsIn_30    hb0 H
  · replace H := H.2 c
    refine A_iload_n 1 d_Beams_eventsIn_4 rfl rfl ?_
    refine A_aload_n 0 d_Beams_eventsIn_5 rfl rfl ?_
    refine A_getIf T_ok d_Beams_eventsIn_6 f_Beams_21 (hb_s hb0 sf_146) (fun x1 ex1 lx1 ux1 => ?_)
    replace H := H x1 ex1 lx1 ux1
    refine A_icmp_ge (tgt := 30) d_Beams_eventsIn_9 (by decide) (fun c => ?_) (fun c => ?_)
    · replace H := H.1 c
      refine A_pc (pc' := 30) rfl ?_
      refine A_free (L' := [none, none]) trivial ?_
      exact b_Beams_eventsIn_30    hb0 H
    · replace H := H.2 c
      refine A_iload_n 1 d_Beams_eventsIn_12 rfl rfl ?_
      refine A_aload_n 0 d_Beams_eventsIn_13 rfl rfl ?_
      refine A_getAv (z := some 147) T_ok d_Beams_eventsIn_14 f_Beams_11 (hb_s hb0 sf_146) (hb_r hb0 rff_146_0) ?_
      refine A_alenN d_Beams_eventsIn_17 (hb_s hb0 sf_147) (by decide) (by decide) ?_
      refine A_icmp_ge (tgt := 30) d_Beams_eventsIn_18 (by decide) (fun c => ?_) (fun c => ?_)
      · replace H := H.1 c
        refine A_pc (pc' := 30) rfl ?_
        refine A_free (L' := [none, none]) trivial ?_
        exact b_Beams_eventsIn_30    hb0 H
      · replace H := H.2 c
        refine A_aload_n 0 d_Beams_eventsIn_21 rfl rfl ?_
        refine A_getAv (z := some 147) T_ok d_Beams_eventsIn_22 f_Beams_11 (hb_s hb0 sf_146) (hb_r hb0 rff_146_0) ?_
        refine A_iload_n 1 d_Beams_eventsIn_25 rfl rfl ?_
        have g5 := H.1
        replace H := H.2
        refine A_ialoadf d_Beams_eventsIn_26 (hb_s hb0 sf_147) g5.1 g5.2 (fun x4 ex4 lx4 ux4 => ?_)
        replace H := H x4 ex4 lx4 ux4
        refine A_goto (tgt := 31) d_Beams_eventsIn_27 (by decide) ?_
        refine A_pc (pc' := 31) rfl ?_
        refine A_free (L' := [none, none]) trivial ?_
        exact b_Beams_eventsIn_31    hb0 H
theorem c_Beams_eventsIn {G : cx_T} {s : Nat} {a1 : Int} {h : ah_T} {Q : Option av_T → ah_T → Prop} (hb0 : hb s h) (H : i32 a1 → B_Beams_eventsIn_0 G s a1 h Q ) : con G 0 0 0 m_Beams_eventsIn [av_R (some 146), av_I a1] h Q := by
  have hS : isS s := hb0.2.1
  refine con_of (L := [some (av_R (some 146)), some (av_I a1)]) (by decide +kernel) (Nat.le_of_ble_eq_true rfl) rfl ?_
  refine A_locI 1 rfl (fun ra1 => ?_)
  exact b_Beams_eventsIn_0   hb0 (H ra1)
def B_PM_beam_25 (G : cx_T) (s : Nat) (a1 : Int) (a2 : Int) (h : ah_T) (Q : Option av_T → ah_T → Prop) : Prop :=
 Q (some (av_I (-1))) h
theorem b_PM_beam_25 {G : cx_T} {s : Nat} {a1 : Int} {a2 : Int} {h : ah_T} {Q : Option av_T → ah_T → Prop} (hb0 : hb s h) (H : B_PM_beam_25 G s a1 a2 h Q ) : aw G (rm_R 5 0 0) m_PM_beam 0 0 25 [none, none, none, none] [] h Q := by
  unfold B_PM_beam_25 at H
  have hS : isS s := hb0.2.1
  refine A_iconst d_PM_beam_25 rfl ?_
  exact A_iret d_PM_beam_26 (by decide) rfl H
def B_PM_beam_0 (G : cx_T) (s : Nat) (a1 : Int) (a2 : Int) (h : ah_T) (Q : Option av_T → ah_T → Prop) : Prop :=
 con G 0 0 0 m_Score_voiceAt [av_R (some (97 - s)), av_I a1] h (fun r h2 => ∃ oz4 : Option Nat, r = some (av_R oz4) ∧ hb s h2 ∧ ((oz4 = none ∧ B_PM_beam_25 G s a1 a2 h2 Q ) ∨ ∃ z4 : Nat, oz4 = some z4 ∧ isV z4 ∧ ((a2 < 0 → B_PM_beam_25 G s a1 a2 h2 Q ) ∧ (¬ a2 < 0 → ∀ x5 : Int, x5 = h2.2.1 z4 16 → -2147483648 ≤ x5 → x5 ≤ 2147483647 → ((a2 < x5 → ∀ x8 : Int, x8 = h2.2.1 (97 - s) 3 → -2147483648 ≤ x8 → x8 ≤ 2147483647 → con G 4 0 0 m_Beams_find [av_R (some 146), av_R (some z4), av_I a2, av_I x8] h2 (fun r h9 => ∃ z11 : Int, r = some (av_I z11) ∧ hb s h9 ∧ Q (some (av_I z11)) h9)) ∧ (¬ a2 < x5 → B_PM_beam_25 G s a1 a2 h2 Q ))))))
theorem b_PM_beam_0 {G : cx_T} {s : Nat} {a1 : Int} {a2 : Int} {h : ah_T} {Q : Option av_T → ah_T → Prop} (hb0 : hb s h) (H : B_PM_beam_0 G s a1 a2 h Q ) : aw G (rm_R 5 0 0) m_PM_beam 0 0 0 [some (av_R (some 0)), some (av_I a1), some (av_I a2), none] [] h Q := by
  unfold B_PM_beam_0 at H
  have hS : isS s := hb0.2.1
  refine A_aload_n 0 d_PM_beam_0 rfl rfl ?_
  refine A_getOv (z := some (97 - s)) T_ok d_PM_beam_1 f_PM_27 (hb_s hb0 sf_0) hb0.2.2.1 ?_
  refine A_iload_n 1 d_PM_beam_4 rfl rfl ?_
  refine A_callV1 m_Score_voiceAt T_ok d_PM_beam_5 l_PM_125 k_Score_voiceAt (hs_S hb0 (isS_o hS)) rfl (by decide +kernel) (by decide) (Nat.le_of_ble_eq_true rfl) H (fun r h2 hq => ?_)
  clear H
  obtain ⟨oz4, rfl, hb3, H⟩ := hq
  rcases H with ⟨H1, H⟩ | ⟨z4, H1, tz4, H⟩
  · subst H1
    refine A_astore_n 3 (L' := [some (av_R (some 0)), some (av_I a1), some (av_I a2), some (av_R none)]) d_PM_beam_8 rfl (Nat.le_of_ble_eq_true rfl) rfl ?_
    refine A_aload_n 3 d_PM_beam_9 rfl rfl ?_
    refine A_ifnull (tgt := 25) d_PM_beam_10 (by decide) (fun _ => ?_) (fun a q => by cases q)
    refine A_pc (pc' := 25) rfl ?_
    refine A_free (L' := [none, none, none, none]) trivial ?_
    exact b_PM_beam_25    hb3 H
  · subst H1
    refine A_astore_n 3 (L' := [some (av_R (some 0)), some (av_I a1), some (av_I a2), some (av_R (some z4))]) d_PM_beam_8 rfl (Nat.le_of_ble_eq_true rfl) rfl ?_
    refine A_aload_n 3 d_PM_beam_9 rfl rfl ?_
    refine A_ifnull (tgt := 25) d_PM_beam_10 (by decide) (fun q => by cases q) (fun _ _ => ?_)
    refine A_iload_n 2 d_PM_beam_13 rfl rfl ?_
    refine A_if_lt (tgt := 25) d_PM_beam_14 (by decide) (fun c => ?_) (fun c => ?_)
    · replace H := H.1 c
      refine A_pc (pc' := 25) rfl ?_
      refine A_free (L' := [none, none, none, none]) trivial ?_
      exact b_PM_beam_25    hb3 H
    · replace H := H.2 c
      refine A_iload_n 2 d_PM_beam_17 rfl rfl ?_
      refine A_aload_n 3 d_PM_beam_18 rfl rfl ?_
      refine A_getIf T_ok d_PM_beam_19 f_PM_134 (hs_V hb3 tz4) (fun x5 ex5 lx5 ux5 => ?_)
      replace H := H x5 ex5 lx5 ux5
      refine A_icmp_lt (tgt := 27) d_PM_beam_22 (by decide) (fun c => ?_) (fun c => ?_)
      · replace H := H.1 c
        refine A_aload_n 0 d_PM_beam_27 rfl rfl ?_
        refine A_getOv (z := some 146) T_ok d_PM_beam_28 f_PM_44 (hb_s hb3 sf_0) (hb_r hb3 rff_0_6) ?_
        refine A_aload_n 3 d_PM_beam_31 rfl rfl ?_
        refine A_iload_n 2 d_PM_beam_32 rfl rfl ?_
        refine A_aload_n 0 d_PM_beam_33 rfl rfl ?_
        refine A_pc (pc' := 34) rfl ?_
        refine A_getOv (z := some (97 - s)) T_ok d_PM_beam_34 f_PM_27 (hb_s hb3 sf_0) hb3.2.2.1 ?_
        refine A_getIf T_ok d_PM_beam_37 f_PM_122 (hs_S hb3 (isS_o hS)) (fun x8 ex8 lx8 ux8 => ?_)
        replace H := H x8 ex8 lx8 ux8
        refine A_callV3 m_Beams_find T_ok d_PM_beam_40 l_PM_164 k_Beams_find (hb_s hb3 sf_146) rfl (by decide +kernel) (by decide) (Nat.le_of_ble_eq_true rfl) H (fun r h9 hq => ?_)
        clear H
        obtain ⟨z11, rfl, hb10, H⟩ := hq
        exact A_iret d_PM_beam_43 (by decide) rfl H
      · replace H := H.2 c
        refine A_pc (pc' := 25) rfl ?_
        refine A_free (L' := [none, none, none, none]) trivial ?_
        exact b_PM_beam_25    hb3 H
theorem c_PM_beam {G : cx_T} {s : Nat} {a1 : Int} {a2 : Int} {h : ah_T} {Q : Option av_T → ah_T → Prop} (hb0 : hb s h) (H : i32 a1 → i32 a2 → B_PM_beam_0 G s a1 a2 h Q ) : con G 5 0 0 m_PM_beam [av_R (some 0), av_I a1, av_I a2] h Q := by
  have hS : isS s := hb0.2.1
  refine con_of (L := [some (av_R (some 0)), some (av_I a1), some (av_I a2), none]) (by decide +kernel) (Nat.le_of_ble_eq_true rfl) rfl ?_
  refine A_locI 1 rfl (fun ra1 => ?_)
  refine A_locI 2 rfl (fun ra2 => ?_)
  exact b_PM_beam_0   hb0 (H ra1 ra2)
def B_PM_group_0 (G : cx_T) (s : Nat) (a1 : Int) (h : ah_T) (Q : Option av_T → ah_T → Prop) : Prop :=
 con G 0 0 0 m_Beams_eventsIn [av_R (some 146), av_I a1] h (fun r h2 => ∃ z4 : Int, r = some (av_I z4) ∧ hb s h2 ∧ Q (some (av_I z4)) h2)
theorem b_PM_group_0 {G : cx_T} {s : Nat} {a1 : Int} {h : ah_T} {Q : Option av_T → ah_T → Prop} (hb0 : hb s h) (H : B_PM_group_0 G s a1 h Q ) : aw G (rm_R 1 0 0) m_PM_group 0 0 0 [some (av_R (some 0)), some (av_I a1)] [] h Q := by
  unfold B_PM_group_0 at H
  have hS : isS s := hb0.2.1
  refine A_aload_n 0 d_PM_group_0 rfl rfl ?_
  refine A_getOv (z := some 146) T_ok d_PM_group_1 f_PM_44 (hb_s hb0 sf_0) (hb_r hb0 rff_0_6) ?_
  refine A_iload_n 1 d_PM_group_4 rfl rfl ?_
  refine A_callV1 m_Beams_eventsIn T_ok d_PM_group_5 l_PM_168 k_Beams_eventsIn (hb_s hb0 sf_146) rfl (by decide +kernel) (by decide) (Nat.le_of_ble_eq_true rfl) H (fun r h2 hq => ?_)
  clear H
  obtain ⟨z4, rfl, hb3, H⟩ := hq
  exact A_iret d_PM_group_8 (by decide) rfl H
theorem c_PM_group {G : cx_T} {s : Nat} {a1 : Int} {h : ah_T} {Q : Option av_T → ah_T → Prop} (hb0 : hb s h) (H : i32 a1 → B_PM_group_0 G s a1 h Q ) : con G 1 0 0 m_PM_group [av_R (some 0), av_I a1] h Q := by
  have hS : isS s := hb0.2.1
  refine con_of (L := [some (av_R (some 0)), some (av_I a1)]) (by decide +kernel) (Nat.le_of_ble_eq_true rfl) rfl ?_
  refine A_locI 1 rfl (fun ra1 => ?_)
  exact b_PM_group_0   hb0 (H ra1)

/-! ===== beam, the class: one event ===== -/
abbrev nmb (μ : pm_T) (n e : Nat) : Int := μ (100 + 40 * n + 7) e
abbrev sp0 (μ : pm_T) (n e : Nat) : Int := μ (100 + 40 * n + (20 + 0)) e
def Shr (μ : pm_T) (n e : Nat) : Prop := 1 ≤ pt μ n e ∧ 8 ≤ nmb μ n e
def xBr (μ : pm_T) (n f e : Nat) : Int := smT μ n e * smB μ n f - smT μ n f * smB μ n e
def yBr (μ : pm_T) (n f e : Nat) : Int := smB μ n e * smB μ n f
def absI (d : Int) : Int := if 0 ≤ d then d else -d
def jnC (μ : pm_T) (n f e : Nat) : Int := (if xBr μ n f e * μ 0 2 % yBr μ n f e = 0 then 2 else 0) + (if nmb μ n e = nmb μ n (e - 1) then 0 else 1) + (if 0 < absI (sp0 μ n e - sp0 μ n (e - 1)) - 4 then absI (sp0 μ n e - sp0 μ n (e - 1)) - 4 else 0)
theorem xy_b {μ : pm_T} (GG : GM μ) {n f e : Nat} (hn : (n : Int) < μ 0 7) (hf : f ≤ e) (he : (e : Int) ≤ μ (10 + n) 0) : (0 ≤ xBr μ n f e ∧ xBr μ n f e ≤ 1000000000000000) ∧ 1 ≤ yBr μ n f e ∧ yBr μ n f e ≤ 1000000000000 := by
  have b0 := GM_b GG hn f
  have b1 := GM_b GG hn e
  have p1 := pr_b b1.1 b1.2 b0.2
  have p2 := pr_b b0.1 b0.2 b1.2
  have m := GM_m GG hn (i := f) e hf he
  unfold SE at m
  unfold xBr yBr
  have h1 := Int.mul_le_mul b1.2.1 b0.2.1 (by omega) (by omega)
  have h2 : smB μ n e * smB μ n f ≤ 1000000 * 1000000 := Int.mul_le_mul b1.2.2 b0.2.2 (by omega) (by omega)
  omega
theorem sp_b {μ : pm_T} (GG : GM μ) {n e : Nat} (hn : (n : Int) < μ 0 7) (he : (e : Int) < μ (10 + n) 0) (hp : 1 ≤ pt μ n e) : 0 ≤ sp0 μ n e ∧ sp0 μ n e ≤ 62 :=
  (((GG.2.2 n hn).2.2.2.1 e he).2.2.2.2.2.2.1 0 (by unfold pt at hp; omega)).2
theorem jnC_b {μ : pm_T} (GG : GM μ) {n f e : Nat} (hn : (n : Int) < μ 0 7) (he : (e : Int) < μ (10 + n) 0) (h1 : 1 ≤ pt μ n e) (h2 : 1 ≤ pt μ n (e - 1)) : 0 ≤ jnC μ n f e ∧ jnC μ n f e ≤ 61 := by
  have a := sp_b GG hn he h1
  have b := sp_b GG hn (e := e - 1) (by omega) h2
  unfold jnC absI
  split <;> split <;> split <;> split <;> omega
section
variable {G : cx_T} {s c n e : Nat} {h : ah_T} {μ : pm_T}
theorem j_short (hb0 : hb s h) (H : CV μ c h) (hn : (n : Int) < μ 0 7) (he : (e : Int) < μ (10 + n) 0) : con G 2 0 0 m_Voice_isShort [av_R (some (c + 7 + 14 * n)), av_I (e : Int)] h (fun r h' => ∃ z : Int, r = some (av_I z) ∧ hb s h' ∧ h' = h ∧ ((z = 0 ∧ ¬ Shr μ n e) ∨ (z = 1 ∧ Shr μ n e))) := by
  have E := CV_e H hn he
  refine c_Voice_isShort E.1 hb0 (fun _ => ?_)
  unfold B_Voice_isShort_0 B_Voice_isShort_22 B_Voice_isShort_23
  refine con_mono (j_isRest hb0 H hn he) ?_
  rintro r h2 ⟨z, rfl, hb2, rfl, z1⟩
  refine ⟨z, rfl, hb2, fun q => ?_, fun q => ⟨Or.inl rfl, 0, rfl, hb2, rfl, Or.inl ⟨rfl, fun w => q (z1.mpr w.1)⟩⟩⟩
  refine con_mono (t_Voice_numberOf hb2 E) ?_
  rintro r h3 ⟨hb3, rfl, rfl⟩
  refine ⟨_, rfl, hb3, fun q2 => ⟨Or.inl rfl, 0, rfl, hb3, rfl, Or.inl ⟨rfl, fun w => by have := w.2; unfold nmb at this; omega⟩⟩, fun q2 => ⟨Or.inr rfl, 1, rfl, hb3, rfl, Or.inr ⟨rfl, z1.mp q, by unfold nmb; omega⟩⟩⟩
theorem j_sinceT {b : Nat} (hb0 : hb s h) (H : CV μ c h) (hn : (n : Int) < μ 0 7) (hb1 : (b : Int) < μ (10 + n) 1) (hf : brE μ n b ≤ e) (he : (e : Int) ≤ μ (10 + n) 0) : con G 0 0 0 m_Voice_sinceBarTop [av_R (some (c + 7 + 14 * n)), av_I (b : Int), av_I (e : Int)] h (fun r h' => r = some (av_L (xBr μ n (brE μ n b) e)) ∧ hb s h' ∧ h' = h) := by
  obtain ⟨hv, -, -, hE, hB, -⟩ := CV_v H hn
  have GG := H.2.2.1
  have f0 := CV_b H hn (b := b) (Int.le_of_lt hb1)
  obtain ⟨t1, t2⟩ := CV_t H hn (brE_b GG (b := b) hn)
  obtain ⟨t3, t4⟩ := CV_t H hn he
  have e0 := brE_b GG (b := b) hn
  have b0 := GM_b GG hn (brE μ n b)
  have b1 := GM_b GG hn e
  have p1 := pr_b b1.1 b1.2 b0.2
  have p2 := pr_b b0.1 b0.2 b1.2
  unfold xBr
  generalize brE μ n b = i at *
  refine c_Voice_sinceBarTop hv hb0 (fun _ _ => ?_)
  unfold B_Voice_sinceBarTop_0
  refine ⟨by omega, ?_⟩
  rw [tn_c, tn_c]
  intro x2 e2 _ _
  obtain rfl := e2.trans f0
  refine ⟨by omega, fun x5 e5 _ _ => ⟨by omega, ?_⟩⟩
  rw [tn_c]
  intro x8 e8 _ _ x10 e10
  obtain rfl := e5.trans t3
  obtain rfl := e8.trans t2
  refine ⟨by omega, fun x13 e13 _ _ x15 e15 _ _ x16 e16 => ?_⟩
  obtain rfl := e13.trans t1
  obtain rfl := e15.trans t4
  refine ⟨by omega, by omega, ?_, hb0, rfl⟩
  rw [e10, e16]
theorem j_sinceB {b : Nat} (hb0 : hb s h) (H : CV μ c h) (hn : (n : Int) < μ 0 7) (hb1 : (b : Int) < μ (10 + n) 1) (hf : brE μ n b ≤ e) (he : (e : Int) ≤ μ (10 + n) 0) : con G 0 0 0 m_Voice_sinceBarBottom [av_R (some (c + 7 + 14 * n)), av_I (b : Int), av_I (e : Int)] h (fun r h' => r = some (av_L (yBr μ n (brE μ n b) e)) ∧ hb s h' ∧ h' = h) := by
  obtain ⟨hv, -, -, hE, hB, -⟩ := CV_v H hn
  have GG := H.2.2.1
  have f0 := CV_b H hn (b := b) (Int.le_of_lt hb1)
  obtain ⟨t1, t2⟩ := CV_t H hn (brE_b GG (b := b) hn)
  obtain ⟨t3, t4⟩ := CV_t H hn he
  have e0 := brE_b GG (b := b) hn
  have xy := (xy_b GG hn hf he).2
  unfold yBr at xy ⊢
  generalize brE μ n b = i at *
  refine c_Voice_sinceBarBottom hv hb0 (fun _ _ => ?_)
  unfold B_Voice_sinceBarBottom_0
  refine ⟨by omega, ?_⟩
  rw [tn_c, tn_c]
  intro x2 e2 _ _
  obtain rfl := e2.trans t4
  refine ⟨by omega, fun x6 e6 _ _ => ?_⟩
  obtain rfl := e6.trans f0
  refine ⟨by omega, ?_⟩
  rw [tn_c]
  intro x8 e8 _ _ x10 e10
  obtain rfl := e8.trans t2
  refine ⟨by omega, ?_, hb0, rfl⟩
  rw [e10]
theorem j_join {b : Nat} (hb0 : hb s h) (H : CV μ c h) (hn : (n : Int) < μ 0 7) (hb1 : (b : Int) < μ (10 + n) 1) (hf : brE μ n b < e) (he : (e : Int) < μ (10 + n) 0) (hp1 : 1 ≤ pt μ n e) (hp2 : 1 ≤ pt μ n (e - 1)) : con G 1 0 0 m_Beams_joinCost [av_R (some (c + 7 + 14 * n)), av_I (b : Int), av_I (e : Int), av_I (μ 0 2)] h (fun r h' => r = some (av_I (jnC μ n (brE μ n b) e)) ∧ hb s h' ∧ h' = h) := by
  have GG := H.2.2.1
  have E := CV_e H hn he
  have he1 : ((e - 1 : Nat) : Int) < μ (10 + n) 0 := by omega
  have E1 := CV_e H hn he1
  have a := sp_b GG hn he hp1
  have b' := sp_b GG hn he1 hp2
  have T := GG.2.1
  obtain ⟨-, -, -, hE, -⟩ := CV_v H hn
  have xy := xy_b GG hn (Nat.le_of_lt hf) (Int.le_of_lt he)
  have tail : ∀ (v4 : Int) {h1 : ah_T}, hb s h1 → h1 = h → 0 ≤ v4 → v4 ≤ 3 → v4 + (if 0 < absI (sp0 μ n e - sp0 μ n (e - 1)) - 4 then absI (sp0 μ n e - sp0 μ n (e - 1)) - 4 else 0) = jnC μ n (brE μ n b) e → B_Beams_joinCost_56 G s (c + 7 + 14 * n) (b : Int) (e : Int) (μ 0 2) v4 h1 (fun r h' => r = some (av_I (jnC μ n (brE μ n b) e)) ∧ hb s h' ∧ h' = h) := by
    rintro v4 h1 hb1' rfl q1 q2 eq
    unfold B_Beams_joinCost_56
    refine con_mono (t_Voice_stepOf hb1' E (p := 0) (by unfold pt at hp1; omega)) ?_
    rintro r h5 ⟨hb5, rfl, rfl⟩
    refine ⟨_, rfl, hb5, ⟨by omega, by omega⟩, ?_⟩
    rw [show (e : Int) - 1 = ((e - 1 : Nat) : Int) by omega]
    refine con_mono (t_Voice_stepOf hb5 E1 (p := 0) (by unfold pt at hp2; omega)) ?_
    rintro r h6 ⟨hb6, rfl, rfl⟩
    have ab : ∀ x9 : Int, x9 = (if 0 ≤ (μ (100 + 40 * n + (20 + 0)) e - μ (100 + 40 * n + (20 + 0)) (e - 1)) then (μ (100 + 40 * n + (20 + 0)) e - μ (100 + 40 * n + (20 + 0)) (e - 1)) else w32 (0 - (μ (100 + 40 * n + (20 + 0)) e - μ (100 + 40 * n + (20 + 0)) (e - 1)))) → x9 = absI (sp0 μ n e - sp0 μ n (e - 1)) := by
      intro x9 e9
      rw [e9]
      unfold absI sp0
      split
      · rfl
      · rw [w32_id (by unfold i32; unfold sp0 at a b'; omega)]; omega
    refine ⟨_, rfl, hb6, by unfold sp0 at a b'; omega, fun x9 e9 _ _ => ?_⟩
    have e9' := ab x9 e9
    subst e9'
    have bb : 0 ≤ absI (sp0 μ n e - sp0 μ n (e - 1)) ∧ absI (sp0 μ n e - sp0 μ n (e - 1)) ≤ 62 := by unfold absI; split <;> omega
    refine ⟨by omega, fun x11 e11 _ _ => ?_⟩
    rw [e11, eq]
    have jb := jnC_b GG (f := brE μ n b) hn he hp1 hp2
    exact ⟨by omega, rfl, hb6, rfl⟩
  have mid : ∀ (v4 : Int) {h1 : ah_T}, hb s h1 → h1 = h → v4 = (if xBr μ n (brE μ n b) e * μ 0 2 % yBr μ n (brE μ n b) e = 0 then 2 else 0) → B_Beams_joinCost_38 G s (c + 7 + 14 * n) (b : Int) (e : Int) (μ 0 2) v4 h1 (fun r h' => r = some (av_I (jnC μ n (brE μ n b) e)) ∧ hb s h' ∧ h' = h) := by
    rintro v4 h1 hb1' rfl eq
    have v4b : v4 = 0 ∨ v4 = 2 := by
      rw [eq]
      split
      · exact Or.inr rfl
      · exact Or.inl rfl
    unfold B_Beams_joinCost_38
    refine con_mono (t_Voice_numberOf hb1' E) ?_
    rintro r h5 ⟨hb5, rfl, rfl⟩
    refine ⟨_, rfl, hb5, ⟨by omega, by omega⟩, ?_⟩
    rw [show (e : Int) - 1 = ((e - 1 : Nat) : Int) by omega]
    refine con_mono (t_Voice_numberOf hb5 E1) ?_
    rintro r h6 ⟨hb6, rfl, rfl⟩
    refine ⟨_, rfl, hb6, fun q => tail v4 hb6 rfl (by omega) (by omega) ?_, fun q => ⟨by omega, tail (v4 + 1) hb6 rfl (by omega) (by omega) ?_⟩⟩
    · unfold jnC
      rw [← eq, if_pos (show nmb μ n e = nmb μ n (e - 1) from q)]
      omega
    · unfold jnC
      rw [← eq, if_neg (show ¬ nmb μ n e = nmb μ n (e - 1) from q)]
  have hv := E.1
  refine c_Beams_joinCost hv hb0 (fun _ _ _ => ?_)
  unfold B_Beams_joinCost_0
  refine con_mono (j_sinceB hb0 H hn hb1 (Nat.le_of_lt hf) (Int.le_of_lt he)) ?_
  rintro r h3 ⟨rfl, hb3, rfl⟩
  refine ⟨_, rfl, hb3, fun q => by omega, fun q => ?_⟩
  refine con_mono (j_sinceT hb3 H hn hb1 (Nat.le_of_lt hf) (Int.le_of_lt he)) ?_
  rintro r h4 ⟨rfl, hb4, rfl⟩
  have p : 0 ≤ xBr μ n (brE μ n b) e * μ 0 2 ∧ xBr μ n (brE μ n b) e * μ 0 2 ≤ 1000000000000000 * 32 := ⟨Int.mul_nonneg xy.1.1 (by have := T.2.1; omega), Int.mul_le_mul xy.1.2 T.2.1.2 (by have := T.2.1; omega) (by omega)⟩
  refine ⟨_, rfl, hb4, fun x8 e8 => ⟨by omega, by omega, fun x10 e10 _ _ => ?_⟩⟩
  rw [e8, Int.tmod_eq_emod_of_nonneg p.1] at e10
  refine ⟨fun q2 => mid 2 hb4 rfl ?_, fun q2 => mid 0 hb4 rfl ?_⟩
  · rw [if_pos (by omega)]
  · rw [if_neg (by omega)]
end

/-! ===== beam: THE BEST GROUPS of a run, a spec of our own ===== -/
/-- the cost of one GROUP of k events from a on -/
def togC (jc : Nat → Int) (a : Nat) : Nat → Int
  | 0 => 1
  | k + 1 => togC jc a k + jc (a + k + 1)
/-- the best over sizes 1 .. k + 1, of what stands behind W tells -/
def innC (jc : Nat → Int) (W : Nat → Int) (a r : Nat) : Nat → Int × Int
  | 0 => (3 + W (r - 1), 1)
  | k + 1 => if k + 2 ≤ r ∧ togC jc a (k + 1) + W (r - (k + 2)) ≤ (innC jc W a r k).1 then (togC jc a (k + 1) + W (r - (k + 2)), ((k + 2 : Nat) : Int)) else innC jc W a r k
/-- the least cost of the last r events up to z, and the size taken first -/
def tabC (jc : Nat → Int) (z : Nat) : Nat → Nat → Int × Int
  | 0 => fun _ => (0, 1)
  | r + 1 => up1 (tabC jc z r) (r + 1) (innC jc (fun k => (tabC jc z r k).1) (z - (r + 1)) (r + 1) 5)
def leaC (jc : Nat → Int) (z r : Nat) : Int := (tabC jc z r r).1
def takC (jc : Nat → Int) (z r : Nat) : Int := (tabC jc z r r).2
theorem tabC_k {jc : Nat → Int} {z k : Nat} : ∀ r : Nat, k ≤ r → tabC jc z r k = tabC jc z k k
  | 0, h => by
    have : k = 0 := by omega
    subst this; rfl
  | r + 1, h => by
    by_cases c : k = r + 1
    · subst c; rfl
    · have ih := tabC_k (jc := jc) (z := z) (k := k) r (by omega)
      show up1 (tabC jc z r) (r + 1) _ k = _
      unfold up1
      rw [if_neg c]
      exact ih
theorem innC_W {jc W W' : Nat → Int} {a r : Nat} (hr : 1 ≤ r) (h : ∀ k, k < r → W k = W' k) : ∀ k, innC jc W a r k = innC jc W' a r k
  | 0 => by rw [innC, innC, h _ (by omega)]
  | k + 1 => by
    rw [innC, innC, innC_W hr h k]
    by_cases c : k + 2 ≤ r
    · rw [h _ (show r - (k + 2) < r by omega)]
    · rw [if_neg (fun w => c w.1), if_neg (fun w => c w.1)]
theorem tab_s {jc : Nat → Int} {z r : Nat} : tabC jc z (r + 1) (r + 1) = innC jc (leaC jc z) (z - (r + 1)) (r + 1) 5 := by
  show up1 (tabC jc z r) (r + 1) _ (r + 1) = _
  unfold up1
  rw [if_pos rfl]
  refine innC_W (by omega) (fun k hk => ?_) 5
  unfold leaC
  rw [tabC_k r (by omega)]
theorem innC_b {jc W : Nat → Int} {a r : Nat} (hr : 1 ≤ r) : ∀ k, 1 ≤ (innC jc W a r k).2 ∧ (innC jc W a r k).2 ≤ r ∧ (innC jc W a r k).2 ≤ (k : Int) + 1
  | 0 => by
    rw [innC]
    refine ⟨?_, ?_, ?_⟩ <;> dsimp only <;> omega
  | k + 1 => by
    have ih := innC_b (jc := jc) (W := W) (a := a) hr k
    rw [innC]
    split
    · rename_i c
      have := c.1
      refine ⟨?_, ?_, ?_⟩ <;> dsimp only <;> omega
    · omega
theorem takC_b {jc : Nat → Int} {z r : Nat} (hr : 1 ≤ r) : 1 ≤ takC jc z r ∧ takC jc z r ≤ r ∧ takC jc z r ≤ 6 := by
  obtain ⟨q, rfl⟩ : ∃ q, r = q + 1 := ⟨r - 1, by omega⟩
  unfold takC
  rw [tab_s]
  have := innC_b (jc := jc) (W := leaC jc z) (a := z - (q + 1)) (r := q + 1) (by omega) 5
  omega
/-- behind the last size that has room nothing changes -/
theorem innC_e {jc W : Nat → Int} {a r k : Nat} : ∀ m, k ≤ m → r < k + 2 → innC jc W a r m = innC jc W a r k
  | 0, h, _ => by
    have : k = 0 := by omega
    subst this; rfl
  | m + 1, h, h2 => by
    by_cases c : k = m + 1
    · subst c; rfl
    · rw [innC, if_neg (fun w => by have := w.1; omega)]
      exact innC_e m (by omega) h2
theorem togC_b {jc : Nat → Int} {a : Nat} {M : Nat} (h : ∀ k, k < M → 0 ≤ jc (a + k + 1) ∧ jc (a + k + 1) ≤ 61) : ∀ k, k ≤ M → 1 ≤ togC jc a k ∧ togC jc a k ≤ 1 + 61 * (k : Int)
  | 0, _ => by rw [togC]; omega
  | k + 1, hk => by
    have ih := togC_b h k (by omega)
    have := h k (by omega)
    rw [togC]
    omega
theorem innC_c {jc W : Nat → Int} {a r : Nat} (hr : 1 ≤ r) (hj : ∀ e, a < e → e < a + r → 0 ≤ jc e ∧ jc e ≤ 61) (hW : ∀ k, k < r → 0 ≤ W k ∧ W k ≤ 3 * (k : Int)) : ∀ k, 0 ≤ (innC jc W a r k).1 ∧ (innC jc W a r k).1 ≤ 3 * (r : Int)
  | 0 => by
    have := hW (r - 1) (by omega)
    rw [innC]
    dsimp only
    omega
  | k + 1 => by
    have ih := innC_c hr hj hW k
    rw [innC]
    split
    · rename_i c
      have t := togC_b (jc := jc) (a := a) (M := k + 1) (fun i hi => hj _ (by omega) (by omega)) (k + 1) (Nat.le_refl _)
      have := hW (r - (k + 2)) (by omega)
      dsimp only
      omega
    · exact ih
theorem leaC_b {jc : Nat → Int} {z r : Nat} (hr : r ≤ z) (hj : ∀ e, z - r < e → e < z → 0 ≤ jc e ∧ jc e ≤ 61) : ∀ k, k ≤ r → 0 ≤ leaC jc z k ∧ leaC jc z k ≤ 3 * (k : Int) := by
  intro k
  induction k using Nat.strongRecOn with
  | ind k ih =>
    intro hk
    cases k with
    | zero => exact ⟨Int.le_refl _, Int.le_refl _⟩
    | succ q =>
      unfold leaC
      rw [tab_s]
      exact innC_c (by omega) (fun e h1 h2 => hj e (by omega) (by omega)) (fun i hi => ih i (by omega) (by omega)) 5
/-- the GROUPS of the last r events up to z -/
def grpC (jc : Nat → Int) (z : Nat) : Nat → Nat → List Int
  | 0, _ => []
  | f + 1, r => if r = 0 then [] else takC jc z r :: grpC jc z f (r - (takC jc z r).toNat)
theorem grpC_f {jc : Nat → Int} {z : Nat} : ∀ (f g r : Nat), r ≤ f → r ≤ g → grpC jc z f r = grpC jc z g r
  | 0, g, r, h, _ => by
    have : r = 0 := by omega
    subst this
    cases g with
    | zero => rfl
    | succ g => rw [grpC, grpC, if_pos rfl]
  | f + 1, 0, r, _, h => by
    have : r = 0 := by omega
    subst this
    rw [grpC, grpC, if_pos rfl]
  | f + 1, g + 1, r, h, h2 => by
    rw [grpC, grpC]
    split
    · rfl
    · have b := takC_b (jc := jc) (z := z) (r := r) (by omega)
      rw [grpC_f f g _ (by omega) (by omega)]
theorem grpC_s {jc : Nat → Int} {z r : Nat} (hr : 1 ≤ r) : grpC jc z r r = takC jc z r :: grpC jc z (r - (takC jc z r).toNat) (r - (takC jc z r).toNat) := by
  obtain ⟨q, rfl⟩ : ∃ q, r = q + 1 := ⟨r - 1, by omega⟩
  have b := takC_b (jc := jc) (z := z) (r := q + 1) (by omega)
  rw [grpC, if_neg (by omega), grpC_f q _ _ (by omega) (Nat.le_refl _)]
theorem grpC_l {jc : Nat → Int} {z : Nat} : ∀ (f r : Nat), (grpC jc z f r).length ≤ r
  | 0, _ => Nat.zero_le _
  | f + 1, r => by
    rw [grpC]
    split
    · exact Nat.zero_le _
    · have b := takC_b (jc := jc) (z := z) (r := r) (by omega)
      have := grpC_l (jc := jc) (z := z) f (r - (takC jc z r).toNat)
      rw [List.length_cons]
      omega

/-! ===== beam: the runs of a BAR, a spec of our own ===== -/
noncomputable def dif {α : Type} (p : Prop) (a b : α) : α := @ite _ p (Classical.propDecidable p) a b
theorem dif_t {α : Type} {p : Prop} {a b : α} (h : p) : dif p a b = a := by unfold dif; exact if_pos h
theorem dif_f {α : Type} {p : Prop} {a b : α} (h : ¬ p) : dif p a b = b := by unfold dif; exact if_neg h
noncomputable def cntS (μ : pm_T) (n f : Nat) : Nat → Nat
  | 0 => 0
  | k + 1 => cntS μ n f k + dif (Shr μ n (f + k)) 1 0
/-- a run up to z is cut -/
noncomputable def cutC (μ : pm_T) (n f z : Nat) (q : Int × Nat × List Int) : Int × List Int := (q.1 + leaC (jnC μ n f) z (z - q.2.1), q.2.2 ++ grpC (jnC μ n f) z (z - q.2.1) (z - q.2.1))
noncomputable def csC (μ : pm_T) (n f : Nat) : Nat → Int × Nat × List Int
  | 0 => (0, f, [])
  | k + 1 => dif (Shr μ n (f + k)) (csC μ n f k) ((cutC μ n f (f + k) (csC μ n f k)).1, f + k + 1, (cutC μ n f (f + k) (csC μ n f k)).2)
theorem cntS_m {μ : pm_T} {n f : Nat} {k : Nat} : ∀ m, k ≤ m → cntS μ n f k ≤ cntS μ n f m
  | 0, h => by
    have : k = 0 := by omega
    subst this; exact Nat.le_refl _
  | m + 1, h => by
    by_cases c : k = m + 1
    · subst c; exact Nat.le_refl _
    · exact Nat.le_trans (cntS_m m (by omega)) (Nat.le_add_right _ _)
theorem cut_b {μ : pm_T} {n f z : Nat} {q : Int × Nat × List Int} (GG : GM μ) (hn : (n : Int) < μ 0 7) (hz : (z : Int) ≤ μ (10 + n) 0) (h1 : q.2.1 ≤ z) (hs : ∀ e, q.2.1 ≤ e → e < z → Shr μ n e) : (q.1 ≤ (cutC μ n f z q).1 ∧ (cutC μ n f z q).1 ≤ q.1 + 3 * ((z - q.2.1 : Nat) : Int)) ∧ (cutC μ n f z q).2.length ≤ q.2.2.length + (z - q.2.1) := by
  have lb := leaC_b (jc := jnC μ n f) (z := z) (r := z - q.2.1) (by omega) (fun e h2 h3 => jnC_b GG hn (by omega) (hs e (by omega) h3).1 (hs (e - 1) (by omega) (by omega)).1) (z - q.2.1) (Nat.le_refl _)
  have gl := grpC_l (jc := jnC μ n f) (z := z) (z - q.2.1) (z - q.2.1)
  unfold cutC
  refine ⟨⟨?_, ?_⟩, ?_⟩
  · dsimp only; omega
  · dsimp only; omega
  · dsimp only; rw [List.length_append]; omega
theorem csC_b {μ : pm_T} {n f : Nat} (GG : GM μ) (hn : (n : Int) < μ 0 7) : ∀ k : Nat, ((f + k : Nat) : Int) ≤ μ (10 + n) 0 → (f ≤ (csC μ n f k).2.1 ∧ (csC μ n f k).2.1 ≤ f + k) ∧ (∀ e, (csC μ n f k).2.1 ≤ e → e < f + k → Shr μ n e) ∧ (csC μ n f k).2.2.length + (f + k - (csC μ n f k).2.1) ≤ cntS μ n f k ∧ 0 ≤ (csC μ n f k).1 ∧ (csC μ n f k).1 + 3 * ((f + k - (csC μ n f k).2.1 : Nat) : Int) ≤ 3 * (cntS μ n f k : Int)
  | 0, _ => by
    rw [csC, cntS]
    refine ⟨⟨Nat.le_refl _, Nat.le_refl _⟩, fun e h1 h2 => ?_, ?_, Int.le_refl _, ?_⟩
    · dsimp only at h1; omega
    · dsimp only; show 0 + _ ≤ _; omega
    · dsimp only; omega
  | k + 1, h => by
    obtain ⟨⟨i1, i2⟩, i3, i4, i5, i6⟩ := csC_b (f := f) GG hn k (by omega)
    rw [csC, cntS]
    by_cases c : Shr μ n (f + k)
    · rw [dif_t c, dif_t c]
      refine ⟨⟨i1, by omega⟩, fun e h1 h2 => ?_, by omega, i5, by omega⟩
      by_cases ce : e = f + k
      · subst ce; exact c
      · exact i3 e h1 (by omega)
    · rw [dif_f c, dif_f c]
      obtain ⟨⟨x1, x2⟩, x3⟩ := cut_b (f := f) GG hn (z := f + k) (q := csC μ n f k) (by omega) i2 i3
      refine ⟨⟨?_, ?_⟩, fun e h1 h2 => ?_, ?_, ?_, ?_⟩
      · dsimp only; omega
      · dsimp only; omega
      · dsimp only at h1; omega
      · dsimp only; omega
      · dsimp only; omega
      · dsimp only; omega
/-- beam's answer, and the GROUPS found -/
noncomputable def bmC (μ : pm_T) (n b : Nat) : Int := dif (14 < cntS μ n (brE μ n b) (brE μ n (b + 1) - brE μ n b)) (-4) (cutC μ n (brE μ n b) (brE μ n (b + 1)) (csC μ n (brE μ n b) (brE μ n (b + 1) - brE μ n b))).1
noncomputable def bmv (μ : pm_T) (v b : Int) : Int := dif ((0 ≤ v ∧ v < μ 0 7) ∧ (0 ≤ b ∧ b < μ (10 + v.toNat) 1)) (bmC μ v.toNat b.toNat) (-1)
