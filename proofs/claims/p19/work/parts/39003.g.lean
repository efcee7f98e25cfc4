/-! ===== verification conditions, 502 ===== -/
def B_Tokens_isSmall_17 (G : cx_T) (s : Nat) (a0 : Int) (t0 : Int) (h : ah_T) (Q : Option av_T → ah_T → Prop) : Prop :=
 (t0 = 0 ∨ t0 = 1) ∧ Q (some (av_I t0)) h
theorem b_Tokens_isSmall_17 {G : cx_T} {s : Nat} {a0 : Int} {t0 : Int} {h : ah_T} {Q : Option av_T → ah_T → Prop} (hb0 : hb s h) (H : B_Tokens_isSmall_17 G s a0 t0 h Q ) : aw G (rm_R 0 0 0) m_Tokens_isSmall 0 0 17 [none] [av_I t0] h Q := by
  unfold B_Tokens_isSmall_17 at H
  have hS : isS s := hb0.2.1
  exact A_zret d_Tokens_isSmall_17 (by decide) rfl H.1 H.2
def B_Tokens_isSmall_16 (G : cx_T) (s : Nat) (a0 : Int) (h : ah_T) (Q : Option av_T → ah_T → Prop) : Prop :=
 B_Tokens_isSmall_17 G s a0 (0) h Q 
theorem b_Tokens_isSmall_16 {G : cx_T} {s : Nat} {a0 : Int} {h : ah_T} {Q : Option av_T → ah_T → Prop} (hb0 : hb s h) (H : B_Tokens_isSmall_16 G s a0 h Q ) : aw G (rm_R 0 0 0) m_Tokens_isSmall 0 0 16 [none] [] h Q := by
  unfold B_Tokens_isSmall_16 at H
  have hS : isS s := hb0.2.1
  refine A_iconst d_Tokens_isSmall_16 rfl ?_
  refine A_pc (pc' := 17) rfl ?_
  exact b_Tokens_isSmall_17    hb0 H
def B_Tokens_isSmall_0 (G : cx_T) (s : Nat) (a0 : Int) (h : ah_T) (Q : Option av_T → ah_T → Prop) : Prop :=
 ((a0 < 97 → B_Tokens_isSmall_16 G s a0 h Q ) ∧ (¬ a0 < 97 → ((122 < a0 → B_Tokens_isSmall_16 G s a0 h Q ) ∧ (¬ 122 < a0 → B_Tokens_isSmall_17 G s a0 (1) h Q ))))
theorem b_Tokens_isSmall_0 {G : cx_T} {s : Nat} {a0 : Int} {h : ah_T} {Q : Option av_T → ah_T → Prop} (hb0 : hb s h) (H : B_Tokens_isSmall_0 G s a0 h Q ) : aw G (rm_R 0 0 0) m_Tokens_isSmall 0 0 0 [some (av_I a0)] [] h Q := by
  unfold B_Tokens_isSmall_0 at H
  have hS : isS s := hb0.2.1
  refine A_iload_n 0 d_Tokens_isSmall_0 rfl rfl ?_
  refine A_bipush d_Tokens_isSmall_1 rfl ?_
  refine A_icmp_lt (tgt := 16) d_Tokens_isSmall_3 (by decide) (fun c => ?_) (fun c => ?_)
  · replace H := H.1 c
    refine A_pc (pc' := 16) rfl ?_
    refine A_free (L' := [none]) trivial ?_
    exact b_Tokens_isSmall_16    hb0 H
  · replace H := H.2 c
    refine A_iload_n 0 d_Tokens_isSmall_6 rfl rfl ?_
    refine A_bipush d_Tokens_isSmall_7 rfl ?_
    refine A_icmp_gt (tgt := 16) d_Tokens_isSmall_9 (by decide) (fun c => ?_) (fun c => ?_)
    · replace H := H.1 c
      refine A_pc (pc' := 16) rfl ?_
      refine A_free (L' := [none]) trivial ?_
      exact b_Tokens_isSmall_16    hb0 H
    · replace H := H.2 c
      refine A_iconst d_Tokens_isSmall_12 rfl ?_
      refine A_goto (tgt := 17) d_Tokens_isSmall_13 (by decide) ?_
      refine A_pc (pc' := 17) rfl ?_
      refine A_free (L' := [none]) trivial ?_
      exact b_Tokens_isSmall_17    hb0 H
theorem c_Tokens_isSmall {G : cx_T} {s : Nat} {a0 : Int} {h : ah_T} {Q : Option av_T → ah_T → Prop} (hb0 : hb s h) (H : i32 a0 → B_Tokens_isSmall_0 G s a0 h Q ) : con G 0 0 0 m_Tokens_isSmall [av_I a0] h Q := by
  have hS : isS s := hb0.2.1
  refine con_of (L := [some (av_I a0)]) (by decide +kernel) (Nat.le_of_ble_eq_true rfl) rfl ?_
  refine A_locI 0 rfl (fun ra0 => ?_)
  exact b_Tokens_isSmall_0   hb0 (H ra0)
def B_Tokens_isDigit_17 (G : cx_T) (s : Nat) (a0 : Int) (t0 : Int) (h : ah_T) (Q : Option av_T → ah_T → Prop) : Prop :=
 (t0 = 0 ∨ t0 = 1) ∧ Q (some (av_I t0)) h
theorem b_Tokens_isDigit_17 {G : cx_T} {s : Nat} {a0 : Int} {t0 : Int} {h : ah_T} {Q : Option av_T → ah_T → Prop} (hb0 : hb s h) (H : B_Tokens_isDigit_17 G s a0 t0 h Q ) : aw G (rm_R 0 0 0) m_Tokens_isDigit 0 0 17 [none] [av_I t0] h Q := by
  unfold B_Tokens_isDigit_17 at H
  have hS : isS s := hb0.2.1
  exact A_zret d_Tokens_isDigit_17 (by decide) rfl H.1 H.2
def B_Tokens_isDigit_16 (G : cx_T) (s : Nat) (a0 : Int) (h : ah_T) (Q : Option av_T → ah_T → Prop) : Prop :=
 B_Tokens_isDigit_17 G s a0 (0) h Q 
theorem b_Tokens_isDigit_16 {G : cx_T} {s : Nat} {a0 : Int} {h : ah_T} {Q : Option av_T → ah_T → Prop} (hb0 : hb s h) (H : B_Tokens_isDigit_16 G s a0 h Q ) : aw G (rm_R 0 0 0) m_Tokens_isDigit 0 0 16 [none] [] h Q := by
  unfold B_Tokens_isDigit_16 at H
  have hS : isS s := hb0.2.1
  refine A_iconst d_Tokens_isDigit_16 rfl ?_
  refine A_pc (pc' := 17) rfl ?_
  exact b_Tokens_isDigit_17    hb0 H
def B_Tokens_isDigit_0 (G : cx_T) (s : Nat) (a0 : Int) (h : ah_T) (Q : Option av_T → ah_T → Prop) : Prop :=
 ((a0 < 48 → B_Tokens_isDigit_16 G s a0 h Q ) ∧ (¬ a0 < 48 → ((57 < a0 → B_Tokens_isDigit_16 G s a0 h Q ) ∧ (¬ 57 < a0 → B_Tokens_isDigit_17 G s a0 (1) h Q ))))
theorem b_Tokens_isDigit_0 {G : cx_T} {s : Nat} {a0 : Int} {h : ah_T} {Q : Option av_T → ah_T → Prop} (hb0 : hb s h) (H : B_Tokens_isDigit_0 G s a0 h Q ) : aw G (rm_R 0 0 0) m_Tokens_isDigit 0 0 0 [some (av_I a0)] [] h Q := by
  unfold B_Tokens_isDigit_0 at H
  have hS : isS s := hb0.2.1
  refine A_iload_n 0 d_Tokens_isDigit_0 rfl rfl ?_
  refine A_bipush d_Tokens_isDigit_1 rfl ?_
  refine A_icmp_lt (tgt := 16) d_Tokens_isDigit_3 (by decide) (fun c => ?_) (fun c => ?_)
  · replace H := H.1 c
    refine A_pc (pc' := 16) rfl ?_
    refine A_free (L' := [none]) trivial ?_
    exact b_Tokens_isDigit_16    hb0 H
  · replace H := H.2 c
    refine A_iload_n 0 d_Tokens_isDigit_6 rfl rfl ?_
    refine A_bipush d_Tokens_isDigit_7 rfl ?_
    refine A_icmp_gt (tgt := 16) d_Tokens_isDigit_9 (by decide) (fun c => ?_) (fun c => ?_)
    · replace H := H.1 c
      refine A_pc (pc' := 16) rfl ?_
      refine A_free (L' := [none]) trivial ?_
      exact b_Tokens_isDigit_16    hb0 H
    · replace H := H.2 c
      refine A_iconst d_Tokens_isDigit_12 rfl ?_
      refine A_goto (tgt := 17) d_Tokens_isDigit_13 (by decide) ?_
      refine A_pc (pc' := 17) rfl ?_
      refine A_free (L' := [none]) trivial ?_
      exact b_Tokens_isDigit_17    hb0 H
theorem c_Tokens_isDigit {G : cx_T} {s : Nat} {a0 : Int} {h : ah_T} {Q : Option av_T → ah_T → Prop} (hb0 : hb s h) (H : i32 a0 → B_Tokens_isDigit_0 G s a0 h Q ) : con G 0 0 0 m_Tokens_isDigit [av_I a0] h Q := by
  have hS : isS s := hb0.2.1
  refine con_of (L := [some (av_I a0)]) (by decide +kernel) (Nat.le_of_ble_eq_true rfl) rfl ?_
  refine A_locI 0 rfl (fun ra0 => ?_)
  exact b_Tokens_isDigit_0   hb0 (H ra0)
def B_Tokens_byteAt_31 (G : cx_T) (s : Nat) (a1 : Int) (t0 : Int) (h : ah_T) (Q : Option av_T → ah_T → Prop) : Prop :=
 Q (some (av_I t0)) h
theorem b_Tokens_byteAt_31 {G : cx_T} {s : Nat} {a1 : Int} {t0 : Int} {h : ah_T} {Q : Option av_T → ah_T → Prop} (hb0 : hb s h) (H : B_Tokens_byteAt_31 G s a1 t0 h Q ) : aw G (rm_R 0 0 0) m_Tokens_byteAt 0 0 31 [none, none] [av_I t0] h Q := by
  unfold B_Tokens_byteAt_31 at H
  have hS : isS s := hb0.2.1
  exact A_iret d_Tokens_byteAt_31 (by decide) rfl H
def B_Tokens_byteAt_30 (G : cx_T) (s : Nat) (a1 : Int) (h : ah_T) (Q : Option av_T → ah_T → Prop) : Prop :=
 B_Tokens_byteAt_31 G s a1 ((-1)) h Q 
theorem b_Tokens_byteAt_30 {G : cx_T} {s : Nat} {a1 : Int} {h : ah_T} {Q : Option av_T → ah_T → Prop} (hb0 : hb s h) (H : B_Tokens_byteAt_30 G s a1 h Q ) : aw G (rm_R 0 0 0) m_Tokens_byteAt 0 0 30 [none, none] [] h Q := by
  unfold B_Tokens_byteAt_30 at H
  have hS : isS s := hb0.2.1
  refine A_iconst d_Tokens_byteAt_30 rfl ?_
  refine A_pc (pc' := 31) rfl ?_
  exact b_Tokens_byteAt_31    hb0 H
def B_Tokens_byteAt_0 (G : cx_T) (s : Nat) (a1 : Int) (h : ah_T) (Q : Option av_T → ah_T → Prop) : Prop :=
 ((a1 < 0 → B_Tokens_byteAt_30 G s a1 h Q ) ∧ (¬ a1 < 0 → ∀ x1 : Int, x1 = h.2.1 3 7 → -2147483648 ≤ x1 → x1 ≤ 2147483647 → ((x1 ≤ a1 → B_Tokens_byteAt_30 G s a1 h Q ) ∧ (¬ x1 ≤ a1 → (h.2.2.2 3 6 = some 1) ∧ ((2000 ≤ a1 → B_Tokens_byteAt_30 G s a1 h Q ) ∧ (¬ 2000 ≤ a1 → (h.2.2.2 3 6 = some 1) ∧ (0 ≤ a1 ∧ a1 < 2000) ∧ ∀ x4 : Int, x4 = h.2.1 1 (a1).toNat → -2147483648 ≤ x4 → x4 ≤ 2147483647 → B_Tokens_byteAt_31 G s a1 (x4) h Q ))))))
theorem b_Tokens_byteAt_0 {G : cx_T} {s : Nat} {a1 : Int} {h : ah_T} {Q : Option av_T → ah_T → Prop} (hb0 : hb s h) (H : B_Tokens_byteAt_0 G s a1 h Q ) : aw G (rm_R 0 0 0) m_Tokens_byteAt 0 0 0 [some (av_R (some 3)), some (av_I a1)] [] h Q := by
  unfold B_Tokens_byteAt_0 at H
  have hS : isS s := hb0.2.1
  refine A_iload_n 1 d_Tokens_byteAt_0 rfl rfl ?_
  refine A_if_lt (tgt := 30) d_Tokens_byteAt_1 (by decide) (fun c => ?_) (fun c => ?_)
  · replace H := H.1 c
    refine A_pc (pc' := 30) rfl ?_
    refine A_free (L' := [none, none]) trivial ?_
    exact b_Tokens_byteAt_30    hb0 H
  · replace H := H.2 c
    refine A_iload_n 1 d_Tokens_byteAt_4 rfl rfl ?_
    refine A_aload_n 0 d_Tokens_byteAt_5 rfl rfl ?_
    refine A_getIf T_ok d_Tokens_byteAt_6 f_Tokens_34 (hb_s hb0 sf_3) (fun x1 ex1 lx1 ux1 => ?_)
    replace H := H x1 ex1 lx1 ux1
    refine A_icmp_ge (tgt := 30) d_Tokens_byteAt_9 (by decide) (fun c => ?_) (fun c => ?_)
    · replace H := H.1 c
      refine A_pc (pc' := 30) rfl ?_
      refine A_free (L' := [none, none]) trivial ?_
      exact b_Tokens_byteAt_30    hb0 H
    · replace H := H.2 c
      refine A_iload_n 1 d_Tokens_byteAt_12 rfl rfl ?_
      refine A_aload_n 0 d_Tokens_byteAt_13 rfl rfl ?_
      have H0 := H.1
      replace H := H.2
      refine A_getAv (z := some 1) T_ok d_Tokens_byteAt_14 f_Tokens_25 (hb_s hb0 sf_3) H0 ?_
      refine A_alenN d_Tokens_byteAt_17 (hb_s hb0 sf_1) (by decide) (by decide) ?_
      refine A_icmp_ge (tgt := 30) d_Tokens_byteAt_18 (by decide) (fun c => ?_) (fun c => ?_)
      · replace H := H.1 c
        refine A_pc (pc' := 30) rfl ?_
        refine A_free (L' := [none, none]) trivial ?_
        exact b_Tokens_byteAt_30    hb0 H
      · replace H := H.2 c
        refine A_aload_n 0 d_Tokens_byteAt_21 rfl rfl ?_
        have H0 := H.1
        replace H := H.2
        refine A_getAv (z := some 1) T_ok d_Tokens_byteAt_22 f_Tokens_25 (hb_s hb0 sf_3) H0 ?_
        refine A_iload_n 1 d_Tokens_byteAt_25 rfl rfl ?_
        have g5 := H.1
        replace H := H.2
        refine A_ialoadf d_Tokens_byteAt_26 (hb_s hb0 sf_1) g5.1 g5.2 (fun x4 ex4 lx4 ux4 => ?_)
        replace H := H x4 ex4 lx4 ux4
        refine A_goto (tgt := 31) d_Tokens_byteAt_27 (by decide) ?_
        refine A_pc (pc' := 31) rfl ?_
        refine A_free (L' := [none, none]) trivial ?_
        exact b_Tokens_byteAt_31    hb0 H
theorem c_Tokens_byteAt {G : cx_T} {s : Nat} {a1 : Int} {h : ah_T} {Q : Option av_T → ah_T → Prop} (hb0 : hb s h) (H : i32 a1 → B_Tokens_byteAt_0 G s a1 h Q ) : con G 0 0 0 m_Tokens_byteAt [av_R (some 3), av_I a1] h Q := by
  have hS : isS s := hb0.2.1
  refine con_of (L := [some (av_R (some 3)), some (av_I a1)]) (by decide +kernel) (Nat.le_of_ble_eq_true rfl) rfl ?_
  refine A_locI 1 rfl (fun ra1 => ?_)
  exact b_Tokens_byteAt_0   hb0 (H ra1)
def B_Tokens_skipBlanks_67 (G : cx_T) (s : Nat) (v1 : Int) (h : ah_T) (Q : Option av_T → ah_T → Prop) (X2 : Int → ah_T → Prop) : Prop :=
 ∀ x1 : Int, x1 = h.2.1 3 8 → -2147483648 ≤ x1 → x1 ≤ 2147483647 → ((-2147483648) ≤ (x1 + 1) ∧ (x1 + 1) ≤ 2147483647) ∧ ∀ h3 : ah_T, h3 = st_i h 3 8 (x1 + 1) → X2 (v1) h3
theorem b_Tokens_skipBlanks_67 {G : cx_T} {s : Nat} {v1 : Int} {h : ah_T} {Q : Option av_T → ah_T → Prop} {X2 : Int → ah_T → Prop} (hX2 : ∀ (v1 : Int) (h : ah_T), hb s h → X2 v1 h → aw G (rm_R 1 0 0) m_Tokens_skipBlanks 0 0 2 [some (av_R (some 3)), some (av_I v1), none] [] h Q) (hb0 : hb s h) (H : B_Tokens_skipBlanks_67 G s v1 h Q X2) : aw G (rm_R 1 0 0) m_Tokens_skipBlanks 0 0 67 [some (av_R (some 3)), some (av_I v1), none] [] h Q := by
  unfold B_Tokens_skipBlanks_67 at H
  have hS : isS s := hb0.2.1
  refine A_aload_n 0 d_Tokens_skipBlanks_67 rfl rfl ?_
  refine A_dupR d_Tokens_skipBlanks_68 ?_
  refine A_getIf T_ok d_Tokens_skipBlanks_69 f_Tokens_38 (hb_s hb0 sf_3) (fun x1 ex1 lx1 ux1 => ?_)
  replace H := H x1 ex1 lx1 ux1
  refine A_iconst d_Tokens_skipBlanks_72 rfl ?_
  have g2 := H.1
  replace H := H.2
  refine A_iaddv (z := (x1 + 1)) d_Tokens_skipBlanks_73 (w32_to (by omega) (by unfold i32; omega)) ?_
  refine A_pc (pc' := 74) rfl ?_
  refine A_putI T_ok d_Tokens_skipBlanks_74 f_Tokens_38 (hb_s hb0 sf_3) fin_f ?_
  refine A_hn (fun h3 eh3 => ?_)
  have hb4 := hb_i hb0 eh3
  replace H := H h3 eh3
  refine A_goto (tgt := 2) d_Tokens_skipBlanks_77 (by decide) ?_
  refine A_pc (pc' := 2) rfl ?_
  exact hX2 (v1) h3  hb4 H
def B_Tokens_skipBlanks_2 (G : cx_T) (s : Nat) (v1 : Int) (h : ah_T) (Q : Option av_T → ah_T → Prop) (X2 : Int → ah_T → Prop) : Prop :=
 ∀ x1 : Int, x1 = h.2.1 3 8 → -2147483648 ≤ x1 → x1 ≤ 2147483647 → ∀ x2 : Int, x2 = h.2.1 3 7 → -2147483648 ≤ x2 → x2 ≤ 2147483647 → ((x2 ≤ x1 → Q none h) ∧ (¬ x2 ≤ x1 → con G 0 0 0 m_Tokens_byteAt [av_R (some 3), av_I x1] h (fun r h4 => ∃ z6 : Int, r = some (av_I z6) ∧ hb s h4 ∧ ((z6 = 10 → B_Tokens_skipBlanks_67 G s (0) h4 Q X2) ∧ (¬ z6 = 10 → ((z6 = 37 → B_Tokens_skipBlanks_67 G s (1) h4 Q X2) ∧ (¬ z6 = 37 → ((v1 = 0 → ((z6 = 9 → B_Tokens_skipBlanks_67 G s (v1) h4 Q X2) ∧ (¬ z6 = 9 → ((z6 = 13 → B_Tokens_skipBlanks_67 G s (v1) h4 Q X2) ∧ (¬ z6 = 13 → ((z6 = 32 → B_Tokens_skipBlanks_67 G s (v1) h4 Q X2) ∧ (¬ z6 = 32 → Q none h4))))))) ∧ (¬ v1 = 0 → B_Tokens_skipBlanks_67 G s (v1) h4 Q X2)))))))))
theorem b_Tokens_skipBlanks_2 {G : cx_T} {s : Nat} {v1 : Int} {h : ah_T} {Q : Option av_T → ah_T → Prop} {X2 : Int → ah_T → Prop} (hX2 : ∀ (v1 : Int) (h : ah_T), hb s h → X2 v1 h → aw G (rm_R 1 0 0) m_Tokens_skipBlanks 0 0 2 [some (av_R (some 3)), some (av_I v1), none] [] h Q) (hb0 : hb s h) (H : B_Tokens_skipBlanks_2 G s v1 h Q X2) : aw G (rm_R 1 0 0) m_Tokens_skipBlanks 0 0 2 [some (av_R (some 3)), some (av_I v1), none] [] h Q := by
  unfold B_Tokens_skipBlanks_2 at H
  have hS : isS s := hb0.2.1
  refine A_aload_n 0 d_Tokens_skipBlanks_2 rfl rfl ?_
  refine A_getIf T_ok d_Tokens_skipBlanks_3 f_Tokens_38 (hb_s hb0 sf_3) (fun x1 ex1 lx1 ux1 => ?_)
  replace H := H x1 ex1 lx1 ux1
  refine A_aload_n 0 d_Tokens_skipBlanks_6 rfl rfl ?_
  refine A_getIf T_ok d_Tokens_skipBlanks_7 f_Tokens_34 (hb_s hb0 sf_3) (fun x2 ex2 lx2 ux2 => ?_)
  replace H := H x2 ex2 lx2 ux2
  refine A_icmp_ge (tgt := 80) d_Tokens_skipBlanks_10 (by decide) (fun c => ?_) (fun c => ?_)
  · replace H := H.1 c
    exact A_vret d_Tokens_skipBlanks_80 (by decide) rfl H
  · replace H := H.2 c
    refine A_aload_n 0 d_Tokens_skipBlanks_13 rfl rfl ?_
    refine A_aload_n 0 d_Tokens_skipBlanks_14 rfl rfl ?_
    refine A_getIv (z := x1) T_ok d_Tokens_skipBlanks_15 f_Tokens_38 (hb_s hb0 sf_3) ex1.symm ?_
    refine A_callV1 m_Tokens_byteAt T_ok d_Tokens_skipBlanks_18 l_Tokens_70 k_Tokens_byteAt (hb_s hb0 sf_3) rfl (by decide +kernel) (by decide) (Nat.le_of_ble_eq_true rfl) H (fun r h4 hq => ?_)
    clear H
    obtain ⟨z6, rfl, hb5, H⟩ := hq
    refine A_istore_n 2 (L' := [some (av_R (some 3)), some (av_I v1), some (av_I z6)]) d_Tokens_skipBlanks_21 rfl (Nat.le_of_ble_eq_true rfl) rfl ?_
    refine A_iload_n 2 d_Tokens_skipBlanks_22 rfl rfl ?_
    refine A_bipush d_Tokens_skipBlanks_23 rfl ?_
    refine A_icmp_ne (tgt := 33) d_Tokens_skipBlanks_25 (by decide) (fun c => ?_) (fun c => ?_)
    · replace H := H.2 c
      refine A_iload_n 2 d_Tokens_skipBlanks_33 rfl rfl ?_
      refine A_bipush d_Tokens_skipBlanks_34 rfl ?_
      refine A_icmp_ne (tgt := 44) d_Tokens_skipBlanks_36 (by decide) (fun c => ?_) (fun c => ?_)
      · replace H := H.2 c
        refine A_iload_n 1 d_Tokens_skipBlanks_44 rfl rfl ?_
        refine A_if_ne (tgt := 67) d_Tokens_skipBlanks_45 (by decide) (fun c => ?_) (fun c => ?_)
        · replace H := H.2 c
          refine A_pc (pc' := 67) rfl ?_
          refine A_free (L' := [some (av_R (some 3)), some (av_I v1), none]) (And.intro rfl (And.intro rfl trivial)) ?_
          exact b_Tokens_skipBlanks_67  hX2  hb5 H
        · replace H := H.1 c
          refine A_iload_n 2 d_Tokens_skipBlanks_48 rfl rfl ?_
          refine A_bipush d_Tokens_skipBlanks_49 rfl ?_
          refine A_icmp_eq (tgt := 67) d_Tokens_skipBlanks_51 (by decide) (fun c => ?_) (fun c => ?_)
          · replace H := H.1 c
            refine A_pc (pc' := 67) rfl ?_
            refine A_free (L' := [some (av_R (some 3)), some (av_I v1), none]) (And.intro rfl (And.intro rfl trivial)) ?_
            exact b_Tokens_skipBlanks_67  hX2  hb5 H
          · replace H := H.2 c
            refine A_iload_n 2 d_Tokens_skipBlanks_54 rfl rfl ?_
            refine A_bipush d_Tokens_skipBlanks_55 rfl ?_
            refine A_icmp_eq (tgt := 67) d_Tokens_skipBlanks_57 (by decide) (fun c => ?_) (fun c => ?_)
            · replace H := H.1 c
              refine A_pc (pc' := 67) rfl ?_
              refine A_free (L' := [some (av_R (some 3)), some (av_I v1), none]) (And.intro rfl (And.intro rfl trivial)) ?_
              exact b_Tokens_skipBlanks_67  hX2  hb5 H
            · replace H := H.2 c
              refine A_iload_n 2 d_Tokens_skipBlanks_60 rfl rfl ?_
              refine A_bipush d_Tokens_skipBlanks_61 rfl ?_
              refine A_icmp_eq (tgt := 67) d_Tokens_skipBlanks_63 (by decide) (fun c => ?_) (fun c => ?_)
              · replace H := H.1 c
                refine A_pc (pc' := 67) rfl ?_
                refine A_free (L' := [some (av_R (some 3)), some (av_I v1), none]) (And.intro rfl (And.intro rfl trivial)) ?_
                exact b_Tokens_skipBlanks_67  hX2  hb5 H
              · replace H := H.2 c
                exact A_vret d_Tokens_skipBlanks_66 (by decide) rfl H
      · replace H := H.1 c
        refine A_iconst d_Tokens_skipBlanks_39 rfl ?_
        refine A_istore_n 1 (L' := [some (av_R (some 3)), some (av_I 1), some (av_I z6)]) d_Tokens_skipBlanks_40 rfl (Nat.le_of_ble_eq_true rfl) rfl ?_
        refine A_goto (tgt := 67) d_Tokens_skipBlanks_41 (by decide) ?_
        refine A_pc (pc' := 67) rfl ?_
        refine A_free (L' := [some (av_R (some 3)), some (av_I 1), none]) (And.intro rfl (And.intro rfl trivial)) ?_
        exact b_Tokens_skipBlanks_67  hX2  hb5 H
    · replace H := H.1 c
      refine A_iconst d_Tokens_skipBlanks_28 rfl ?_
      refine A_istore_n 1 (L' := [some (av_R (some 3)), some (av_I 0), some (av_I z6)]) d_Tokens_skipBlanks_29 rfl (Nat.le_of_ble_eq_true rfl) rfl ?_
      refine A_goto (tgt := 67) d_Tokens_skipBlanks_30 (by decide) ?_
      refine A_pc (pc' := 67) rfl ?_
      refine A_free (L' := [some (av_R (some 3)), some (av_I 0), none]) (And.intro rfl (And.intro rfl trivial)) ?_
      exact b_Tokens_skipBlanks_67  hX2  hb5 H
theorem lp_Tokens_skipBlanks_2 {G : cx_T} {s : Nat} {Q : Option av_T → ah_T → Prop} (I : Int → ah_T → Prop) (μ : Int → ah_T → Nat) (hI : ∀ (v1 : Int) (h : ah_T), hb s h → I v1 h → B_Tokens_skipBlanks_2 G s v1 h Q (fun v1' h' => I v1' h' ∧ μ v1' h' < μ v1 h)) : ∀ (v1 : Int) (h : ah_T), hb s h → I v1 h → aw G (rm_R 1 0 0) m_Tokens_skipBlanks 0 0 2 [some (av_R (some 3)), some (av_I v1), none] [] h Q := by
  have key : ∀ (n : Nat) (v1 : Int) (h : ah_T), hb s h → I v1 h → μ v1 h < n → aw G (rm_R 1 0 0) m_Tokens_skipBlanks 0 0 2 [some (av_R (some 3)), some (av_I v1), none] [] h Q := by
    intro n
    induction n with
    | zero => intro v1 h  hb0 hi hm; omega
    | succ n ih => intro v1 h  hb0 hi hm; exact b_Tokens_skipBlanks_2  (fun v1' h'  hb' hx => ih v1' h'  hb' hx.1 (by have := hx.2; omega))  hb0 (hI v1 h  hb0 hi)
  exact fun v1 h  hb0 hi => key _ v1 h  hb0 hi (Nat.lt_succ_self _)
def B_Tokens_skipBlanks_0 (G : cx_T) (s : Nat) (h : ah_T) (Q : Option av_T → ah_T → Prop) (X2 : Int → ah_T → Prop) : Prop :=
 X2 (0) h
theorem b_Tokens_skipBlanks_0 {G : cx_T} {s : Nat} {h : ah_T} {Q : Option av_T → ah_T → Prop} {X2 : Int → ah_T → Prop} (hX2 : ∀ (v1 : Int) (h : ah_T), hb s h → X2 v1 h → aw G (rm_R 1 0 0) m_Tokens_skipBlanks 0 0 2 [some (av_R (some 3)), some (av_I v1), none] [] h Q) (hb0 : hb s h) (H : B_Tokens_skipBlanks_0 G s h Q X2) : aw G (rm_R 1 0 0) m_Tokens_skipBlanks 0 0 0 [some (av_R (some 3)), none, none] [] h Q := by
  unfold B_Tokens_skipBlanks_0 at H
  have hS : isS s := hb0.2.1
  refine A_iconst d_Tokens_skipBlanks_0 rfl ?_
  refine A_istore_n 1 (L' := [some (av_R (some 3)), some (av_I 0), none]) d_Tokens_skipBlanks_1 rfl (Nat.le_of_ble_eq_true rfl) rfl ?_
  refine A_pc (pc' := 2) rfl ?_
  exact hX2 (0) h  hb0 H
theorem c_Tokens_skipBlanks {G : cx_T} {s : Nat} {h : ah_T} {Q : Option av_T → ah_T → Prop} {X2 : Int → ah_T → Prop} (hX2 : ∀ (v1 : Int) (h : ah_T), hb s h → X2 v1 h → aw G (rm_R 1 0 0) m_Tokens_skipBlanks 0 0 2 [some (av_R (some 3)), some (av_I v1), none] [] h Q) (hb0 : hb s h) (H : B_Tokens_skipBlanks_0 G s h Q X2) : con G 1 0 0 m_Tokens_skipBlanks [av_R (some 3)] h Q := by
  have hS : isS s := hb0.2.1
  refine con_of (L := [some (av_R (some 3)), none, none]) (by decide +kernel) (Nat.le_of_ble_eq_true rfl) rfl ?_
  exact b_Tokens_skipBlanks_0  hX2 hb0 (H )
def B_Tokens_cutPitch_121 (G : cx_T) (s : Nat) (a1 : Int) (v2 : Int) (v5 : Int) (v6 : Int) (t1 : Int) (t2 : Int) (h : ah_T) (Q : Option av_T → ah_T → Prop) : Prop :=
 ((-2147483648) ≤ (t1 + t2) ∧ (t1 + t2) ≤ 2147483647) ∧ ∀ h2 : ah_T, h2 = st_l h 3 11 (t1 + t2) → ((-2147483648) ≤ (7 * v5) ∧ (7 * v5) ≤ 2147483647) ∧ ((-2147483648) ≤ (7 * v5 + v6) ∧ (7 * v5 + v6) ≤ 2147483647) ∧ ∀ h6 : ah_T, h6 = st_i h2 3 12 (7 * v5 + v6) → ((-2147483648) ≤ (v2 + 1) ∧ (v2 + 1) ≤ 2147483647) ∧ ∀ h9 : ah_T, h9 = st_i h6 3 8 (v2 + 1) → ∀ h11 : ah_T, h11 = st_i h9 3 9 258 → Q none h11
theorem b_Tokens_cutPitch_121 {G : cx_T} {s : Nat} {a1 : Int} {v2 : Int} {v5 : Int} {v6 : Int} {t1 : Int} {t2 : Int} {h : ah_T} {Q : Option av_T → ah_T → Prop} (hb0 : hb s h) (H : B_Tokens_cutPitch_121 G s a1 v2 v5 v6 t1 t2 h Q ) : aw G (rm_R 1 0 0) m_Tokens_cutPitch 0 0 121 [some (av_R (some 3)), none, some (av_I v2), none, none, some (av_I v5), some (av_I v6)] [av_I t2, av_I t1, av_R (some 3)] h Q := by
  unfold B_Tokens_cutPitch_121 at H
  have hS : isS s := hb0.2.1
  have g1 := H.1
  replace H := H.2
  refine A_iaddv (z := (t1 + t2)) d_Tokens_cutPitch_121 (w32_to (by omega) (by unfold i32; omega)) ?_
  refine A_i2l d_Tokens_cutPitch_122 ?_
  refine A_putL T_ok d_Tokens_cutPitch_123 f_Tokens_60 (hb_s hb0 sf_3) fin_f ?_
  refine A_hn (fun h2 eh2 => ?_)
  have hb3 := hb_l hb0 eh2
  replace H := H h2 eh2
  refine A_aload_n 0 d_Tokens_cutPitch_126 rfl rfl ?_
  refine A_bipush d_Tokens_cutPitch_127 rfl ?_
  refine A_pc (pc' := 129) rfl ?_
  refine A_iload d_Tokens_cutPitch_129 rfl ?_
  have g4 := H.1
  replace H := H.2
  refine A_imulv (z := (7 * v5)) d_Tokens_cutPitch_131 (w32_to (by omega) (by unfold i32; omega)) ?_
  refine A_iload d_Tokens_cutPitch_132 rfl ?_
  have g5 := H.1
  replace H := H.2
  refine A_iaddv (z := (7 * v5 + v6)) d_Tokens_cutPitch_134 (w32_to (by omega) (by unfold i32; omega)) ?_
  refine A_putI T_ok d_Tokens_cutPitch_135 f_Tokens_64 (hb_s hb3 sf_3) fin_f ?_
  refine A_hn (fun h6 eh6 => ?_)
  have hb7 := hb_i hb3 eh6
  replace H := H h6 eh6
  refine A_aload_n 0 d_Tokens_cutPitch_138 rfl rfl ?_
  refine A_pc (pc' := 139) rfl ?_
  refine A_iload_n 2 d_Tokens_cutPitch_139 rfl rfl ?_
  refine A_iconst d_Tokens_cutPitch_140 rfl ?_
  have g8 := H.1
  replace H := H.2
  refine A_iaddv (z := (v2 + 1)) d_Tokens_cutPitch_141 (w32_to (by omega) (by unfold i32; omega)) ?_
  refine A_putI T_ok d_Tokens_cutPitch_142 f_Tokens_38 (hb_s hb7 sf_3) fin_f ?_
  refine A_hn (fun h9 eh9 => ?_)
  have hb10 := hb_i hb7 eh9
  replace H := H h9 eh9
  refine A_aload_n 0 d_Tokens_cutPitch_145 rfl rfl ?_
  refine A_sipush d_Tokens_cutPitch_146 rfl ?_
  refine A_pc (pc' := 149) rfl ?_
  refine A_putI T_ok d_Tokens_cutPitch_149 f_Tokens_54 (hb_s hb10 sf_3) fin_f ?_
  refine A_hn (fun h11 eh11 => ?_)
  have hb12 := hb_i hb10 eh11
  replace H := H h11 eh11
  exact A_vret d_Tokens_cutPitch_152 (by decide) rfl H
def B_Tokens_cutPitch_74 (G : cx_T) (s : Nat) (a1 : Int) (h : ah_T) (Q : Option av_T → ah_T → Prop) : Prop :=
 ∀ h1 : ah_T, h1 = st_i h 3 9 257 → Q none h1
theorem b_Tokens_cutPitch_74 {G : cx_T} {s : Nat} {a1 : Int} {h : ah_T} {Q : Option av_T → ah_T → Prop} (hb0 : hb s h) (H : B_Tokens_cutPitch_74 G s a1 h Q ) : aw G (rm_R 1 0 0) m_Tokens_cutPitch 0 0 74 [some (av_R (some 3)), none, none, none, none, none, none] [] h Q := by
  unfold B_Tokens_cutPitch_74 at H
  have hS : isS s := hb0.2.1
  refine A_aload_n 0 d_Tokens_cutPitch_74 rfl rfl ?_
  refine A_sipush d_Tokens_cutPitch_75 rfl ?_
  refine A_putI T_ok d_Tokens_cutPitch_78 f_Tokens_54 (hb_s hb0 sf_3) fin_f ?_
  refine A_hn (fun h1 eh1 => ?_)
  have hb2 := hb_i hb0 eh1
  replace H := H h1 eh1
  exact A_vret d_Tokens_cutPitch_81 (by decide) rfl H
def B_Tokens_cutPitch_52 (G : cx_T) (s : Nat) (a1 : Int) (v2 : Int) (v3 : Int) (v4 : Int) (h : ah_T) (Q : Option av_T → ah_T → Prop) : Prop :=
 con G 0 0 0 m_Tokens_byteAt [av_R (some 3), av_I v2] h (fun r h1 => ∃ z3 : Int, r = some (av_I z3) ∧ hb s h1 ∧ ((-2147483648) ≤ (z3 - 48) ∧ (z3 - 48) ≤ 2147483647) ∧ (((z3 - 48) < 0 → B_Tokens_cutPitch_74 G s a1 h1 Q ) ∧ (¬ (z3 - 48) < 0 → (((z3 - 48) ≤ 8 → ((-2147483648) ≤ (a1 - 67) ∧ (a1 - 67) ≤ 2147483647) ∧ con G 0 0 0 m_JMath_floorMod [av_I (a1 - 67), av_I 7] h1 (fun r h6 => ∃ z8 : Int, r = some (av_I z8) ∧ hb s h6 ∧ ((-2147483648) ≤ (12 * z3 - 576) ∧ (12 * z3 - 576) ≤ 2147483647) ∧ (0 ≤ z8 ∧ z8 < 7) ∧ ∀ x10 : Int, x10 = ([0, 2, 4, 5, 7, 9, 11] : List Int).getD (z8).toNat 0 → ((-2147483648) ≤ (12 * z3 + x10 - 576) ∧ (12 * z3 + x10 - 576) ≤ 2147483647) ∧ ((v4 = 35 → B_Tokens_cutPitch_121 G s a1 (v2) ((z3 - 48)) (z8) ((12 * z3 + x10 - 576)) (v3) h6 Q ) ∧ (¬ v4 = 35 → ((-2147483648) ≤ (-v3) ∧ (-v3) ≤ 2147483647) ∧ B_Tokens_cutPitch_121 G s a1 (v2) ((z3 - 48)) (z8) ((12 * z3 + x10 - 576)) ((-v3)) h6 Q )))) ∧ (¬ (z3 - 48) ≤ 8 → B_Tokens_cutPitch_74 G s a1 h1 Q )))))
theorem b_Tokens_cutPitch_52 {G : cx_T} {s : Nat} {a1 : Int} {v2 : Int} {v3 : Int} {v4 : Int} {h : ah_T} {Q : Option av_T → ah_T → Prop} (hb0 : hb s h) (H : B_Tokens_cutPitch_52 G s a1 v2 v3 v4 h Q ) : aw G (rm_R 1 0 0) m_Tokens_cutPitch 0 0 52 [some (av_R (some 3)), some (av_I a1), some (av_I v2), some (av_I v3), some (av_I v4), none, none] [] h Q := by
  unfold B_Tokens_cutPitch_52 at H
  have hS : isS s := hb0.2.1
  refine A_aload_n 0 d_Tokens_cutPitch_52 rfl rfl ?_
  refine A_iload_n 2 d_Tokens_cutPitch_53 rfl rfl ?_
  refine A_callV1 m_Tokens_byteAt T_ok d_Tokens_cutPitch_54 l_Tokens_70 k_Tokens_byteAt (hb_s hb0 sf_3) rfl (by decide +kernel) (by decide) (Nat.le_of_ble_eq_true rfl) H (fun r h1 hq => ?_)
  clear H
  obtain ⟨z3, rfl, hb2, H⟩ := hq
  refine A_bipush d_Tokens_cutPitch_57 rfl ?_
  have g4 := H.1
  replace H := H.2
  refine A_isubv (z := (z3 - 48)) d_Tokens_cutPitch_59 (w32_to (by omega) (by unfold i32; omega)) ?_
  refine A_istore (L' := [some (av_R (some 3)), some (av_I a1), some (av_I v2), some (av_I v3), some (av_I v4), some (av_I (z3 - 48)), none]) d_Tokens_cutPitch_60 (Nat.le_of_ble_eq_true rfl) rfl ?_
  refine A_iload d_Tokens_cutPitch_62 rfl ?_
  refine A_if_lt (tgt := 74) d_Tokens_cutPitch_64 (by decide) (fun c => ?_) (fun c => ?_)
  · replace H := H.1 c
    refine A_pc (pc' := 74) rfl ?_
    refine A_free (L' := [some (av_R (some 3)), none, none, none, none, none, none]) (And.intro rfl trivial) ?_
    exact b_Tokens_cutPitch_74    hb2 H
  · replace H := H.2 c
    refine A_iload d_Tokens_cutPitch_67 rfl ?_
    refine A_bipush d_Tokens_cutPitch_69 rfl ?_
    refine A_icmp_le (tgt := 82) d_Tokens_cutPitch_71 (by decide) (fun c => ?_) (fun c => ?_)
    · replace H := H.1 c
      refine A_iload_n 1 d_Tokens_cutPitch_82 rfl rfl ?_
      refine A_bipush d_Tokens_cutPitch_83 rfl ?_
      have g5 := H.1
      replace H := H.2
      refine A_isubv (z := (a1 - 67)) d_Tokens_cutPitch_85 (w32_to (by omega) (by unfold i32; omega)) ?_
      refine A_getsA (q := ("NATURALS", 1, [0, 2, 4, 5, 7, 9, 11])) (by decide) gs_Tokens_98 d_Tokens_cutPitch_86 ?_
      refine A_alenT (q := ("NATURALS", 1, [0, 2, 4, 5, 7, 9, 11])) (z := 7) d_Tokens_cutPitch_89 (by decide) (by decide) (by decide) rfl ?_
      refine A_pc (pc' := 90) rfl ?_
      refine A_callS2 m_JMath_floorMod d_Tokens_cutPitch_90 l_Tokens_101 k_JMath_floorMod (by decide +kernel) (by decide) (Nat.le_of_ble_eq_true rfl) H (fun r h6 hq => ?_)
      clear H
      obtain ⟨z8, rfl, hb7, H⟩ := hq
      refine A_istore (L' := [some (av_R (some 3)), some (av_I a1), some (av_I v2), some (av_I v3), some (av_I v4), some (av_I (z3 - 48)), some (av_I z8)]) d_Tokens_cutPitch_93 (Nat.le_of_ble_eq_true rfl) rfl ?_
      refine A_aload_n 0 d_Tokens_cutPitch_95 rfl rfl ?_
      refine A_bipush d_Tokens_cutPitch_96 rfl ?_
      refine A_iload d_Tokens_cutPitch_98 rfl ?_
      have g9 := H.1
      replace H := H.2
      refine A_imulv (z := (12 * z3 - 576)) d_Tokens_cutPitch_100 (w32_to (by omega) (by unfold i32; omega)) ?_
      refine A_pc (pc' := 101) rfl ?_
      refine A_getsA (q := ("NATURALS", 1, [0, 2, 4, 5, 7, 9, 11])) (by decide) gs_Tokens_98 d_Tokens_cutPitch_101 ?_
      refine A_iload d_Tokens_cutPitch_104 rfl ?_
      have H0 := H.1
      replace H := H.2
      refine A_ialoadT (q := ("NATURALS", 1, [0, 2, 4, 5, 7, 9, 11])) d_Tokens_cutPitch_106 (by decide) (by decide) (by omega) (by simp only [List.length_cons, List.length_nil]; omega) (fun x10 ex10 => ?_)
      replace H := H x10 ex10
      have g11 := H.1
      replace H := H.2
      refine A_iaddv (z := (12 * z3 + x10 - 576)) d_Tokens_cutPitch_107 (w32_to (by omega) (by unfold i32; omega)) ?_
      refine A_iload d_Tokens_cutPitch_108 rfl ?_
      refine A_bipush d_Tokens_cutPitch_110 rfl ?_
      refine A_pc (pc' := 112) rfl ?_
      refine A_icmp_ne (tgt := 119) d_Tokens_cutPitch_112 (by decide) (fun c => ?_) (fun c => ?_)
      · replace H := H.2 c
        refine A_iload_n 3 d_Tokens_cutPitch_119 rfl rfl ?_
        have g12 := H.1
        replace H := H.2
        refine A_inegv (z := (-v3)) d_Tokens_cutPitch_120 (w32_to (by omega) (by unfold i32; omega)) ?_
        refine A_pc (pc' := 121) rfl ?_
        refine A_free (L' := [some (av_R (some 3)), none, some (av_I v2), none, none, some (av_I (z3 - 48)), some (av_I z8)]) (And.intro rfl (And.intro rfl (And.intro rfl (And.intro rfl trivial)))) ?_
        exact b_Tokens_cutPitch_121    hb7 H
      · replace H := H.1 c
        refine A_iload_n 3 d_Tokens_cutPitch_115 rfl rfl ?_
        refine A_goto (tgt := 121) d_Tokens_cutPitch_116 (by decide) ?_
        refine A_pc (pc' := 121) rfl ?_
        refine A_free (L' := [some (av_R (some 3)), none, some (av_I v2), none, none, some (av_I (z3 - 48)), some (av_I z8)]) (And.intro rfl (And.intro rfl (And.intro rfl (And.intro rfl trivial)))) ?_
        exact b_Tokens_cutPitch_121    hb7 H
    · replace H := H.2 c
      refine A_pc (pc' := 74) rfl ?_
      refine A_free (L' := [some (av_R (some 3)), none, none, none, none, none, none]) (And.intro rfl trivial) ?_
      exact b_Tokens_cutPitch_74    hb2 H
def B_Tokens_cutPitch_47 (G : cx_T) (s : Nat) (a1 : Int) (v2 : Int) (v4 : Int) (t0 : Int) (h : ah_T) (Q : Option av_T → ah_T → Prop) : Prop :=
 ((-2147483648) ≤ (v2 + t0) ∧ (v2 + t0) ≤ 2147483647) ∧ B_Tokens_cutPitch_52 G s a1 ((v2 + t0)) (t0) (v4) h Q 
theorem b_Tokens_cutPitch_47 {G : cx_T} {s : Nat} {a1 : Int} {v2 : Int} {v4 : Int} {t0 : Int} {h : ah_T} {Q : Option av_T → ah_T → Prop} (hb0 : hb s h) (H : B_Tokens_cutPitch_47 G s a1 v2 v4 t0 h Q ) : aw G (rm_R 1 0 0) m_Tokens_cutPitch 0 0 47 [some (av_R (some 3)), some (av_I a1), some (av_I v2), none, some (av_I v4), none, none] [av_I t0] h Q := by
  unfold B_Tokens_cutPitch_47 at H
  have hS : isS s := hb0.2.1
  refine A_istore_n 3 (L' := [some (av_R (some 3)), some (av_I a1), some (av_I v2), some (av_I t0), some (av_I v4), none, none]) d_Tokens_cutPitch_47 rfl (Nat.le_of_ble_eq_true rfl) rfl ?_
  refine A_iload_n 2 d_Tokens_cutPitch_48 rfl rfl ?_
  refine A_iload_n 3 d_Tokens_cutPitch_49 rfl rfl ?_
  have g1 := H.1
  replace H := H.2
  refine A_iaddv (z := (v2 + t0)) d_Tokens_cutPitch_50 (w32_to (by omega) (by unfold i32; omega)) ?_
  refine A_istore_n 2 (L' := [some (av_R (some 3)), some (av_I a1), some (av_I (v2 + t0)), some (av_I t0), some (av_I v4), none, none]) d_Tokens_cutPitch_51 rfl (Nat.le_of_ble_eq_true rfl) rfl ?_
  refine A_pc (pc' := 52) rfl ?_
  exact b_Tokens_cutPitch_52    hb0 H
def B_Tokens_cutPitch_30 (G : cx_T) (s : Nat) (a1 : Int) (v2 : Int) (v4 : Int) (h : ah_T) (Q : Option av_T → ah_T → Prop) : Prop :=
 ((-2147483648) ≤ (v2 + 1) ∧ (v2 + 1) ≤ 2147483647) ∧ con G 0 0 0 m_Tokens_byteAt [av_R (some 3), av_I (v2 + 1)] h (fun r h2 => ∃ z4 : Int, r = some (av_I z4) ∧ hb s h2 ∧ ((z4 = v4 → B_Tokens_cutPitch_47 G s a1 (v2) (v4) (2) h2 Q ) ∧ (¬ z4 = v4 → B_Tokens_cutPitch_47 G s a1 (v2) (v4) (1) h2 Q )))
theorem b_Tokens_cutPitch_30 {G : cx_T} {s : Nat} {a1 : Int} {v2 : Int} {v4 : Int} {h : ah_T} {Q : Option av_T → ah_T → Prop} (hb0 : hb s h) (H : B_Tokens_cutPitch_30 G s a1 v2 v4 h Q ) : aw G (rm_R 1 0 0) m_Tokens_cutPitch 0 0 30 [some (av_R (some 3)), some (av_I a1), some (av_I v2), none, some (av_I v4), none, none] [] h Q := by
  unfold B_Tokens_cutPitch_30 at H
  have hS : isS s := hb0.2.1
  refine A_aload_n 0 d_Tokens_cutPitch_30 rfl rfl ?_
  refine A_iload_n 2 d_Tokens_cutPitch_31 rfl rfl ?_
  refine A_iconst d_Tokens_cutPitch_32 rfl ?_
  have g1 := H.1
  replace H := H.2
  refine A_iaddv (z := (v2 + 1)) d_Tokens_cutPitch_33 (w32_to (by omega) (by unfold i32; omega)) ?_
  refine A_callV1 m_Tokens_byteAt T_ok d_Tokens_cutPitch_34 l_Tokens_70 k_Tokens_byteAt (hb_s hb0 sf_3) rfl (by decide +kernel) (by decide) (Nat.le_of_ble_eq_true rfl) H (fun r h2 hq => ?_)
  clear H
  obtain ⟨z4, rfl, hb3, H⟩ := hq
  refine A_iload d_Tokens_cutPitch_37 rfl ?_
  refine A_icmp_ne (tgt := 46) d_Tokens_cutPitch_39 (by decide) (fun c => ?_) (fun c => ?_)
  · replace H := H.2 c
    refine A_iconst d_Tokens_cutPitch_46 rfl ?_
    refine A_pc (pc' := 47) rfl ?_
    exact b_Tokens_cutPitch_47    hb3 H
  · replace H := H.1 c
    refine A_iconst d_Tokens_cutPitch_42 rfl ?_
    refine A_goto (tgt := 47) d_Tokens_cutPitch_43 (by decide) ?_
    refine A_pc (pc' := 47) rfl ?_
    exact b_Tokens_cutPitch_47    hb3 H
def B_Tokens_cutPitch_0 (G : cx_T) (s : Nat) (a1 : Int) (h : ah_T) (Q : Option av_T → ah_T → Prop) : Prop :=
 ∀ x1 : Int, x1 = h.2.1 3 8 → -2147483648 ≤ x1 → x1 ≤ 2147483647 → ((-2147483648) ≤ (x1 + 1) ∧ (x1 + 1) ≤ 2147483647) ∧ con G 0 0 0 m_Tokens_byteAt [av_R (some 3), av_I (x1 + 1)] h (fun r h3 => ∃ z5 : Int, r = some (av_I z5) ∧ hb s h3 ∧ ((z5 = 35 → B_Tokens_cutPitch_30 G s a1 ((x1 + 1)) (z5) h3 Q ) ∧ (¬ z5 = 35 → ((z5 = 98 → B_Tokens_cutPitch_30 G s a1 ((x1 + 1)) (z5) h3 Q ) ∧ (¬ z5 = 98 → B_Tokens_cutPitch_52 G s a1 ((x1 + 1)) (0) (z5) h3 Q )))))
theorem b_Tokens_cutPitch_0 {G : cx_T} {s : Nat} {a1 : Int} {h : ah_T} {Q : Option av_T → ah_T → Prop} (hb0 : hb s h) (H : B_Tokens_cutPitch_0 G s a1 h Q ) : aw G (rm_R 1 0 0) m_Tokens_cutPitch 0 0 0 [some (av_R (some 3)), some (av_I a1), none, none, none, none, none] [] h Q := by
  unfold B_Tokens_cutPitch_0 at H
  have hS : isS s := hb0.2.1
  refine A_aload_n 0 d_Tokens_cutPitch_0 rfl rfl ?_
  refine A_getIf T_ok d_Tokens_cutPitch_1 f_Tokens_38 (hb_s hb0 sf_3) (fun x1 ex1 lx1 ux1 => ?_)
  replace H := H x1 ex1 lx1 ux1
  refine A_iconst d_Tokens_cutPitch_4 rfl ?_
  have g2 := H.1
  replace H := H.2
  refine A_iaddv (z := (x1 + 1)) d_Tokens_cutPitch_5 (w32_to (by omega) (by unfold i32; omega)) ?_
  refine A_istore_n 2 (L' := [some (av_R (some 3)), some (av_I a1), some (av_I (x1 + 1)), none, none, none, none]) d_Tokens_cutPitch_6 rfl (Nat.le_of_ble_eq_true rfl) rfl ?_
  refine A_pc (pc' := 7) rfl ?_
  refine A_iconst d_Tokens_cutPitch_7 rfl ?_
  refine A_istore_n 3 (L' := [some (av_R (some 3)), some (av_I a1), some (av_I (x1 + 1)), some (av_I 0), none, none, none]) d_Tokens_cutPitch_8 rfl (Nat.le_of_ble_eq_true rfl) rfl ?_
  refine A_aload_n 0 d_Tokens_cutPitch_9 rfl rfl ?_
  refine A_iload_n 2 d_Tokens_cutPitch_10 rfl rfl ?_
  refine A_callV1 m_Tokens_byteAt T_ok d_Tokens_cutPitch_11 l_Tokens_70 k_Tokens_byteAt (hb_s hb0 sf_3) rfl (by decide +kernel) (by decide) (Nat.le_of_ble_eq_true rfl) H (fun r h3 hq => ?_)
  clear H
  obtain ⟨z5, rfl, hb4, H⟩ := hq
  refine A_istore (L' := [some (av_R (some 3)), some (av_I a1), some (av_I (x1 + 1)), some (av_I 0), some (av_I z5), none, none]) d_Tokens_cutPitch_14 (Nat.le_of_ble_eq_true rfl) rfl ?_
  refine A_iload d_Tokens_cutPitch_16 rfl ?_
  refine A_bipush d_Tokens_cutPitch_18 rfl ?_
  refine A_icmp_eq (tgt := 30) d_Tokens_cutPitch_20 (by decide) (fun c => ?_) (fun c => ?_)
  · replace H := H.1 c
    refine A_pc (pc' := 30) rfl ?_
    refine A_free (L' := [some (av_R (some 3)), some (av_I a1), some (av_I (x1 + 1)), none, some (av_I z5), none, none]) (And.intro rfl (And.intro rfl (And.intro rfl (And.intro rfl trivial)))) ?_
    exact b_Tokens_cutPitch_30    hb4 H
  · replace H := H.2 c
    refine A_iload d_Tokens_cutPitch_23 rfl ?_
    refine A_bipush d_Tokens_cutPitch_25 rfl ?_
    refine A_icmp_ne (tgt := 52) d_Tokens_cutPitch_27 (by decide) (fun c => ?_) (fun c => ?_)
    · replace H := H.2 c
      refine A_pc (pc' := 52) rfl ?_
      exact b_Tokens_cutPitch_52    hb4 H
    · replace H := H.1 c
      refine A_pc (pc' := 30) rfl ?_
      refine A_free (L' := [some (av_R (some 3)), some (av_I a1), some (av_I (x1 + 1)), none, some (av_I z5), none, none]) (And.intro rfl (And.intro rfl (And.intro rfl (And.intro rfl trivial)))) ?_
      exact b_Tokens_cutPitch_30    hb4 H
theorem c_Tokens_cutPitch {G : cx_T} {s : Nat} {a1 : Int} {h : ah_T} {Q : Option av_T → ah_T → Prop} (hb0 : hb s h) (H : i32 a1 → B_Tokens_cutPitch_0 G s a1 h Q ) : con G 1 0 0 m_Tokens_cutPitch [av_R (some 3), av_I a1] h Q := by
  have hS : isS s := hb0.2.1
  refine con_of (L := [some (av_R (some 3)), some (av_I a1), none, none, none, none, none]) (by decide +kernel) (Nat.le_of_ble_eq_true rfl) rfl ?_
  refine A_locI 1 rfl (fun ra1 => ?_)
  exact b_Tokens_cutPitch_0   hb0 (H ra1)
def B_Tokens_cutNumber_88 (G : cx_T) (s : Nat) (t1 : Int) (h : ah_T) (Q : Option av_T → ah_T → Prop) : Prop :=
 ∀ h1 : ah_T, h1 = st_i h 3 9 t1 → Q none h1
theorem b_Tokens_cutNumber_88 {G : cx_T} {s : Nat} {t1 : Int} {h : ah_T} {Q : Option av_T → ah_T → Prop} (hb0 : hb s h) (H : B_Tokens_cutNumber_88 G s t1 h Q ) : aw G (rm_R 1 0 0) m_Tokens_cutNumber 0 0 88 [none, none, none] [av_I t1, av_R (some 3)] h Q := by
  unfold B_Tokens_cutNumber_88 at H
  have hS : isS s := hb0.2.1
  refine A_putI T_ok d_Tokens_cutNumber_88 f_Tokens_54 (hb_s hb0 sf_3) fin_f ?_
  refine A_hn (fun h1 eh1 => ?_)
  have hb2 := hb_i hb0 eh1
  replace H := H h1 eh1
  exact A_vret d_Tokens_cutNumber_91 (by decide) rfl H
def B_Tokens_cutNumber_62 (G : cx_T) (s : Nat) (v1 : Int) (v2 : Int) (h : ah_T) (Q : Option av_T → ah_T → Prop) : Prop :=
 ∀ h1 : ah_T, h1 = st_l h 3 11 v2 → ∀ x3 : Int, x3 = h1.2.1 3 8 → -2147483648 ≤ x3 → x3 ≤ 2147483647 → ((-2147483648) ≤ (x3 - v1) ∧ (x3 - v1) ≤ 2147483647) ∧ (((x3 - v1) ≤ 4 → B_Tokens_cutNumber_88 G s (259) h1 Q ) ∧ (¬ (x3 - v1) ≤ 4 → B_Tokens_cutNumber_88 G s (257) h1 Q ))
theorem b_Tokens_cutNumber_62 {G : cx_T} {s : Nat} {v1 : Int} {v2 : Int} {h : ah_T} {Q : Option av_T → ah_T → Prop} (hb0 : hb s h) (H : B_Tokens_cutNumber_62 G s v1 v2 h Q ) : aw G (rm_R 1 0 0) m_Tokens_cutNumber 0 0 62 [some (av_R (some 3)), some (av_I v1), some (av_I v2)] [] h Q := by
  unfold B_Tokens_cutNumber_62 at H
  have hS : isS s := hb0.2.1
  refine A_aload_n 0 d_Tokens_cutNumber_62 rfl rfl ?_
  refine A_iload_n 2 d_Tokens_cutNumber_63 rfl rfl ?_
  refine A_i2l d_Tokens_cutNumber_64 ?_
  refine A_putL T_ok d_Tokens_cutNumber_65 f_Tokens_60 (hb_s hb0 sf_3) fin_f ?_
  refine A_hn (fun h1 eh1 => ?_)
  have hb2 := hb_l hb0 eh1
  replace H := H h1 eh1
  refine A_aload_n 0 d_Tokens_cutNumber_68 rfl rfl ?_
  refine A_pc (pc' := 69) rfl ?_
  refine A_aload_n 0 d_Tokens_cutNumber_69 rfl rfl ?_
  refine A_getIf T_ok d_Tokens_cutNumber_70 f_Tokens_38 (hb_s hb2 sf_3) (fun x3 ex3 lx3 ux3 => ?_)
  replace H := H x3 ex3 lx3 ux3
  refine A_iload_n 1 d_Tokens_cutNumber_73 rfl rfl ?_
  have g4 := H.1
  replace H := H.2
  refine A_isubv (z := (x3 - v1)) d_Tokens_cutNumber_74 (w32_to (by omega) (by unfold i32; omega)) ?_
  refine A_iconst d_Tokens_cutNumber_75 rfl ?_
  refine A_icmp_le (tgt := 85) d_Tokens_cutNumber_76 (by decide) (fun c => ?_) (fun c => ?_)
  · replace H := H.1 c
    refine A_sipush d_Tokens_cutNumber_85 rfl ?_
    refine A_pc (pc' := 88) rfl ?_
    refine A_free (L' := [none, none, none]) trivial ?_
    exact b_Tokens_cutNumber_88    hb2 H
  · replace H := H.2 c
    refine A_sipush d_Tokens_cutNumber_79 rfl ?_
    refine A_goto (tgt := 88) d_Tokens_cutNumber_82 (by decide) ?_
    refine A_pc (pc' := 88) rfl ?_
    refine A_free (L' := [none, none, none]) trivial ?_
    exact b_Tokens_cutNumber_88    hb2 H
def B_Tokens_cutNumber_7 (G : cx_T) (s : Nat) (v1 : Int) (v2 : Int) (h : ah_T) (Q : Option av_T → ah_T → Prop) (X7 : Int → Int → ah_T → Prop) : Prop :=
 ∀ x1 : Int, x1 = h.2.1 3 8 → -2147483648 ≤ x1 → x1 ≤ 2147483647 → ∀ x2 : Int, x2 = h.2.1 3 7 → -2147483648 ≤ x2 → x2 ≤ 2147483647 → ((x2 ≤ x1 → B_Tokens_cutNumber_62 G s (v1) (v2) h Q ) ∧ (¬ x2 ≤ x1 → con G 0 0 0 m_Tokens_byteAt [av_R (some 3), av_I x1] h (fun r h4 => ∃ z6 : Int, r = some (av_I z6) ∧ hb s h4 ∧ con G 0 0 0 m_Tokens_isDigit [av_I z6] h4 (fun r h7 => ∃ z9 : Int, r = some (av_I z9) ∧ hb s h7 ∧ ((z9 = 0 → B_Tokens_cutNumber_62 G s (v1) (v2) h7 Q ) ∧ (¬ z9 = 0 → ∀ x10 : Int, x10 = w32 (10 * v2) → (-2147483648) ≤ x10 → x10 ≤ 2147483647 → ∀ x11 : Int, x11 = h7.2.1 3 8 → -2147483648 ≤ x11 → x11 ≤ 2147483647 → con G 0 0 0 m_Tokens_byteAt [av_R (some 3), av_I x11] h7 (fun r h12 => ∃ z14 : Int, r = some (av_I z14) ∧ hb s h12 ∧ ∀ x15 : Int, x15 = w32 (x10 + z14) → (-2147483648) ≤ x15 → x15 ≤ 2147483647 → ∀ x16 : Int, x16 = w32 (x15 - 48) → (-2147483648) ≤ x16 → x16 ≤ 2147483647 → ∀ x17 : Int, x17 = h12.2.1 3 8 → -2147483648 ≤ x17 → x17 ≤ 2147483647 → ((-2147483648) ≤ (x17 + 1) ∧ (x17 + 1) ≤ 2147483647) ∧ ∀ h19 : ah_T, h19 = st_i h12 3 8 (x17 + 1) → X7 (v1) (x16) h19)))))))
theorem b_Tokens_cutNumber_7 {G : cx_T} {s : Nat} {v1 : Int} {v2 : Int} {h : ah_T} {Q : Option av_T → ah_T → Prop} {X7 : Int → Int → ah_T → Prop} (hX7 : ∀ (v1 : Int) (v2 : Int) (h : ah_T), hb s h → X7 v1 v2 h → aw G (rm_R 1 0 0) m_Tokens_cutNumber 0 0 7 [some (av_R (some 3)), some (av_I v1), some (av_I v2)] [] h Q) (hb0 : hb s h) (H : B_Tokens_cutNumber_7 G s v1 v2 h Q X7) : aw G (rm_R 1 0 0) m_Tokens_cutNumber 0 0 7 [some (av_R (some 3)), some (av_I v1), some (av_I v2)] [] h Q := by
  unfold B_Tokens_cutNumber_7 at H
  have hS : isS s := hb0.2.1
  refine A_aload_n 0 d_Tokens_cutNumber_7 rfl rfl ?_
  refine A_getIf T_ok d_Tokens_cutNumber_8 f_Tokens_38 (hb_s hb0 sf_3) (fun x1 ex1 lx1 ux1 => ?_)
  replace H := H x1 ex1 lx1 ux1
  refine A_aload_n 0 d_Tokens_cutNumber_11 rfl rfl ?_
  refine A_getIf T_ok d_Tokens_cutNumber_12 f_Tokens_34 (hb_s hb0 sf_3) (fun x2 ex2 lx2 ux2 => ?_)
  replace H := H x2 ex2 lx2 ux2
  refine A_icmp_ge (tgt := 62) d_Tokens_cutNumber_15 (by decide) (fun c => ?_) (fun c => ?_)
  · replace H := H.1 c
    refine A_pc (pc' := 62) rfl ?_
    exact b_Tokens_cutNumber_62    hb0 H
  · replace H := H.2 c
    refine A_aload_n 0 d_Tokens_cutNumber_18 rfl rfl ?_
    refine A_aload_n 0 d_Tokens_cutNumber_19 rfl rfl ?_
    refine A_getIv (z := x1) T_ok d_Tokens_cutNumber_20 f_Tokens_38 (hb_s hb0 sf_3) ex1.symm ?_
    refine A_callV1 m_Tokens_byteAt T_ok d_Tokens_cutNumber_23 l_Tokens_70 k_Tokens_byteAt (hb_s hb0 sf_3) rfl (by decide +kernel) (by decide) (Nat.le_of_ble_eq_true rfl) H (fun r h4 hq => ?_)
    clear H
    obtain ⟨z6, rfl, hb5, H⟩ := hq
    refine A_callS1 m_Tokens_isDigit d_Tokens_cutNumber_26 l_Tokens_85 k_Tokens_isDigit (by decide +kernel) (by decide) (Nat.le_of_ble_eq_true rfl) H (fun r h7 hq => ?_)
    clear H
    obtain ⟨z9, rfl, hb8, H⟩ := hq
    refine A_if_eq (tgt := 62) d_Tokens_cutNumber_29 (by decide) (fun c => ?_) (fun c => ?_)
    · replace H := H.1 c
      refine A_pc (pc' := 62) rfl ?_
      exact b_Tokens_cutNumber_62    hb8 H
    · replace H := H.2 c
      refine A_iload_n 2 d_Tokens_cutNumber_32 rfl rfl ?_
      refine A_bipush d_Tokens_cutNumber_33 rfl ?_
      refine A_imulw d_Tokens_cutNumber_35 (fun x10 ex10 lx10 ux10 => ?_)
      replace H := H x10 (ex10.trans (by first | rfl | (congr 1; omega))) lx10 ux10
      refine A_aload_n 0 d_Tokens_cutNumber_36 rfl rfl ?_
      refine A_aload_n 0 d_Tokens_cutNumber_37 rfl rfl ?_
      refine A_pc (pc' := 38) rfl ?_
      refine A_getIf T_ok d_Tokens_cutNumber_38 f_Tokens_38 (hb_s hb8 sf_3) (fun x11 ex11 lx11 ux11 => ?_)
      replace H := H x11 ex11 lx11 ux11
      refine A_callV1 m_Tokens_byteAt T_ok d_Tokens_cutNumber_41 l_Tokens_70 k_Tokens_byteAt (hb_s hb8 sf_3) rfl (by decide +kernel) (by decide) (Nat.le_of_ble_eq_true rfl) H (fun r h12 hq => ?_)
      clear H
      obtain ⟨z14, rfl, hb13, H⟩ := hq
      refine A_iaddw d_Tokens_cutNumber_44 (fun x15 ex15 lx15 ux15 => ?_)
      replace H := H x15 (ex15.trans (by first | rfl | (congr 1; omega))) lx15 ux15
      refine A_bipush d_Tokens_cutNumber_45 rfl ?_
      refine A_isubw d_Tokens_cutNumber_47 (fun x16 ex16 lx16 ux16 => ?_)
      replace H := H x16 (ex16.trans (by first | rfl | (congr 1; omega))) lx16 ux16
      refine A_istore_n 2 (L' := [some (av_R (some 3)), some (av_I v1), some (av_I x16)]) d_Tokens_cutNumber_48 rfl (Nat.le_of_ble_eq_true rfl) rfl ?_
      refine A_aload_n 0 d_Tokens_cutNumber_49 rfl rfl ?_
      refine A_pc (pc' := 50) rfl ?_
      refine A_dupR d_Tokens_cutNumber_50 ?_
      refine A_getIf T_ok d_Tokens_cutNumber_51 f_Tokens_38 (hb_s hb13 sf_3) (fun x17 ex17 lx17 ux17 => ?_)
      replace H := H x17 ex17 lx17 ux17
      refine A_iconst d_Tokens_cutNumber_54 rfl ?_
      have g18 := H.1
      replace H := H.2
      refine A_iaddv (z := (x17 + 1)) d_Tokens_cutNumber_55 (w32_to (by omega) (by unfold i32; omega)) ?_
      refine A_putI T_ok d_Tokens_cutNumber_56 f_Tokens_38 (hb_s hb13 sf_3) fin_f ?_
      refine A_hn (fun h19 eh19 => ?_)
      have hb20 := hb_i hb13 eh19
      replace H := H h19 eh19
      refine A_goto (tgt := 7) d_Tokens_cutNumber_59 (by decide) ?_
      refine A_pc (pc' := 7) rfl ?_
      exact hX7 (v1) (x16) h19  hb20 H
theorem lp_Tokens_cutNumber_7 {G : cx_T} {s : Nat} {Q : Option av_T → ah_T → Prop} (I : Int → Int → ah_T → Prop) (μ : Int → Int → ah_T → Nat) (hI : ∀ (v1 : Int) (v2 : Int) (h : ah_T), hb s h → I v1 v2 h → B_Tokens_cutNumber_7 G s v1 v2 h Q (fun v1' v2' h' => I v1' v2' h' ∧ μ v1' v2' h' < μ v1 v2 h)) : ∀ (v1 : Int) (v2 : Int) (h : ah_T), hb s h → I v1 v2 h → aw G (rm_R 1 0 0) m_Tokens_cutNumber 0 0 7 [some (av_R (some 3)), some (av_I v1), some (av_I v2)] [] h Q := by
  have key : ∀ (n : Nat) (v1 : Int) (v2 : Int) (h : ah_T), hb s h → I v1 v2 h → μ v1 v2 h < n → aw G (rm_R 1 0 0) m_Tokens_cutNumber 0 0 7 [some (av_R (some 3)), some (av_I v1), some (av_I v2)] [] h Q := by
    intro n
    induction n with
    | zero => intro v1 v2 h  hb0 hi hm; omega
    | succ n ih => intro v1 v2 h  hb0 hi hm; exact b_Tokens_cutNumber_7  (fun v1' v2' h'  hb' hx => ih v1' v2' h'  hb' hx.1 (by have := hx.2; omega))  hb0 (hI v1 v2 h  hb0 hi)
  exact fun v1 v2 h  hb0 hi => key _ v1 v2 h  hb0 hi (Nat.lt_succ_self _)
def B_Tokens_cutNumber_0 (G : cx_T) (s : Nat) (h : ah_T) (Q : Option av_T → ah_T → Prop) (X7 : Int → Int → ah_T → Prop) : Prop :=
 ∀ x1 : Int, x1 = h.2.1 3 8 → -2147483648 ≤ x1 → x1 ≤ 2147483647 → X7 (x1) (0) h
theorem b_Tokens_cutNumber_0 {G : cx_T} {s : Nat} {h : ah_T} {Q : Option av_T → ah_T → Prop} {X7 : Int → Int → ah_T → Prop} (hX7 : ∀ (v1 : Int) (v2 : Int) (h : ah_T), hb s h → X7 v1 v2 h → aw G (rm_R 1 0 0) m_Tokens_cutNumber 0 0 7 [some (av_R (some 3)), some (av_I v1), some (av_I v2)] [] h Q) (hb0 : hb s h) (H : B_Tokens_cutNumber_0 G s h Q X7) : aw G (rm_R 1 0 0) m_Tokens_cutNumber 0 0 0 [some (av_R (some 3)), none, none] [] h Q := by
  unfold B_Tokens_cutNumber_0 at H
  have hS : isS s := hb0.2.1
  refine A_aload_n 0 d_Tokens_cutNumber_0 rfl rfl ?_
  refine A_getIf T_ok d_Tokens_cutNumber_1 f_Tokens_38 (hb_s hb0 sf_3) (fun x1 ex1 lx1 ux1 => ?_)
  replace H := H x1 ex1 lx1 ux1
  refine A_istore_n 1 (L' := [some (av_R (some 3)), some (av_I x1), none]) d_Tokens_cutNumber_4 rfl (Nat.le_of_ble_eq_true rfl) rfl ?_
  refine A_iconst d_Tokens_cutNumber_5 rfl ?_
  refine A_istore_n 2 (L' := [some (av_R (some 3)), some (av_I x1), some (av_I 0)]) d_Tokens_cutNumber_6 rfl (Nat.le_of_ble_eq_true rfl) rfl ?_
  refine A_pc (pc' := 7) rfl ?_
  exact hX7 (x1) (0) h  hb0 H
theorem c_Tokens_cutNumber {G : cx_T} {s : Nat} {h : ah_T} {Q : Option av_T → ah_T → Prop} {X7 : Int → Int → ah_T → Prop} (hX7 : ∀ (v1 : Int) (v2 : Int) (h : ah_T), hb s h → X7 v1 v2 h → aw G (rm_R 1 0 0) m_Tokens_cutNumber 0 0 7 [some (av_R (some 3)), some (av_I v1), some (av_I v2)] [] h Q) (hb0 : hb s h) (H : B_Tokens_cutNumber_0 G s h Q X7) : con G 1 0 0 m_Tokens_cutNumber [av_R (some 3)] h Q := by
  have hS : isS s := hb0.2.1
  refine con_of (L := [some (av_R (some 3)), none, none]) (by decide +kernel) (Nat.le_of_ble_eq_true rfl) rfl ?_
  exact b_Tokens_cutNumber_0  hX7 hb0 (H )
def B_Tokens_next_89 (G : cx_T) (s : Nat) (h : ah_T) (Q : Option av_T → ah_T → Prop) : Prop :=
 Q none h
theorem b_Tokens_next_89 {G : cx_T} {s : Nat} {h : ah_T} {Q : Option av_T → ah_T → Prop} (hb0 : hb s h) (H : B_Tokens_next_89 G s h Q ) : aw G (rm_R 0 0 0) m_Tokens_next 0 0 89 [none] [] h Q := by
  unfold B_Tokens_next_89 at H
  have hS : isS s := hb0.2.1
  exact A_vret d_Tokens_next_89 (by decide) rfl H
def B_Tokens_next_0 (G : cx_T) (s : Nat) (h : ah_T) (Q : Option av_T → ah_T → Prop) : Prop :=
 ∀ x1 : Int, x1 = h.2.1 3 5 → -2147483648 ≤ x1 → x1 ≤ 2147483647 → ((-2147483648) ≤ (x1 + 1) ∧ (x1 + 1) ≤ 2147483647) ∧ ∀ x3 : Int, x3 = h.2.1 3 4 → -2147483648 ≤ x3 → x3 ≤ 2147483647 → ((x3 ≤ (x1 + 1) → B_Tokens_next_89 G s h Q ) ∧ (¬ x3 ≤ (x1 + 1) → ((2001 ≤ (x1 + 1) → B_Tokens_next_89 G s h Q ) ∧ (¬ 2001 ≤ (x1 + 1) → ∀ h7 : ah_T, h7 = st_i h 3 5 (x1 + 1) → (0 ≤ (x1 + 1) ∧ (x1 + 1) < 2001) ∧ ∀ x11 : Int, x11 = h7.2.1 4 ((x1 + 1)).toNat → -2147483648 ≤ x11 → x11 ≤ 2147483647 → ∀ h13 : ah_T, h13 = st_i h7 3 9 x11 → ∀ x17 : Int, x17 = h13.2.1 5 ((x1 + 1)).toNat → -2147483648 ≤ x17 → x17 ≤ 2147483647 → ∀ h18 : ah_T, h18 = st_i h13 3 10 x17 → ∀ x22 : Int, x22 = h18.2.2.1 6 ((x1 + 1)).toNat → -9223372036854775808 ≤ x22 → x22 ≤ 9223372036854775807 → ∀ h23 : ah_T, h23 = st_l h18 3 11 x22 → ∀ x27 : Int, x27 = h23.2.1 7 ((x1 + 1)).toNat → -2147483648 ≤ x27 → x27 ≤ 2147483647 → ∀ h28 : ah_T, h28 = st_i h23 3 12 x27 → B_Tokens_next_89 G s h28 Q ))))
theorem b_Tokens_next_0 {G : cx_T} {s : Nat} {h : ah_T} {Q : Option av_T → ah_T → Prop} (hb0 : hb s h) (H : B_Tokens_next_0 G s h Q ) : aw G (rm_R 0 0 0) m_Tokens_next 0 0 0 [some (av_R (some 3))] [] h Q := by
  unfold B_Tokens_next_0 at H
  have hS : isS s := hb0.2.1
  refine A_aload_n 0 d_Tokens_next_0 rfl rfl ?_
  refine A_getIf T_ok d_Tokens_next_1 f_Tokens_48 (hb_s hb0 sf_3) (fun x1 ex1 lx1 ux1 => ?_)
  replace H := H x1 ex1 lx1 ux1
  refine A_iconst d_Tokens_next_4 rfl ?_
  have g2 := H.1
  replace H := H.2
  refine A_iaddv (z := (x1 + 1)) d_Tokens_next_5 (w32_to (by omega) (by unfold i32; omega)) ?_
  refine A_aload_n 0 d_Tokens_next_6 rfl rfl ?_
  refine A_pc (pc' := 7) rfl ?_
  refine A_getIf T_ok d_Tokens_next_7 f_Tokens_41 (hb_s hb0 sf_3) (fun x3 ex3 lx3 ux3 => ?_)
  replace H := H x3 ex3 lx3 ux3
  refine A_icmp_ge (tgt := 89) d_Tokens_next_10 (by decide) (fun c => ?_) (fun c => ?_)
  · replace H := H.1 c
    refine A_pc (pc' := 89) rfl ?_
    refine A_free (L' := [none]) trivial ?_
    exact b_Tokens_next_89    hb0 H
  · replace H := H.2 c
    refine A_aload_n 0 d_Tokens_next_13 rfl rfl ?_
    refine A_getIv (z := x1) T_ok d_Tokens_next_14 f_Tokens_48 (hb_s hb0 sf_3) ex1.symm ?_
    refine A_iconst d_Tokens_next_17 rfl ?_
    refine A_iaddv (z := (x1 + 1)) d_Tokens_next_18 (w32_to (by omega) (by unfold i32; omega)) ?_
    refine A_aload_n 0 d_Tokens_next_19 rfl rfl ?_
    refine A_pc (pc' := 20) rfl ?_
    refine A_getAv (z := some 4) T_ok d_Tokens_next_20 f_Tokens_9 (hb_s hb0 sf_3) (hb_r hb0 rff_3_0) ?_
    refine A_alenN d_Tokens_next_23 (hb_s hb0 sf_4) (by decide) (by decide) ?_
    refine A_icmp_ge (tgt := 89) d_Tokens_next_24 (by decide) (fun c => ?_) (fun c => ?_)
    · replace H := H.1 c
      refine A_pc (pc' := 89) rfl ?_
      refine A_free (L' := [none]) trivial ?_
      exact b_Tokens_next_89    hb0 H
    · replace H := H.2 c
      refine A_aload_n 0 d_Tokens_next_27 rfl rfl ?_
      refine A_dupR d_Tokens_next_28 ?_
      refine A_getIv (z := x1) T_ok d_Tokens_next_29 f_Tokens_48 (hb_s hb0 sf_3) ex1.symm ?_
      refine A_iconst d_Tokens_next_32 rfl ?_
      refine A_iaddv (z := (x1 + 1)) d_Tokens_next_33 (w32_to (by omega) (by unfold i32; omega)) ?_
      refine A_pc (pc' := 34) rfl ?_
      refine A_putI T_ok d_Tokens_next_34 f_Tokens_48 (hb_s hb0 sf_3) fin_f ?_
      refine A_hn (fun h7 eh7 => ?_)
      have hb8 := hb_i hb0 eh7
      replace H := H h7 eh7
      refine A_aload_n 0 d_Tokens_next_37 rfl rfl ?_
      refine A_aload_n 0 d_Tokens_next_38 rfl rfl ?_
      refine A_getAv (z := some 4) T_ok d_Tokens_next_39 f_Tokens_9 (hb_s hb8 sf_3) (hb_r hb8 rff_3_0) ?_
      refine A_aload_n 0 d_Tokens_next_42 rfl rfl ?_
      refine A_getIv (z := (x1 + 1)) T_ok d_Tokens_next_43 f_Tokens_48 (hb_s hb8 sf_3) (mv_i eh7) ?_
      refine A_pc (pc' := 46) rfl ?_
      have g12 := H.1
      replace H := H.2
      refine A_ialoadf d_Tokens_next_46 (hb_s hb8 sf_4) g12.1 g12.2 (fun x11 ex11 lx11 ux11 => ?_)
      replace H := H x11 ex11 lx11 ux11
      refine A_putI T_ok d_Tokens_next_47 f_Tokens_54 (hb_s hb8 sf_3) fin_f ?_
      refine A_hn (fun h13 eh13 => ?_)
      have hb14 := hb_i hb8 eh13
      replace H := H h13 eh13
      refine A_aload_n 0 d_Tokens_next_50 rfl rfl ?_
      refine A_aload_n 0 d_Tokens_next_51 rfl rfl ?_
      refine A_getAv (z := some 5) T_ok d_Tokens_next_52 f_Tokens_15 (hb_s hb14 sf_3) (hb_r hb14 rff_3_1) ?_
      refine A_aload_n 0 d_Tokens_next_55 rfl rfl ?_
      refine A_pc (pc' := 56) rfl ?_
      refine A_getIv (z := (x1 + 1)) T_ok d_Tokens_next_56 f_Tokens_48 (hb_s hb14 sf_3) ((mm_i eh13 (fun q => absurd q.2 (by decide))).trans (mv_i eh7)) ?_
      refine A_ialoadf d_Tokens_next_59 (hb_s hb14 sf_5) g12.1 g12.2 (fun x17 ex17 lx17 ux17 => ?_)
      replace H := H x17 ex17 lx17 ux17
      refine A_putI T_ok d_Tokens_next_60 f_Tokens_57 (hb_s hb14 sf_3) fin_f ?_
      refine A_hn (fun h18 eh18 => ?_)
      have hb19 := hb_i hb14 eh18
      replace H := H h18 eh18
      refine A_aload_n 0 d_Tokens_next_63 rfl rfl ?_
      refine A_aload_n 0 d_Tokens_next_64 rfl rfl ?_
      refine A_getAv (z := some 6) T_ok d_Tokens_next_65 f_Tokens_18 (hb_s hb19 sf_3) (hb_r hb19 rff_3_2) ?_
      refine A_pc (pc' := 68) rfl ?_
      refine A_aload_n 0 d_Tokens_next_68 rfl rfl ?_
      refine A_getIv (z := (x1 + 1)) T_ok d_Tokens_next_69 f_Tokens_48 (hb_s hb19 sf_3) ((mm_i eh18 (fun q => absurd q.2 (by decide))).trans ((mm_i eh13 (fun q => absurd q.2 (by decide))).trans (mv_i eh7))) ?_
      refine A_laloadf d_Tokens_next_72 (hb_s hb19 sf_6) g12.1 g12.2 (fun x22 ex22 lx22 ux22 => ?_)
      replace H := H x22 ex22 lx22 ux22
      refine A_putL T_ok d_Tokens_next_73 f_Tokens_60 (hb_s hb19 sf_3) fin_f ?_
      refine A_hn (fun h23 eh23 => ?_)
      have hb24 := hb_l hb19 eh23
      replace H := H h23 eh23
      refine A_aload_n 0 d_Tokens_next_76 rfl rfl ?_
      refine A_aload_n 0 d_Tokens_next_77 rfl rfl ?_
      refine A_pc (pc' := 78) rfl ?_
      refine A_getAv (z := some 7) T_ok d_Tokens_next_78 f_Tokens_22 (hb_s hb24 sf_3) (hb_r hb24 rff_3_3) ?_
      refine A_aload_n 0 d_Tokens_next_81 rfl rfl ?_
      refine A_getIv (z := (x1 + 1)) T_ok d_Tokens_next_82 f_Tokens_48 (hb_s hb24 sf_3) ((mm_lo eh23).trans ((mm_i eh18 (fun q => absurd q.2 (by decide))).trans ((mm_i eh13 (fun q => absurd q.2 (by decide))).trans (mv_i eh7)))) ?_
      refine A_ialoadf d_Tokens_next_85 (hb_s hb24 sf_7) g12.1 g12.2 (fun x27 ex27 lx27 ux27 => ?_)
      replace H := H x27 ex27 lx27 ux27
      refine A_putI T_ok d_Tokens_next_86 f_Tokens_64 (hb_s hb24 sf_3) fin_f ?_
      refine A_hn (fun h28 eh28 => ?_)
      have hb29 := hb_i hb24 eh28
      replace H := H h28 eh28
      refine A_pc (pc' := 89) rfl ?_
      refine A_free (L' := [none]) trivial ?_
      exact b_Tokens_next_89    hb29 H
theorem c_Tokens_next {G : cx_T} {s : Nat} {h : ah_T} {Q : Option av_T → ah_T → Prop} (hb0 : hb s h) (H : B_Tokens_next_0 G s h Q ) : con G 0 0 0 m_Tokens_next [av_R (some 3)] h Q := by
  have hS : isS s := hb0.2.1
  refine con_of (L := [some (av_R (some 3))]) (by decide +kernel) (Nat.le_of_ble_eq_true rfl) rfl ?_
  exact b_Tokens_next_0   hb0 (H )
def B_Tokens_lettersOf_4 (G : cx_T) (s : Nat) (v1 : Int) (v3 : Int) (h : ah_T) (Q : Option av_T → ah_T → Prop) (X4 : Int → Int → ah_T → Prop) : Prop :=
 con G 1 0 0 m_JString_length [av_S 10] h (fun r h1 => ∃ z3 : Int, r = some (av_I z3) ∧ hb s h1 ∧ ((z3 ≤ v3 → Q (some (av_L v1)) h1) ∧ (¬ z3 ≤ v3 → ∀ x4 : Int, x4 = ((Int64.ofInt v1) <<< ((Int32.ofInt 8).toInt64 &&& 63)).toInt → (-9223372036854775808) ≤ x4 → x4 ≤ 9223372036854775807 → con G 4 0 0 m_JString_charAt [av_S 10, av_I v3] h1 (fun r h5 => ∃ z7 : Int, r = some (av_I z7) ∧ hb s h5 ∧ ∀ x8 : Int, x8 = ((Int64.ofInt x4) ||| (Int64.ofInt z7)).toInt → (-9223372036854775808) ≤ x8 → x8 ≤ 9223372036854775807 → ((-2147483648) ≤ (v3 + 1) ∧ (v3 + 1) ≤ 2147483647) ∧ X4 (x8) ((v3 + 1)) h5))))
theorem b_Tokens_lettersOf_4 {G : cx_T} {s : Nat} {v1 : Int} {v3 : Int} {h : ah_T} {Q : Option av_T → ah_T → Prop} {X4 : Int → Int → ah_T → Prop} (hX4 : ∀ (v1 : Int) (v3 : Int) (h : ah_T), hb s h → X4 v1 v3 h → aw G (rm_R 5 0 0) m_Tokens_lettersOf 0 0 4 [some (av_S 10), some (av_L v1), none, some (av_I v3)] [] h Q) (hb0 : hb s h) (H : B_Tokens_lettersOf_4 G s v1 v3 h Q X4) : aw G (rm_R 5 0 0) m_Tokens_lettersOf 0 0 4 [some (av_S 10), some (av_L v1), none, some (av_I v3)] [] h Q := by
  unfold B_Tokens_lettersOf_4 at H
  have hS : isS s := hb0.2.1
  refine A_iload_n 3 d_Tokens_lettersOf_4 rfl rfl ?_
  refine A_aload_nS 0 d_Tokens_lettersOf_5 rfl rfl ?_
  refine A_pc (pc' := 6) rfl ?_
  refine A_callT0 (i := 0) (N := m_JString_length) (by decide) rfl d_Tokens_lettersOf_6 ll_Tokens_124 k_JString_length (by decide +kernel) (by decide) (Nat.le_of_ble_eq_true rfl) H (fun r h1 hq => ?_)
  clear H
  obtain ⟨z3, rfl, hb2, H⟩ := hq
  refine A_icmp_ge (tgt := 30) d_Tokens_lettersOf_9 (by decide) (fun c => ?_) (fun c => ?_)
  · replace H := H.1 c
    refine A_lload_n 1 d_Tokens_lettersOf_30 rfl rfl ?_
    exact A_lret d_Tokens_lettersOf_31 (by decide) rfl H
  · replace H := H.2 c
    refine A_lload_n 1 d_Tokens_lettersOf_12 rfl rfl ?_
    refine A_bipush d_Tokens_lettersOf_13 rfl ?_
    refine A_lshl d_Tokens_lettersOf_15 ?_
    refine A_nrL (fun x4 ex4 lx4 ux4 => ?_)
    replace H := H x4 ex4 lx4 ux4
    refine A_aload_nS 0 d_Tokens_lettersOf_16 rfl rfl ?_
    refine A_iload_n 3 d_Tokens_lettersOf_17 rfl rfl ?_
    refine A_pc (pc' := 18) rfl ?_
    refine A_pc (pc' := 18) rfl ?_
    refine A_callT1 (i := 0) (N := m_JString_charAt) (by decide) rfl d_Tokens_lettersOf_18 ll_Tokens_127 k_JString_charAt (by decide +kernel) (by decide) (Nat.le_of_ble_eq_true rfl) H (fun r h5 hq => ?_)
    clear H
    obtain ⟨z7, rfl, hb6, H⟩ := hq
    refine A_i2l d_Tokens_lettersOf_21 ?_
    refine A_lor d_Tokens_lettersOf_22 ?_
    refine A_nrL (fun x8 ex8 lx8 ux8 => ?_)
    replace H := H x8 ex8 lx8 ux8
    refine A_lstore_n 1 (L' := [some (av_S 10), some (av_L x8), none, some (av_I v3)]) d_Tokens_lettersOf_23 rfl (Nat.le_of_ble_eq_true rfl) rfl ?_
    have g9 := H.1
    replace H := H.2
    refine A_iincv (z := (v3 + 1)) (L' := [some (av_S 10), some (av_L x8), none, some (av_I (v3 + 1))]) d_Tokens_lettersOf_24 rfl (w32_to (by omega) (by unfold i32; omega)) rfl ?_
    refine A_goto (tgt := 4) d_Tokens_lettersOf_27 (by decide) ?_
    refine A_pc (pc' := 4) rfl ?_
    exact hX4 (x8) ((v3 + 1)) h5  hb6 H
theorem lp_Tokens_lettersOf_4 {G : cx_T} {s : Nat} {Q : Option av_T → ah_T → Prop} (I : Int → Int → ah_T → Prop) (μ : Int → Int → ah_T → Nat) (hI : ∀ (v1 : Int) (v3 : Int) (h : ah_T), hb s h → I v1 v3 h → B_Tokens_lettersOf_4 G s v1 v3 h Q (fun v1' v3' h' => I v1' v3' h' ∧ μ v1' v3' h' < μ v1 v3 h)) : ∀ (v1 : Int) (v3 : Int) (h : ah_T), hb s h → I v1 v3 h → aw G (rm_R 5 0 0) m_Tokens_lettersOf 0 0 4 [some (av_S 10), some (av_L v1), none, some (av_I v3)] [] h Q := by
  have key : ∀ (n : Nat) (v1 : Int) (v3 : Int) (h : ah_T), hb s h → I v1 v3 h → μ v1 v3 h < n → aw G (rm_R 5 0 0) m_Tokens_lettersOf 0 0 4 [some (av_S 10), some (av_L v1), none, some (av_I v3)] [] h Q := by
    intro n
    induction n with
    | zero => intro v1 v3 h  hb0 hi hm; omega
    | succ n ih => intro v1 v3 h  hb0 hi hm; exact b_Tokens_lettersOf_4  (fun v1' v3' h'  hb' hx => ih v1' v3' h'  hb' hx.1 (by have := hx.2; omega))  hb0 (hI v1 v3 h  hb0 hi)
  exact fun v1 v3 h  hb0 hi => key _ v1 v3 h  hb0 hi (Nat.lt_succ_self _)
def B_Tokens_lettersOf_0 (G : cx_T) (s : Nat) (h : ah_T) (Q : Option av_T → ah_T → Prop) (X4 : Int → Int → ah_T → Prop) : Prop :=
 X4 (0) (0) h
theorem b_Tokens_lettersOf_0 {G : cx_T} {s : Nat} {h : ah_T} {Q : Option av_T → ah_T → Prop} {X4 : Int → Int → ah_T → Prop} (hX4 : ∀ (v1 : Int) (v3 : Int) (h : ah_T), hb s h → X4 v1 v3 h → aw G (rm_R 5 0 0) m_Tokens_lettersOf 0 0 4 [some (av_S 10), some (av_L v1), none, some (av_I v3)] [] h Q) (hb0 : hb s h) (H : B_Tokens_lettersOf_0 G s h Q X4) : aw G (rm_R 5 0 0) m_Tokens_lettersOf 0 0 0 [some (av_S 10), none, none, none] [] h Q := by
  unfold B_Tokens_lettersOf_0 at H
  have hS : isS s := hb0.2.1
  refine A_lconst_0 d_Tokens_lettersOf_0 ?_
  refine A_lstore_n 1 (L' := [some (av_S 10), some (av_L 0), none, none]) d_Tokens_lettersOf_1 rfl (Nat.le_of_ble_eq_true rfl) rfl ?_
  refine A_iconst d_Tokens_lettersOf_2 rfl ?_
  refine A_istore_n 3 (L' := [some (av_S 10), some (av_L 0), none, some (av_I 0)]) d_Tokens_lettersOf_3 rfl (Nat.le_of_ble_eq_true rfl) rfl ?_
  refine A_pc (pc' := 4) rfl ?_
  exact hX4 (0) (0) h  hb0 H
theorem c_Tokens_lettersOf {G : cx_T} {s : Nat} {h : ah_T} {Q : Option av_T → ah_T → Prop} {X4 : Int → Int → ah_T → Prop} (hX4 : ∀ (v1 : Int) (v3 : Int) (h : ah_T), hb s h → X4 v1 v3 h → aw G (rm_R 5 0 0) m_Tokens_lettersOf 0 0 4 [some (av_S 10), some (av_L v1), none, some (av_I v3)] [] h Q) (hb0 : hb s h) (H : B_Tokens_lettersOf_0 G s h Q X4) : con G 5 0 0 m_Tokens_lettersOf [av_S 10] h Q := by
  have hS : isS s := hb0.2.1
  refine con_of (L := [some (av_S 10), none, none, none]) (by decide +kernel) (Nat.le_of_ble_eq_true rfl) rfl ?_
  exact b_Tokens_lettersOf_0  hX4 hb0 (H )
def B_Tokens_kindOfName_89 (G : cx_T) (s : Nat) (a0 : Int) (t0 : Int) (h : ah_T) (Q : Option av_T → ah_T → Prop) : Prop :=
 Q (some (av_I t0)) h
theorem b_Tokens_kindOfName_89 {G : cx_T} {s : Nat} {a0 : Int} {t0 : Int} {h : ah_T} {Q : Option av_T → ah_T → Prop} (hb0 : hb s h) (H : B_Tokens_kindOfName_89 G s a0 t0 h Q ) : aw G (rm_R 6 0 0) m_Tokens_kindOfName 0 0 89 [none, none] [av_I t0] h Q := by
  unfold B_Tokens_kindOfName_89 at H
  have hS : isS s := hb0.2.1
  exact A_iret d_Tokens_kindOfName_89 (by decide) rfl H
def B_Tokens_kindOfName_0 (G : cx_T) (s : Nat) (a0 : Int) (h : ah_T) (Q : Option av_T → ah_T → Prop) : Prop :=
 con G 5 0 0 m_Tokens_lettersOf [av_S 10] h (fun r h1 => ∃ z3 : Int, r = some (av_L z3) ∧ hb s h1 ∧ ((a0 = z3 → Q (some (av_I 261)) h1) ∧ (¬ a0 = z3 → con G 5 0 0 m_Tokens_lettersOf [av_S 11] h1 (fun r h5 => ∃ z7 : Int, r = some (av_L z7) ∧ hb s h5 ∧ ((a0 = z7 → Q (some (av_I 262)) h5) ∧ (¬ a0 = z7 → con G 5 0 0 m_Tokens_lettersOf [av_S 12] h5 (fun r h9 => ∃ z11 : Int, r = some (av_L z11) ∧ hb s h9 ∧ ((a0 = z11 → Q (some (av_I 263)) h9) ∧ (¬ a0 = z11 → con G 5 0 0 m_Tokens_lettersOf [av_S 13] h9 (fun r h13 => ∃ z15 : Int, r = some (av_L z15) ∧ hb s h13 ∧ ((a0 = z15 → Q (some (av_I 264)) h13) ∧ (¬ a0 = z15 → con G 5 0 0 m_Tokens_lettersOf [av_S 14] h13 (fun r h17 => ∃ z19 : Int, r = some (av_L z19) ∧ hb s h17 ∧ ((a0 = z19 → Q (some (av_I 265)) h17) ∧ (¬ a0 = z19 → con G 5 0 0 m_Tokens_lettersOf [av_S 15] h17 (fun r h21 => ∃ z23 : Int, r = some (av_L z23) ∧ hb s h21 ∧ ((a0 = z23 → B_Tokens_kindOfName_89 G s a0 (266) h21 Q ) ∧ (¬ a0 = z23 → B_Tokens_kindOfName_89 G s a0 (260) h21 Q ))))))))))))))))))
theorem b_Tokens_kindOfName_0 {G : cx_T} {s : Nat} {a0 : Int} {h : ah_T} {Q : Option av_T → ah_T → Prop} (hb0 : hb s h) (H : B_Tokens_kindOfName_0 G s a0 h Q ) : aw G (rm_R 6 0 0) m_Tokens_kindOfName 0 0 0 [some (av_L a0), none] [] h Q := by
  unfold B_Tokens_kindOfName_0 at H
  have hS : isS s := hb0.2.1
  refine A_lload_n 0 d_Tokens_kindOfName_0 rfl rfl ?_
  refine A_ldcS (i := 0) rfl rfl d_Tokens_kindOfName_1 ?_
  refine A_callS1 m_Tokens_lettersOf d_Tokens_kindOfName_3 l_Tokens_110 k_Tokens_lettersOf (by decide +kernel) (by decide) (Nat.le_of_ble_eq_true rfl) H (fun r h1 hq => ?_)
  clear H
  obtain ⟨z3, rfl, hb2, H⟩ := hq
  refine A_lcmpn d_Tokens_kindOfName_6 (fun x4 lx4 ex4 gx4 _ _ => ?_)
  refine A_if_ne (tgt := 14) d_Tokens_kindOfName_7 (by decide) (fun c => ?_) (fun c => ?_)
  · replace H := H.2 (by omega)
    refine A_lload_n 0 d_Tokens_kindOfName_14 rfl rfl ?_
    refine A_ldcS (i := 1) rfl rfl d_Tokens_kindOfName_15 ?_
    refine A_callS1 m_Tokens_lettersOf d_Tokens_kindOfName_17 l_Tokens_110 k_Tokens_lettersOf (by decide +kernel) (by decide) (Nat.le_of_ble_eq_true rfl) H (fun r h5 hq => ?_)
    clear H
    obtain ⟨z7, rfl, hb6, H⟩ := hq
    refine A_lcmpn d_Tokens_kindOfName_20 (fun x8 lx8 ex8 gx8 _ _ => ?_)
    refine A_if_ne (tgt := 28) d_Tokens_kindOfName_21 (by decide) (fun c => ?_) (fun c => ?_)
    · replace H := H.2 (by omega)
      refine A_lload_n 0 d_Tokens_kindOfName_28 rfl rfl ?_
      refine A_ldcS (i := 2) rfl rfl d_Tokens_kindOfName_29 ?_
      refine A_callS1 m_Tokens_lettersOf d_Tokens_kindOfName_31 l_Tokens_110 k_Tokens_lettersOf (by decide +kernel) (by decide) (Nat.le_of_ble_eq_true rfl) H (fun r h9 hq => ?_)
      clear H
      obtain ⟨z11, rfl, hb10, H⟩ := hq
      refine A_lcmpn d_Tokens_kindOfName_34 (fun x12 lx12 ex12 gx12 _ _ => ?_)
      refine A_if_ne (tgt := 42) d_Tokens_kindOfName_35 (by decide) (fun c => ?_) (fun c => ?_)
      · replace H := H.2 (by omega)
        refine A_lload_n 0 d_Tokens_kindOfName_42 rfl rfl ?_
        refine A_ldcS (i := 3) rfl rfl d_Tokens_kindOfName_43 ?_
        refine A_callS1 m_Tokens_lettersOf d_Tokens_kindOfName_45 l_Tokens_110 k_Tokens_lettersOf (by decide +kernel) (by decide) (Nat.le_of_ble_eq_true rfl) H (fun r h13 hq => ?_)
        clear H
        obtain ⟨z15, rfl, hb14, H⟩ := hq
        refine A_lcmpn d_Tokens_kindOfName_48 (fun x16 lx16 ex16 gx16 _ _ => ?_)
        refine A_if_ne (tgt := 56) d_Tokens_kindOfName_49 (by decide) (fun c => ?_) (fun c => ?_)
        · replace H := H.2 (by omega)
          refine A_lload_n 0 d_Tokens_kindOfName_56 rfl rfl ?_
          refine A_ldcS (i := 4) rfl rfl d_Tokens_kindOfName_57 ?_
          refine A_callS1 m_Tokens_lettersOf d_Tokens_kindOfName_59 l_Tokens_110 k_Tokens_lettersOf (by decide +kernel) (by decide) (Nat.le_of_ble_eq_true rfl) H (fun r h17 hq => ?_)
          clear H
          obtain ⟨z19, rfl, hb18, H⟩ := hq
          refine A_lcmpn d_Tokens_kindOfName_62 (fun x20 lx20 ex20 gx20 _ _ => ?_)
          refine A_if_ne (tgt := 70) d_Tokens_kindOfName_63 (by decide) (fun c => ?_) (fun c => ?_)
          · replace H := H.2 (by omega)
            refine A_lload_n 0 d_Tokens_kindOfName_70 rfl rfl ?_
            refine A_ldcS (i := 5) rfl rfl d_Tokens_kindOfName_71 ?_
            refine A_callS1 m_Tokens_lettersOf d_Tokens_kindOfName_73 l_Tokens_110 k_Tokens_lettersOf (by decide +kernel) (by decide) (Nat.le_of_ble_eq_true rfl) H (fun r h21 hq => ?_)
            clear H
            obtain ⟨z23, rfl, hb22, H⟩ := hq
            refine A_lcmpn d_Tokens_kindOfName_76 (fun x24 lx24 ex24 gx24 _ _ => ?_)
            refine A_if_ne (tgt := 86) d_Tokens_kindOfName_77 (by decide) (fun c => ?_) (fun c => ?_)
            · replace H := H.2 (by omega)
              refine A_sipush d_Tokens_kindOfName_86 rfl ?_
              refine A_pc (pc' := 89) rfl ?_
              refine A_free (L' := [none, none]) trivial ?_
              exact b_Tokens_kindOfName_89    hb22 H
            · replace H := H.1 (by omega)
              refine A_sipush d_Tokens_kindOfName_80 rfl ?_
              refine A_goto (tgt := 89) d_Tokens_kindOfName_83 (by decide) ?_
              refine A_pc (pc' := 89) rfl ?_
              refine A_free (L' := [none, none]) trivial ?_
              exact b_Tokens_kindOfName_89    hb22 H
          · replace H := H.1 (by omega)
            refine A_sipush d_Tokens_kindOfName_66 rfl ?_
            exact A_iret d_Tokens_kindOfName_69 (by decide) rfl H
        · replace H := H.1 (by omega)
          refine A_sipush d_Tokens_kindOfName_52 rfl ?_
          exact A_iret d_Tokens_kindOfName_55 (by decide) rfl H
      · replace H := H.1 (by omega)
        refine A_sipush d_Tokens_kindOfName_38 rfl ?_
        exact A_iret d_Tokens_kindOfName_41 (by decide) rfl H
    · replace H := H.1 (by omega)
      refine A_sipush d_Tokens_kindOfName_24 rfl ?_
      exact A_iret d_Tokens_kindOfName_27 (by decide) rfl H
  · replace H := H.1 (by omega)
    refine A_sipush d_Tokens_kindOfName_10 rfl ?_
    exact A_iret d_Tokens_kindOfName_13 (by decide) rfl H
theorem c_Tokens_kindOfName {G : cx_T} {s : Nat} {a0 : Int} {h : ah_T} {Q : Option av_T → ah_T → Prop} (hb0 : hb s h) (H : i64 a0 → B_Tokens_kindOfName_0 G s a0 h Q ) : con G 6 0 0 m_Tokens_kindOfName [av_L a0] h Q := by
  have hS : isS s := hb0.2.1
  refine con_of (L := [some (av_L a0), none]) (by decide +kernel) (Nat.le_of_ble_eq_true rfl) rfl ?_
  refine A_locL 0 rfl (fun ra0 => ?_)
  exact b_Tokens_kindOfName_0   hb0 (H ra0)
def B_Tokens_cutName_87 (G : cx_T) (s : Nat) (t1 : Int) (h : ah_T) (Q : Option av_T → ah_T → Prop) : Prop :=
 ∀ h1 : ah_T, h1 = st_i h 3 9 t1 → Q none h1
theorem b_Tokens_cutName_87 {G : cx_T} {s : Nat} {t1 : Int} {h : ah_T} {Q : Option av_T → ah_T → Prop} (hb0 : hb s h) (H : B_Tokens_cutName_87 G s t1 h Q ) : aw G (rm_R 7 0 0) m_Tokens_cutName 0 0 87 [none, none, none, none] [av_I t1, av_R (some 3)] h Q := by
  unfold B_Tokens_cutName_87 at H
  have hS : isS s := hb0.2.1
  refine A_putI T_ok d_Tokens_cutName_87 f_Tokens_54 (hb_s hb0 sf_3) fin_f ?_
  refine A_hn (fun h1 eh1 => ?_)
  have hb2 := hb_i hb0 eh1
  replace H := H h1 eh1
  exact A_vret d_Tokens_cutName_90 (by decide) rfl H
def B_Tokens_cutName_60 (G : cx_T) (s : Nat) (v1 : Int) (v2 : Int) (h : ah_T) (Q : Option av_T → ah_T → Prop) : Prop :=
 ∀ h1 : ah_T, h1 = st_l h 3 11 v2 → ∀ x3 : Int, x3 = h1.2.1 3 8 → -2147483648 ≤ x3 → x3 ≤ 2147483647 → ((-2147483648) ≤ (x3 - v1) ∧ (x3 - v1) ≤ 2147483647) ∧ (((x3 - v1) ≤ 8 → con G 6 0 0 m_Tokens_kindOfName [av_L v2] h1 (fun r h5 => ∃ z7 : Int, r = some (av_I z7) ∧ hb s h5 ∧ B_Tokens_cutName_87 G s (z7) h5 Q )) ∧ (¬ (x3 - v1) ≤ 8 → B_Tokens_cutName_87 G s (257) h1 Q ))
theorem b_Tokens_cutName_60 {G : cx_T} {s : Nat} {v1 : Int} {v2 : Int} {h : ah_T} {Q : Option av_T → ah_T → Prop} (hb0 : hb s h) (H : B_Tokens_cutName_60 G s v1 v2 h Q ) : aw G (rm_R 7 0 0) m_Tokens_cutName 0 0 60 [some (av_R (some 3)), some (av_I v1), some (av_L v2), none] [] h Q := by
  unfold B_Tokens_cutName_60 at H
  have hS : isS s := hb0.2.1
  refine A_aload_n 0 d_Tokens_cutName_60 rfl rfl ?_
  refine A_lload_n 2 d_Tokens_cutName_61 rfl rfl ?_
  refine A_putL T_ok d_Tokens_cutName_62 f_Tokens_60 (hb_s hb0 sf_3) fin_f ?_
  refine A_hn (fun h1 eh1 => ?_)
  have hb2 := hb_l hb0 eh1
  replace H := H h1 eh1
  refine A_aload_n 0 d_Tokens_cutName_65 rfl rfl ?_
  refine A_aload_n 0 d_Tokens_cutName_66 rfl rfl ?_
  refine A_pc (pc' := 67) rfl ?_
  refine A_getIf T_ok d_Tokens_cutName_67 f_Tokens_38 (hb_s hb2 sf_3) (fun x3 ex3 lx3 ux3 => ?_)
  replace H := H x3 ex3 lx3 ux3
  refine A_iload_n 1 d_Tokens_cutName_70 rfl rfl ?_
  have g4 := H.1
  replace H := H.2
  refine A_isubv (z := (x3 - v1)) d_Tokens_cutName_71 (w32_to (by omega) (by unfold i32; omega)) ?_
  refine A_bipush d_Tokens_cutName_72 rfl ?_
  refine A_icmp_le (tgt := 83) d_Tokens_cutName_74 (by decide) (fun c => ?_) (fun c => ?_)
  · replace H := H.1 c
    refine A_lload_n 2 d_Tokens_cutName_83 rfl rfl ?_
    refine A_callS1 m_Tokens_kindOfName d_Tokens_cutName_84 l_Tokens_104 k_Tokens_kindOfName (by decide +kernel) (by decide) (Nat.le_of_ble_eq_true rfl) H (fun r h5 hq => ?_)
    clear H
    obtain ⟨z7, rfl, hb6, H⟩ := hq
    refine A_pc (pc' := 87) rfl ?_
    refine A_free (L' := [none, none, none, none]) trivial ?_
    exact b_Tokens_cutName_87    hb6 H
  · replace H := H.2 c
    refine A_sipush d_Tokens_cutName_77 rfl ?_
    refine A_goto (tgt := 87) d_Tokens_cutName_80 (by decide) ?_
    refine A_pc (pc' := 87) rfl ?_
    refine A_free (L' := [none, none, none, none]) trivial ?_
    exact b_Tokens_cutName_87    hb2 H
def B_Tokens_cutName_7 (G : cx_T) (s : Nat) (v1 : Int) (v2 : Int) (h : ah_T) (Q : Option av_T → ah_T → Prop) (X7 : Int → Int → ah_T → Prop) : Prop :=
 ∀ x1 : Int, x1 = h.2.1 3 8 → -2147483648 ≤ x1 → x1 ≤ 2147483647 → ∀ x2 : Int, x2 = h.2.1 3 7 → -2147483648 ≤ x2 → x2 ≤ 2147483647 → ((x2 ≤ x1 → B_Tokens_cutName_60 G s (v1) (v2) h Q ) ∧ (¬ x2 ≤ x1 → con G 0 0 0 m_Tokens_byteAt [av_R (some 3), av_I x1] h (fun r h4 => ∃ z6 : Int, r = some (av_I z6) ∧ hb s h4 ∧ con G 0 0 0 m_Tokens_isSmall [av_I z6] h4 (fun r h7 => ∃ z9 : Int, r = some (av_I z9) ∧ hb s h7 ∧ ((z9 = 0 → B_Tokens_cutName_60 G s (v1) (v2) h7 Q ) ∧ (¬ z9 = 0 → ∀ x10 : Int, x10 = ((Int64.ofInt v2) <<< ((Int32.ofInt 8).toInt64 &&& 63)).toInt → (-9223372036854775808) ≤ x10 → x10 ≤ 9223372036854775807 → ∀ x11 : Int, x11 = h7.2.1 3 8 → -2147483648 ≤ x11 → x11 ≤ 2147483647 → con G 0 0 0 m_Tokens_byteAt [av_R (some 3), av_I x11] h7 (fun r h12 => ∃ z14 : Int, r = some (av_I z14) ∧ hb s h12 ∧ ∀ x15 : Int, x15 = ((Int64.ofInt x10) ||| (Int64.ofInt z14)).toInt → (-9223372036854775808) ≤ x15 → x15 ≤ 9223372036854775807 → ∀ x16 : Int, x16 = h12.2.1 3 8 → -2147483648 ≤ x16 → x16 ≤ 2147483647 → ((-2147483648) ≤ (x16 + 1) ∧ (x16 + 1) ≤ 2147483647) ∧ ∀ h18 : ah_T, h18 = st_i h12 3 8 (x16 + 1) → X7 (v1) (x15) h18)))))))
theorem b_Tokens_cutName_7 {G : cx_T} {s : Nat} {v1 : Int} {v2 : Int} {h : ah_T} {Q : Option av_T → ah_T → Prop} {X7 : Int → Int → ah_T → Prop} (hX7 : ∀ (v1 : Int) (v2 : Int) (h : ah_T), hb s h → X7 v1 v2 h → aw G (rm_R 7 0 0) m_Tokens_cutName 0 0 7 [some (av_R (some 3)), some (av_I v1), some (av_L v2), none] [] h Q) (hb0 : hb s h) (H : B_Tokens_cutName_7 G s v1 v2 h Q X7) : aw G (rm_R 7 0 0) m_Tokens_cutName 0 0 7 [some (av_R (some 3)), some (av_I v1), some (av_L v2), none] [] h Q := by
  unfold B_Tokens_cutName_7 at H
  have hS : isS s := hb0.2.1
  refine A_aload_n 0 d_Tokens_cutName_7 rfl rfl ?_
  refine A_getIf T_ok d_Tokens_cutName_8 f_Tokens_38 (hb_s hb0 sf_3) (fun x1 ex1 lx1 ux1 => ?_)
  replace H := H x1 ex1 lx1 ux1
  refine A_aload_n 0 d_Tokens_cutName_11 rfl rfl ?_
  refine A_getIf T_ok d_Tokens_cutName_12 f_Tokens_34 (hb_s hb0 sf_3) (fun x2 ex2 lx2 ux2 => ?_)
  replace H := H x2 ex2 lx2 ux2
  refine A_icmp_ge (tgt := 60) d_Tokens_cutName_15 (by decide) (fun c => ?_) (fun c => ?_)
  · replace H := H.1 c
    refine A_pc (pc' := 60) rfl ?_
    exact b_Tokens_cutName_60    hb0 H
  · replace H := H.2 c
    refine A_aload_n 0 d_Tokens_cutName_18 rfl rfl ?_
    refine A_aload_n 0 d_Tokens_cutName_19 rfl rfl ?_
    refine A_getIv (z := x1) T_ok d_Tokens_cutName_20 f_Tokens_38 (hb_s hb0 sf_3) ex1.symm ?_
    refine A_callV1 m_Tokens_byteAt T_ok d_Tokens_cutName_23 l_Tokens_70 k_Tokens_byteAt (hb_s hb0 sf_3) rfl (by decide +kernel) (by decide) (Nat.le_of_ble_eq_true rfl) H (fun r h4 hq => ?_)
    clear H
    obtain ⟨z6, rfl, hb5, H⟩ := hq
    refine A_callS1 m_Tokens_isSmall d_Tokens_cutName_26 l_Tokens_78 k_Tokens_isSmall (by decide +kernel) (by decide) (Nat.le_of_ble_eq_true rfl) H (fun r h7 hq => ?_)
    clear H
    obtain ⟨z9, rfl, hb8, H⟩ := hq
    refine A_if_eq (tgt := 60) d_Tokens_cutName_29 (by decide) (fun c => ?_) (fun c => ?_)
    · replace H := H.1 c
      refine A_pc (pc' := 60) rfl ?_
      exact b_Tokens_cutName_60    hb8 H
    · replace H := H.2 c
      refine A_lload_n 2 d_Tokens_cutName_32 rfl rfl ?_
      refine A_bipush d_Tokens_cutName_33 rfl ?_
      refine A_lshl d_Tokens_cutName_35 ?_
      refine A_nrL (fun x10 ex10 lx10 ux10 => ?_)
      replace H := H x10 ex10 lx10 ux10
      refine A_aload_n 0 d_Tokens_cutName_36 rfl rfl ?_
      refine A_aload_n 0 d_Tokens_cutName_37 rfl rfl ?_
      refine A_pc (pc' := 38) rfl ?_
      refine A_getIf T_ok d_Tokens_cutName_38 f_Tokens_38 (hb_s hb8 sf_3) (fun x11 ex11 lx11 ux11 => ?_)
      replace H := H x11 ex11 lx11 ux11
      refine A_callV1 m_Tokens_byteAt T_ok d_Tokens_cutName_41 l_Tokens_70 k_Tokens_byteAt (hb_s hb8 sf_3) rfl (by decide +kernel) (by decide) (Nat.le_of_ble_eq_true rfl) H (fun r h12 hq => ?_)
      clear H
      obtain ⟨z14, rfl, hb13, H⟩ := hq
      refine A_i2l d_Tokens_cutName_44 ?_
      refine A_lor d_Tokens_cutName_45 ?_
      refine A_nrL (fun x15 ex15 lx15 ux15 => ?_)
      replace H := H x15 ex15 lx15 ux15
      refine A_lstore_n 2 (L' := [some (av_R (some 3)), some (av_I v1), some (av_L x15), none]) d_Tokens_cutName_46 rfl (Nat.le_of_ble_eq_true rfl) rfl ?_
      refine A_aload_n 0 d_Tokens_cutName_47 rfl rfl ?_
      refine A_dupR d_Tokens_cutName_48 ?_
      refine A_pc (pc' := 49) rfl ?_
      refine A_getIf T_ok d_Tokens_cutName_49 f_Tokens_38 (hb_s hb13 sf_3) (fun x16 ex16 lx16 ux16 => ?_)
      replace H := H x16 ex16 lx16 ux16
      refine A_iconst d_Tokens_cutName_52 rfl ?_
      have g17 := H.1
      replace H := H.2
      refine A_iaddv (z := (x16 + 1)) d_Tokens_cutName_53 (w32_to (by omega) (by unfold i32; omega)) ?_
      refine A_putI T_ok d_Tokens_cutName_54 f_Tokens_38 (hb_s hb13 sf_3) fin_f ?_
      refine A_hn (fun h18 eh18 => ?_)
      have hb19 := hb_i hb13 eh18
      replace H := H h18 eh18
      refine A_goto (tgt := 7) d_Tokens_cutName_57 (by decide) ?_
      refine A_pc (pc' := 7) rfl ?_
      exact hX7 (v1) (x15) h18  hb19 H
theorem lp_Tokens_cutName_7 {G : cx_T} {s : Nat} {Q : Option av_T → ah_T → Prop} (I : Int → Int → ah_T → Prop) (μ : Int → Int → ah_T → Nat) (hI : ∀ (v1 : Int) (v2 : Int) (h : ah_T), hb s h → I v1 v2 h → B_Tokens_cutName_7 G s v1 v2 h Q (fun v1' v2' h' => I v1' v2' h' ∧ μ v1' v2' h' < μ v1 v2 h)) : ∀ (v1 : Int) (v2 : Int) (h : ah_T), hb s h → I v1 v2 h → aw G (rm_R 7 0 0) m_Tokens_cutName 0 0 7 [some (av_R (some 3)), some (av_I v1), some (av_L v2), none] [] h Q := by
  have key : ∀ (n : Nat) (v1 : Int) (v2 : Int) (h : ah_T), hb s h → I v1 v2 h → μ v1 v2 h < n → aw G (rm_R 7 0 0) m_Tokens_cutName 0 0 7 [some (av_R (some 3)), some (av_I v1), some (av_L v2), none] [] h Q := by
    intro n
    induction n with
    | zero => intro v1 v2 h  hb0 hi hm; omega
    | succ n ih => intro v1 v2 h  hb0 hi hm; exact b_Tokens_cutName_7  (fun v1' v2' h'  hb' hx => ih v1' v2' h'  hb' hx.1 (by have := hx.2; omega))  hb0 (hI v1 v2 h  hb0 hi)
  exact fun v1 v2 h  hb0 hi => key _ v1 v2 h  hb0 hi (Nat.lt_succ_self _)
def B_Tokens_cutName_0 (G : cx_T) (s : Nat) (h : ah_T) (Q : Option av_T → ah_T → Prop) (X7 : Int → Int → ah_T → Prop) : Prop :=
 ∀ x1 : Int, x1 = h.2.1 3 8 → -2147483648 ≤ x1 → x1 ≤ 2147483647 → X7 (x1) (0) h
theorem b_Tokens_cutName_0 {G : cx_T} {s : Nat} {h : ah_T} {Q : Option av_T → ah_T → Prop} {X7 : Int → Int → ah_T → Prop} (hX7 : ∀ (v1 : Int) (v2 : Int) (h : ah_T), hb s h → X7 v1 v2 h → aw G (rm_R 7 0 0) m_Tokens_cutName 0 0 7 [some (av_R (some 3)), some (av_I v1), some (av_L v2), none] [] h Q) (hb0 : hb s h) (H : B_Tokens_cutName_0 G s h Q X7) : aw G (rm_R 7 0 0) m_Tokens_cutName 0 0 0 [some (av_R (some 3)), none, none, none] [] h Q := by
  unfold B_Tokens_cutName_0 at H
  have hS : isS s := hb0.2.1
  refine A_aload_n 0 d_Tokens_cutName_0 rfl rfl ?_
  refine A_getIf T_ok d_Tokens_cutName_1 f_Tokens_38 (hb_s hb0 sf_3) (fun x1 ex1 lx1 ux1 => ?_)
  replace H := H x1 ex1 lx1 ux1
  refine A_istore_n 1 (L' := [some (av_R (some 3)), some (av_I x1), none, none]) d_Tokens_cutName_4 rfl (Nat.le_of_ble_eq_true rfl) rfl ?_
  refine A_lconst_0 d_Tokens_cutName_5 ?_
  refine A_lstore_n 2 (L' := [some (av_R (some 3)), some (av_I x1), some (av_L 0), none]) d_Tokens_cutName_6 rfl (Nat.le_of_ble_eq_true rfl) rfl ?_
  refine A_pc (pc' := 7) rfl ?_
  exact hX7 (x1) (0) h  hb0 H
theorem c_Tokens_cutName {G : cx_T} {s : Nat} {h : ah_T} {Q : Option av_T → ah_T → Prop} {X7 : Int → Int → ah_T → Prop} (hX7 : ∀ (v1 : Int) (v2 : Int) (h : ah_T), hb s h → X7 v1 v2 h → aw G (rm_R 7 0 0) m_Tokens_cutName 0 0 7 [some (av_R (some 3)), some (av_I v1), some (av_L v2), none] [] h Q) (hb0 : hb s h) (H : B_Tokens_cutName_0 G s h Q X7) : con G 7 0 0 m_Tokens_cutName [av_R (some 3)] h Q := by
  have hS : isS s := hb0.2.1
  refine con_of (L := [some (av_R (some 3)), none, none, none]) (by decide +kernel) (Nat.le_of_ble_eq_true rfl) rfl ?_
  exact b_Tokens_cutName_0  hX7 hb0 (H )
def B_Tokens_cutOne_207 (G : cx_T) (s : Nat) (t0 : Int) (h : ah_T) (Q : Option av_T → ah_T → Prop) : Prop :=
 (t0 = 0 ∨ t0 = 1) ∧ Q (some (av_I t0)) h
theorem b_Tokens_cutOne_207 {G : cx_T} {s : Nat} {t0 : Int} {h : ah_T} {Q : Option av_T → ah_T → Prop} (hb0 : hb s h) (H : B_Tokens_cutOne_207 G s t0 h Q ) : aw G (rm_R 8 0 0) m_Tokens_cutOne 0 0 207 [none, none, none] [av_I t0] h Q := by
  unfold B_Tokens_cutOne_207 at H
  have hS : isS s := hb0.2.1
  exact A_zret d_Tokens_cutOne_207 (by decide) rfl H.1 H.2
def B_Tokens_cutOne_206 (G : cx_T) (s : Nat) (h : ah_T) (Q : Option av_T → ah_T → Prop) : Prop :=
 B_Tokens_cutOne_207 G s (0) h Q 
theorem b_Tokens_cutOne_206 {G : cx_T} {s : Nat} {h : ah_T} {Q : Option av_T → ah_T → Prop} (hb0 : hb s h) (H : B_Tokens_cutOne_206 G s h Q ) : aw G (rm_R 8 0 0) m_Tokens_cutOne 0 0 206 [none, none, none] [] h Q := by
  unfold B_Tokens_cutOne_206 at H
  have hS : isS s := hb0.2.1
  refine A_iconst d_Tokens_cutOne_206 rfl ?_
  refine A_pc (pc' := 207) rfl ?_
  exact b_Tokens_cutOne_207    hb0 H
def B_Tokens_cutOne_182 (G : cx_T) (s : Nat) (h : ah_T) (Q : Option av_T → ah_T → Prop) : Prop :=
 ∀ x1 : Int, x1 = h.2.1 3 9 → -2147483648 ≤ x1 → x1 ≤ 2147483647 → ((x1 = 256 → B_Tokens_cutOne_206 G s h Q ) ∧ (¬ x1 = 256 → ((x1 = 257 → B_Tokens_cutOne_206 G s h Q ) ∧ (¬ x1 = 257 → B_Tokens_cutOne_207 G s (1) h Q ))))
theorem b_Tokens_cutOne_182 {G : cx_T} {s : Nat} {h : ah_T} {Q : Option av_T → ah_T → Prop} (hb0 : hb s h) (H : B_Tokens_cutOne_182 G s h Q ) : aw G (rm_R 8 0 0) m_Tokens_cutOne 0 0 182 [some (av_R (some 3)), none, none] [] h Q := by
  unfold B_Tokens_cutOne_182 at H
  have hS : isS s := hb0.2.1
  refine A_aload_n 0 d_Tokens_cutOne_182 rfl rfl ?_
  refine A_getIf T_ok d_Tokens_cutOne_183 f_Tokens_54 (hb_s hb0 sf_3) (fun x1 ex1 lx1 ux1 => ?_)
  replace H := H x1 ex1 lx1 ux1
  refine A_sipush d_Tokens_cutOne_186 rfl ?_
  refine A_icmp_eq (tgt := 206) d_Tokens_cutOne_189 (by decide) (fun c => ?_) (fun c => ?_)
  · replace H := H.1 c
    refine A_pc (pc' := 206) rfl ?_
    refine A_free (L' := [none, none, none]) trivial ?_
    exact b_Tokens_cutOne_206    hb0 H
  · replace H := H.2 c
    refine A_aload_n 0 d_Tokens_cutOne_192 rfl rfl ?_
    refine A_getIv (z := x1) T_ok d_Tokens_cutOne_193 f_Tokens_54 (hb_s hb0 sf_3) ex1.symm ?_
    refine A_sipush d_Tokens_cutOne_196 rfl ?_
    refine A_icmp_eq (tgt := 206) d_Tokens_cutOne_199 (by decide) (fun c => ?_) (fun c => ?_)
    · replace H := H.1 c
      refine A_pc (pc' := 206) rfl ?_
      refine A_free (L' := [none, none, none]) trivial ?_
      exact b_Tokens_cutOne_206    hb0 H
    · replace H := H.2 c
      refine A_iconst d_Tokens_cutOne_202 rfl ?_
      refine A_goto (tgt := 207) d_Tokens_cutOne_203 (by decide) ?_
      refine A_pc (pc' := 207) rfl ?_
      refine A_free (L' := [none, none, none]) trivial ?_
      exact b_Tokens_cutOne_207    hb0 H
def B_Tokens_cutOne_111 (G : cx_T) (s : Nat) (v1 : Int) (h : ah_T) (Q : Option av_T → ah_T → Prop) : Prop :=
 ∀ x1 : Int, x1 = h.2.1 3 4 → -2147483648 ≤ x1 → x1 ≤ 2147483647 → ((2001 ≤ x1 → B_Tokens_cutOne_182 G s h Q ) ∧ (¬ 2001 ≤ x1 → ∀ x5 : Int, x5 = h.2.1 3 9 → -2147483648 ≤ x5 → x5 ≤ 2147483647 → (0 ≤ x1 ∧ x1 < 2001) ∧ ∀ h7 : ah_T, h7 = st_i h 4 (x1).toNat x5 → ∀ h11 : ah_T, h11 = st_i h7 5 (x1).toNat v1 → ∀ x15 : Int, x15 = h11.2.2.1 3 11 → -9223372036854775808 ≤ x15 → x15 ≤ 9223372036854775807 → ∀ h16 : ah_T, h16 = st_l h11 6 (x1).toNat x15 → ∀ x20 : Int, x20 = h16.2.1 3 12 → -2147483648 ≤ x20 → x20 ≤ 2147483647 → ∀ h21 : ah_T, h21 = st_i h16 7 (x1).toNat x20 → ((-2147483648) ≤ (x1 + 1) ∧ (x1 + 1) ≤ 2147483647) ∧ ∀ h25 : ah_T, h25 = st_i h21 3 4 (x1 + 1) → B_Tokens_cutOne_182 G s h25 Q ))
theorem b_Tokens_cutOne_111 {G : cx_T} {s : Nat} {v1 : Int} {h : ah_T} {Q : Option av_T → ah_T → Prop} (hb0 : hb s h) (H : B_Tokens_cutOne_111 G s v1 h Q ) : aw G (rm_R 8 0 0) m_Tokens_cutOne 0 0 111 [some (av_R (some 3)), some (av_I v1), none] [] h Q := by
  unfold B_Tokens_cutOne_111 at H
  have hS : isS s := hb0.2.1
  refine A_aload_n 0 d_Tokens_cutOne_111 rfl rfl ?_
  refine A_getIf T_ok d_Tokens_cutOne_112 f_Tokens_41 (hb_s hb0 sf_3) (fun x1 ex1 lx1 ux1 => ?_)
  replace H := H x1 ex1 lx1 ux1
  refine A_aload_n 0 d_Tokens_cutOne_115 rfl rfl ?_
  refine A_getAv (z := some 4) T_ok d_Tokens_cutOne_116 f_Tokens_9 (hb_s hb0 sf_3) (hb_r hb0 rff_3_0) ?_
  refine A_alenN d_Tokens_cutOne_119 (hb_s hb0 sf_4) (by decide) (by decide) ?_
  refine A_pc (pc' := 120) rfl ?_
  refine A_icmp_ge (tgt := 182) d_Tokens_cutOne_120 (by decide) (fun c => ?_) (fun c => ?_)
  · replace H := H.1 c
    refine A_pc (pc' := 182) rfl ?_
    refine A_free (L' := [some (av_R (some 3)), none, none]) (And.intro rfl trivial) ?_
    exact b_Tokens_cutOne_182    hb0 H
  · replace H := H.2 c
    refine A_aload_n 0 d_Tokens_cutOne_123 rfl rfl ?_
    refine A_getAv (z := some 4) T_ok d_Tokens_cutOne_124 f_Tokens_9 (hb_s hb0 sf_3) (hb_r hb0 rff_3_0) ?_
    refine A_aload_n 0 d_Tokens_cutOne_127 rfl rfl ?_
    refine A_getIv (z := x1) T_ok d_Tokens_cutOne_128 f_Tokens_41 (hb_s hb0 sf_3) ex1.symm ?_
    refine A_aload_n 0 d_Tokens_cutOne_131 rfl rfl ?_
    refine A_pc (pc' := 132) rfl ?_
    refine A_getIf T_ok d_Tokens_cutOne_132 f_Tokens_54 (hb_s hb0 sf_3) (fun x5 ex5 lx5 ux5 => ?_)
    replace H := H x5 ex5 lx5 ux5
    have g6 := H.1
    replace H := H.2
    refine A_iastoreN d_Tokens_cutOne_135 (hb_s hb0 sf_4) g6.1 g6.2 ?_
    refine A_hn (fun h7 eh7 => ?_)
    have hb8 := hb_i hb0 eh7
    replace H := H h7 eh7
    refine A_aload_n 0 d_Tokens_cutOne_136 rfl rfl ?_
    refine A_getAv (z := some 5) T_ok d_Tokens_cutOne_137 f_Tokens_15 (hb_s hb8 sf_3) (hb_r hb8 rff_3_1) ?_
    refine A_aload_n 0 d_Tokens_cutOne_140 rfl rfl ?_
    refine A_getIv (z := x1) T_ok d_Tokens_cutOne_141 f_Tokens_41 (hb_s hb8 sf_3) ((mm_i eh7 (fun q => absurd q.1 (by decide))).trans ex1.symm) ?_
    refine A_pc (pc' := 144) rfl ?_
    refine A_iload_n 1 d_Tokens_cutOne_144 rfl rfl ?_
    refine A_iastoreN d_Tokens_cutOne_145 (hb_s hb8 sf_5) g6.1 g6.2 ?_
    refine A_hn (fun h11 eh11 => ?_)
    have hb12 := hb_i hb8 eh11
    replace H := H h11 eh11
    refine A_aload_n 0 d_Tokens_cutOne_146 rfl rfl ?_
    refine A_getAv (z := some 6) T_ok d_Tokens_cutOne_147 f_Tokens_18 (hb_s hb12 sf_3) (hb_r hb12 rff_3_2) ?_
    refine A_aload_n 0 d_Tokens_cutOne_150 rfl rfl ?_
    refine A_getIv (z := x1) T_ok d_Tokens_cutOne_151 f_Tokens_41 (hb_s hb12 sf_3) ((mm_i eh11 (fun q => absurd q.1 (by decide))).trans ((mm_i eh7 (fun q => absurd q.1 (by decide))).trans ex1.symm)) ?_
    refine A_pc (pc' := 154) rfl ?_
    refine A_aload_n 0 d_Tokens_cutOne_154 rfl rfl ?_
    refine A_getLf T_ok d_Tokens_cutOne_155 f_Tokens_60 (hb_s hb12 sf_3) (fun x15 ex15 lx15 ux15 => ?_)
    replace H := H x15 ex15 lx15 ux15
    refine A_lastoreN d_Tokens_cutOne_158 (hb_s hb12 sf_6) g6.1 g6.2 ?_
    refine A_hn (fun h16 eh16 => ?_)
    have hb17 := hb_l hb12 eh16
    replace H := H h16 eh16
    refine A_aload_n 0 d_Tokens_cutOne_159 rfl rfl ?_
    refine A_getAv (z := some 7) T_ok d_Tokens_cutOne_160 f_Tokens_22 (hb_s hb17 sf_3) (hb_r hb17 rff_3_3) ?_
    refine A_aload_n 0 d_Tokens_cutOne_163 rfl rfl ?_
    refine A_pc (pc' := 164) rfl ?_
    refine A_getIv (z := x1) T_ok d_Tokens_cutOne_164 f_Tokens_41 (hb_s hb17 sf_3) ((mm_lo eh16).trans ((mm_i eh11 (fun q => absurd q.1 (by decide))).trans ((mm_i eh7 (fun q => absurd q.1 (by decide))).trans ex1.symm))) ?_
    refine A_aload_n 0 d_Tokens_cutOne_167 rfl rfl ?_
    refine A_getIf T_ok d_Tokens_cutOne_168 f_Tokens_64 (hb_s hb17 sf_3) (fun x20 ex20 lx20 ux20 => ?_)
    replace H := H x20 ex20 lx20 ux20
    refine A_iastoreN d_Tokens_cutOne_171 (hb_s hb17 sf_7) g6.1 g6.2 ?_
    refine A_hn (fun h21 eh21 => ?_)
    have hb22 := hb_i hb17 eh21
    replace H := H h21 eh21
    refine A_aload_n 0 d_Tokens_cutOne_172 rfl rfl ?_
    refine A_dupR d_Tokens_cutOne_173 ?_
    refine A_pc (pc' := 174) rfl ?_
    refine A_getIv (z := x1) T_ok d_Tokens_cutOne_174 f_Tokens_41 (hb_s hb22 sf_3) ((mm_i eh21 (fun q => absurd q.1 (by decide))).trans ((mm_lo eh16).trans ((mm_i eh11 (fun q => absurd q.1 (by decide))).trans ((mm_i eh7 (fun q => absurd q.1 (by decide))).trans ex1.symm)))) ?_
    refine A_iconst d_Tokens_cutOne_177 rfl ?_
    have g24 := H.1
    replace H := H.2
    refine A_iaddv (z := (x1 + 1)) d_Tokens_cutOne_178 (w32_to (by omega) (by unfold i32; omega)) ?_
    refine A_putI T_ok d_Tokens_cutOne_179 f_Tokens_41 (hb_s hb22 sf_3) fin_f ?_
    refine A_hn (fun h25 eh25 => ?_)
    have hb26 := hb_i hb22 eh25
    replace H := H h25 eh25
    refine A_pc (pc' := 182) rfl ?_
    refine A_free (L' := [some (av_R (some 3)), none, none]) (And.intro rfl trivial) ?_
    exact b_Tokens_cutOne_182    hb26 H
def B_Tokens_cutOne_98 (G : cx_T) (s : Nat) (v1 : Int) (t1 : Int) (h : ah_T) (Q : Option av_T → ah_T → Prop) : Prop :=
 ∀ h1 : ah_T, h1 = st_i h 3 9 t1 → ∀ x3 : Int, x3 = h1.2.1 3 8 → -2147483648 ≤ x3 → x3 ≤ 2147483647 → ((-2147483648) ≤ (x3 + 1) ∧ (x3 + 1) ≤ 2147483647) ∧ ∀ h5 : ah_T, h5 = st_i h1 3 8 (x3 + 1) → B_Tokens_cutOne_111 G s (v1) h5 Q 
theorem b_Tokens_cutOne_98 {G : cx_T} {s : Nat} {v1 : Int} {t1 : Int} {h : ah_T} {Q : Option av_T → ah_T → Prop} (hb0 : hb s h) (H : B_Tokens_cutOne_98 G s v1 t1 h Q ) : aw G (rm_R 8 0 0) m_Tokens_cutOne 0 0 98 [some (av_R (some 3)), some (av_I v1), none] [av_I t1, av_R (some 3)] h Q := by
  unfold B_Tokens_cutOne_98 at H
  have hS : isS s := hb0.2.1
  refine A_putI T_ok d_Tokens_cutOne_98 f_Tokens_54 (hb_s hb0 sf_3) fin_f ?_
  refine A_hn (fun h1 eh1 => ?_)
  have hb2 := hb_i hb0 eh1
  replace H := H h1 eh1
  refine A_aload_n 0 d_Tokens_cutOne_101 rfl rfl ?_
  refine A_dupR d_Tokens_cutOne_102 ?_
  refine A_getIf T_ok d_Tokens_cutOne_103 f_Tokens_38 (hb_s hb2 sf_3) (fun x3 ex3 lx3 ux3 => ?_)
  replace H := H x3 ex3 lx3 ux3
  refine A_iconst d_Tokens_cutOne_106 rfl ?_
  refine A_pc (pc' := 107) rfl ?_
  have g4 := H.1
  replace H := H.2
  refine A_iaddv (z := (x3 + 1)) d_Tokens_cutOne_107 (w32_to (by omega) (by unfold i32; omega)) ?_
  refine A_putI T_ok d_Tokens_cutOne_108 f_Tokens_38 (hb_s hb2 sf_3) fin_f ?_
  refine A_hn (fun h5 eh5 => ?_)
  have hb6 := hb_i hb2 eh5
  replace H := H h5 eh5
  refine A_pc (pc' := 111) rfl ?_
  exact b_Tokens_cutOne_111    hb6 H
def B_Tokens_cutOne_52 (G : cx_T) (s : Nat) (v1 : Int) (v2 : Int) (h : ah_T) (Q : Option av_T → ah_T → Prop) : Prop :=
 con G 0 0 0 m_Tokens_isSmall [av_I v2] h (fun r h1 => ∃ z3 : Int, r = some (av_I z3) ∧ hb s h1 ∧ ((z3 = 0 → con G 0 0 0 m_Tokens_isDigit [av_I v2] h1 (fun r h4 => ∃ z6 : Int, r = some (av_I z6) ∧ hb s h4 ∧ ((z6 = 0 → (0 ≤ v2 ∧ v2 < 65536) ∧ con G 6 0 0 m_JString_indexOf_II [av_S 16, av_I v2] h4 (fun r h7 => ∃ z9 : Int, r = some (av_I z9) ∧ hb s h7 ∧ ((z9 < 0 → B_Tokens_cutOne_98 G s (v1) (257) h7 Q ) ∧ (¬ z9 < 0 → B_Tokens_cutOne_98 G s (v1) (v2) h7 Q )))) ∧ (¬ z6 = 0 → con G 1 0 0 m_Tokens_cutNumber [av_R (some 3)] h4 (fun r h10 => r = none ∧ hb s h10 ∧ B_Tokens_cutOne_111 G s (v1) h10 Q ))))) ∧ (¬ z3 = 0 → con G 7 0 0 m_Tokens_cutName [av_R (some 3)] h1 (fun r h13 => r = none ∧ hb s h13 ∧ B_Tokens_cutOne_111 G s (v1) h13 Q ))))
theorem b_Tokens_cutOne_52 {G : cx_T} {s : Nat} {v1 : Int} {v2 : Int} {h : ah_T} {Q : Option av_T → ah_T → Prop} (hb0 : hb s h) (H : B_Tokens_cutOne_52 G s v1 v2 h Q ) : aw G (rm_R 8 0 0) m_Tokens_cutOne 0 0 52 [some (av_R (some 3)), some (av_I v1), some (av_I v2)] [] h Q := by
  unfold B_Tokens_cutOne_52 at H
  have hS : isS s := hb0.2.1
  refine A_iload_n 2 d_Tokens_cutOne_52 rfl rfl ?_
  refine A_callS1 m_Tokens_isSmall d_Tokens_cutOne_53 l_Tokens_78 k_Tokens_isSmall (by decide +kernel) (by decide) (Nat.le_of_ble_eq_true rfl) H (fun r h1 hq => ?_)
  clear H
  obtain ⟨z3, rfl, hb2, H⟩ := hq
  refine A_if_eq (tgt := 66) d_Tokens_cutOne_56 (by decide) (fun c => ?_) (fun c => ?_)
  · replace H := H.1 c
    refine A_iload_n 2 d_Tokens_cutOne_66 rfl rfl ?_
    refine A_callS1 m_Tokens_isDigit d_Tokens_cutOne_67 l_Tokens_85 k_Tokens_isDigit (by decide +kernel) (by decide) (Nat.le_of_ble_eq_true rfl) H (fun r h4 hq => ?_)
    clear H
    obtain ⟨z6, rfl, hb5, H⟩ := hq
    refine A_if_eq (tgt := 80) d_Tokens_cutOne_70 (by decide) (fun c => ?_) (fun c => ?_)
    · replace H := H.1 c
      refine A_aload_n 0 d_Tokens_cutOne_80 rfl rfl ?_
      refine A_ldcS (i := 6) rfl rfl d_Tokens_cutOne_81 ?_
      refine A_iload_n 2 d_Tokens_cutOne_83 rfl rfl ?_
      have H0 := H.1
      replace H := H.2
      refine A_i2c d_Tokens_cutOne_84 ?_
      refine A_cI (z := v2) (i2c_r (by omega) (by omega)) ?_
      refine A_pc (pc' := 85) rfl ?_
      refine A_callT1 (i := 6) (N := m_JString_indexOf_II) (by decide) rfl d_Tokens_cutOne_85 ll_Tokens_93 k_JString_indexOf_II (by decide +kernel) (by decide) (Nat.le_of_ble_eq_true rfl) H (fun r h7 hq => ?_)
      clear H
      obtain ⟨z9, rfl, hb8, H⟩ := hq
      refine A_if_lt (tgt := 95) d_Tokens_cutOne_88 (by decide) (fun c => ?_) (fun c => ?_)
      · replace H := H.1 c
        refine A_sipush d_Tokens_cutOne_95 rfl ?_
        refine A_pc (pc' := 98) rfl ?_
        refine A_free (L' := [some (av_R (some 3)), some (av_I v1), none]) (And.intro rfl (And.intro rfl trivial)) ?_
        exact b_Tokens_cutOne_98    hb8 H
      · replace H := H.2 c
        refine A_iload_n 2 d_Tokens_cutOne_91 rfl rfl ?_
        refine A_goto (tgt := 98) d_Tokens_cutOne_92 (by decide) ?_
        refine A_pc (pc' := 98) rfl ?_
        refine A_free (L' := [some (av_R (some 3)), some (av_I v1), none]) (And.intro rfl (And.intro rfl trivial)) ?_
        exact b_Tokens_cutOne_98    hb8 H
    · replace H := H.2 c
      refine A_aload_n 0 d_Tokens_cutOne_73 rfl rfl ?_
      refine A_callV0 m_Tokens_cutNumber T_ok d_Tokens_cutOne_74 l_Tokens_88 k_Tokens_cutNumber (hb_s hb5 sf_3) rfl (by decide +kernel) (by decide) (Nat.le_of_ble_eq_true rfl) H (fun r h10 hq => ?_)
      clear H
      obtain ⟨rfl, hb11, H⟩ := hq
      refine A_goto (tgt := 111) d_Tokens_cutOne_77 (by decide) ?_
      refine A_pc (pc' := 111) rfl ?_
      refine A_free (L' := [some (av_R (some 3)), some (av_I v1), none]) (And.intro rfl (And.intro rfl trivial)) ?_
      exact b_Tokens_cutOne_111    hb11 H
  · replace H := H.2 c
    refine A_aload_n 0 d_Tokens_cutOne_59 rfl rfl ?_
    refine A_callV0 m_Tokens_cutName T_ok d_Tokens_cutOne_60 l_Tokens_82 k_Tokens_cutName (hb_s hb2 sf_3) rfl (by decide +kernel) (by decide) (Nat.le_of_ble_eq_true rfl) H (fun r h13 hq => ?_)
    clear H
    obtain ⟨rfl, hb14, H⟩ := hq
    refine A_goto (tgt := 111) d_Tokens_cutOne_63 (by decide) ?_
    refine A_pc (pc' := 111) rfl ?_
    refine A_free (L' := [some (av_R (some 3)), some (av_I v1), none]) (And.intro rfl (And.intro rfl trivial)) ?_
    exact b_Tokens_cutOne_111    hb14 H
def B_Tokens_cutOne_0 (G : cx_T) (s : Nat) (h : ah_T) (Q : Option av_T → ah_T → Prop) : Prop :=
 con G 1 0 0 m_Tokens_skipBlanks [av_R (some 3)] h (fun r h1 => r = none ∧ hb s h1 ∧ ∀ x4 : Int, x4 = h1.2.1 3 8 → -2147483648 ≤ x4 → x4 ≤ 2147483647 → con G 0 0 0 m_Tokens_byteAt [av_R (some 3), av_I x4] h1 (fun r h6 => ∃ z8 : Int, r = some (av_I z8) ∧ hb s h6 ∧ ((0 ≤ z8 → ((z8 < 65 → B_Tokens_cutOne_52 G s (x4) (z8) h6 Q ) ∧ (¬ z8 < 65 → ((71 < z8 → B_Tokens_cutOne_52 G s (x4) (z8) h6 Q ) ∧ (¬ 71 < z8 → con G 1 0 0 m_Tokens_cutPitch [av_R (some 3), av_I z8] h6 (fun r h9 => r = none ∧ hb s h9 ∧ B_Tokens_cutOne_111 G s (x4) h9 Q )))))) ∧ (¬ 0 ≤ z8 → ∀ h12 : ah_T, h12 = st_i h6 3 9 256 → B_Tokens_cutOne_111 G s (x4) h12 Q ))))
theorem b_Tokens_cutOne_0 {G : cx_T} {s : Nat} {h : ah_T} {Q : Option av_T → ah_T → Prop} (hb0 : hb s h) (H : B_Tokens_cutOne_0 G s h Q ) : aw G (rm_R 8 0 0) m_Tokens_cutOne 0 0 0 [some (av_R (some 3)), none, none] [] h Q := by
  unfold B_Tokens_cutOne_0 at H
  have hS : isS s := hb0.2.1
  refine A_aload_n 0 d_Tokens_cutOne_0 rfl rfl ?_
  refine A_callV0 m_Tokens_skipBlanks T_ok d_Tokens_cutOne_1 l_Tokens_67 k_Tokens_skipBlanks (hb_s hb0 sf_3) rfl (by decide +kernel) (by decide) (Nat.le_of_ble_eq_true rfl) H (fun r h1 hq => ?_)
  clear H
  obtain ⟨rfl, hb2, H⟩ := hq
  refine A_aload_n 0 d_Tokens_cutOne_4 rfl rfl ?_
  refine A_getIf T_ok d_Tokens_cutOne_5 f_Tokens_38 (hb_s hb2 sf_3) (fun x4 ex4 lx4 ux4 => ?_)
  replace H := H x4 ex4 lx4 ux4
  refine A_istore_n 1 (L' := [some (av_R (some 3)), some (av_I x4), none]) d_Tokens_cutOne_8 rfl (Nat.le_of_ble_eq_true rfl) rfl ?_
  refine A_aload_n 0 d_Tokens_cutOne_9 rfl rfl ?_
  refine A_aload_n 0 d_Tokens_cutOne_10 rfl rfl ?_
  refine A_pc (pc' := 11) rfl ?_
  refine A_getIv (z := x4) T_ok d_Tokens_cutOne_11 f_Tokens_38 (hb_s hb2 sf_3) ex4.symm ?_
  refine A_callV1 m_Tokens_byteAt T_ok d_Tokens_cutOne_14 l_Tokens_70 k_Tokens_byteAt (hb_s hb2 sf_3) rfl (by decide +kernel) (by decide) (Nat.le_of_ble_eq_true rfl) H (fun r h6 hq => ?_)
  clear H
  obtain ⟨z8, rfl, hb7, H⟩ := hq
  refine A_istore_n 2 (L' := [some (av_R (some 3)), some (av_I x4), some (av_I z8)]) d_Tokens_cutOne_17 rfl (Nat.le_of_ble_eq_true rfl) rfl ?_
  refine A_iload_n 2 d_Tokens_cutOne_18 rfl rfl ?_
  refine A_if_ge (tgt := 32) d_Tokens_cutOne_19 (by decide) (fun c => ?_) (fun c => ?_)
  · replace H := H.1 c
    refine A_iload_n 2 d_Tokens_cutOne_32 rfl rfl ?_
    refine A_bipush d_Tokens_cutOne_33 rfl ?_
    refine A_icmp_lt (tgt := 52) d_Tokens_cutOne_35 (by decide) (fun c => ?_) (fun c => ?_)
    · replace H := H.1 c
      refine A_pc (pc' := 52) rfl ?_
      exact b_Tokens_cutOne_52    hb7 H
    · replace H := H.2 c
      refine A_iload_n 2 d_Tokens_cutOne_38 rfl rfl ?_
      refine A_bipush d_Tokens_cutOne_39 rfl ?_
      refine A_icmp_gt (tgt := 52) d_Tokens_cutOne_41 (by decide) (fun c => ?_) (fun c => ?_)
      · replace H := H.1 c
        refine A_pc (pc' := 52) rfl ?_
        exact b_Tokens_cutOne_52    hb7 H
      · replace H := H.2 c
        refine A_aload_n 0 d_Tokens_cutOne_44 rfl rfl ?_
        refine A_iload_n 2 d_Tokens_cutOne_45 rfl rfl ?_
        refine A_callV1 m_Tokens_cutPitch T_ok d_Tokens_cutOne_46 l_Tokens_74 k_Tokens_cutPitch (hb_s hb7 sf_3) rfl (by decide +kernel) (by decide) (Nat.le_of_ble_eq_true rfl) H (fun r h9 hq => ?_)
        clear H
        obtain ⟨rfl, hb10, H⟩ := hq
        refine A_goto (tgt := 111) d_Tokens_cutOne_49 (by decide) ?_
        refine A_pc (pc' := 111) rfl ?_
        refine A_free (L' := [some (av_R (some 3)), some (av_I x4), none]) (And.intro rfl (And.intro rfl trivial)) ?_
        exact b_Tokens_cutOne_111    hb10 H
  · replace H := H.2 c
    refine A_aload_n 0 d_Tokens_cutOne_22 rfl rfl ?_
    refine A_sipush d_Tokens_cutOne_23 rfl ?_
    refine A_putI T_ok d_Tokens_cutOne_26 f_Tokens_54 (hb_s hb7 sf_3) fin_f ?_
    refine A_hn (fun h12 eh12 => ?_)
    have hb13 := hb_i hb7 eh12
    replace H := H h12 eh12
    refine A_goto (tgt := 111) d_Tokens_cutOne_29 (by decide) ?_
    refine A_pc (pc' := 111) rfl ?_
    refine A_free (L' := [some (av_R (some 3)), some (av_I x4), none]) (And.intro rfl (And.intro rfl trivial)) ?_
    exact b_Tokens_cutOne_111    hb13 H
theorem c_Tokens_cutOne {G : cx_T} {s : Nat} {h : ah_T} {Q : Option av_T → ah_T → Prop} (hb0 : hb s h) (H : B_Tokens_cutOne_0 G s h Q ) : con G 8 0 0 m_Tokens_cutOne [av_R (some 3)] h Q := by
  have hS : isS s := hb0.2.1
  refine con_of (L := [some (av_R (some 3)), none, none]) (by decide +kernel) (Nat.le_of_ble_eq_true rfl) rfl ?_
  exact b_Tokens_cutOne_0   hb0 (H )
def B_Tokens_cutAll_59 (G : cx_T) (s : Nat) (a2 : Int) (h : ah_T) (Q : Option av_T → ah_T → Prop) : Prop :=
 ∀ h1 : ah_T, h1 = st_i h 3 5 (-1) → con G 0 0 0 m_Tokens_next [av_R (some 3)] h1 (fun r h3 => r = none ∧ hb s h3 ∧ Q none h3)
theorem b_Tokens_cutAll_59 {G : cx_T} {s : Nat} {a2 : Int} {h : ah_T} {Q : Option av_T → ah_T → Prop} (hb0 : hb s h) (H : B_Tokens_cutAll_59 G s a2 h Q ) : aw G (rm_R 9 0 0) m_Tokens_cutAll 0 0 59 [some (av_R (some 3)), none, none, none, none] [] h Q := by
  unfold B_Tokens_cutAll_59 at H
  have hS : isS s := hb0.2.1
  refine A_aload_n 0 d_Tokens_cutAll_59 rfl rfl ?_
  refine A_iconst d_Tokens_cutAll_60 rfl ?_
  refine A_putI T_ok d_Tokens_cutAll_61 f_Tokens_48 (hb_s hb0 sf_3) fin_f ?_
  refine A_hn (fun h1 eh1 => ?_)
  have hb2 := hb_i hb0 eh1
  replace H := H h1 eh1
  refine A_aload_n 0 d_Tokens_cutAll_64 rfl rfl ?_
  refine A_callV0 m_Tokens_next T_ok d_Tokens_cutAll_65 l_Tokens_51 k_Tokens_next (hb_s hb2 sf_3) rfl (by decide +kernel) (by decide) (Nat.le_of_ble_eq_true rfl) H (fun r h3 hq => ?_)
  clear H
  obtain ⟨rfl, hb4, H⟩ := hq
  exact A_vret d_Tokens_cutAll_68 (by decide) rfl H
def B_Tokens_cutAll_36 (G : cx_T) (s : Nat) (a2 : Int) (v3 : Int) (v4 : Int) (h : ah_T) (Q : Option av_T → ah_T → Prop) (X36 : Int → Int → ah_T → Prop) : Prop :=
 ((2000 < v4 → B_Tokens_cutAll_59 G s a2 h Q ) ∧ (¬ 2000 < v4 → ((v3 = 0 → B_Tokens_cutAll_59 G s a2 h Q ) ∧ (¬ v3 = 0 → con G 8 0 0 m_Tokens_cutOne [av_R (some 3)] h (fun r h1 => ∃ z3 : Int, r = some (av_I z3) ∧ hb s h1 ∧ ((-2147483648) ≤ (v4 + 1) ∧ (v4 + 1) ≤ 2147483647) ∧ X36 (z3) ((v4 + 1)) h1)))))
theorem b_Tokens_cutAll_36 {G : cx_T} {s : Nat} {a2 : Int} {v3 : Int} {v4 : Int} {h : ah_T} {Q : Option av_T → ah_T → Prop} {X36 : Int → Int → ah_T → Prop} (hX36 : ∀ (v3 : Int) (v4 : Int) (h : ah_T), hb s h → X36 v3 v4 h → aw G (rm_R 9 0 0) m_Tokens_cutAll 0 0 36 [some (av_R (some 3)), none, none, some (av_I v3), some (av_I v4)] [] h Q) (hb0 : hb s h) (H : B_Tokens_cutAll_36 G s a2 v3 v4 h Q X36) : aw G (rm_R 9 0 0) m_Tokens_cutAll 0 0 36 [some (av_R (some 3)), none, none, some (av_I v3), some (av_I v4)] [] h Q := by
  unfold B_Tokens_cutAll_36 at H
  have hS : isS s := hb0.2.1
  refine A_iload d_Tokens_cutAll_36 rfl ?_
  refine A_sipush d_Tokens_cutAll_38 rfl ?_
  refine A_icmp_gt (tgt := 59) d_Tokens_cutAll_41 (by decide) (fun c => ?_) (fun c => ?_)
  · replace H := H.1 c
    refine A_pc (pc' := 59) rfl ?_
    refine A_free (L' := [some (av_R (some 3)), none, none, none, none]) (And.intro rfl trivial) ?_
    exact b_Tokens_cutAll_59    hb0 H
  · replace H := H.2 c
    refine A_iload_n 3 d_Tokens_cutAll_44 rfl rfl ?_
    refine A_if_eq (tgt := 59) d_Tokens_cutAll_45 (by decide) (fun c => ?_) (fun c => ?_)
    · replace H := H.1 c
      refine A_pc (pc' := 59) rfl ?_
      refine A_free (L' := [some (av_R (some 3)), none, none, none, none]) (And.intro rfl trivial) ?_
      exact b_Tokens_cutAll_59    hb0 H
    · replace H := H.2 c
      refine A_aload_n 0 d_Tokens_cutAll_48 rfl rfl ?_
      refine A_callV0 m_Tokens_cutOne T_ok d_Tokens_cutAll_49 l_Tokens_44 k_Tokens_cutOne (hb_s hb0 sf_3) rfl (by decide +kernel) (by decide) (Nat.le_of_ble_eq_true rfl) H (fun r h1 hq => ?_)
      clear H
      obtain ⟨z3, rfl, hb2, H⟩ := hq
      refine A_istore_n 3 (L' := [some (av_R (some 3)), none, none, some (av_I z3), some (av_I v4)]) d_Tokens_cutAll_52 rfl (Nat.le_of_ble_eq_true rfl) rfl ?_
      have g4 := H.1
      replace H := H.2
      refine A_iincv (z := (v4 + 1)) (L' := [some (av_R (some 3)), none, none, some (av_I z3), some (av_I (v4 + 1))]) d_Tokens_cutAll_53 rfl (w32_to (by omega) (by unfold i32; omega)) rfl ?_
      refine A_goto (tgt := 36) d_Tokens_cutAll_56 (by decide) ?_
      refine A_pc (pc' := 36) rfl ?_
      exact hX36 (z3) ((v4 + 1)) h1  hb2 H
theorem lp_Tokens_cutAll_36 {G : cx_T} {s : Nat} {a2 : Int} {Q : Option av_T → ah_T → Prop} (I : Int → Int → ah_T → Prop) (μ : Int → Int → ah_T → Nat) (hI : ∀ (v3 : Int) (v4 : Int) (h : ah_T), hb s h → I v3 v4 h → B_Tokens_cutAll_36 G s a2 v3 v4 h Q (fun v3' v4' h' => I v3' v4' h' ∧ μ v3' v4' h' < μ v3 v4 h)) : ∀ (v3 : Int) (v4 : Int) (h : ah_T), hb s h → I v3 v4 h → aw G (rm_R 9 0 0) m_Tokens_cutAll 0 0 36 [some (av_R (some 3)), none, none, some (av_I v3), some (av_I v4)] [] h Q := by
  have key : ∀ (n : Nat) (v3 : Int) (v4 : Int) (h : ah_T), hb s h → I v3 v4 h → μ v3 v4 h < n → aw G (rm_R 9 0 0) m_Tokens_cutAll 0 0 36 [some (av_R (some 3)), none, none, some (av_I v3), some (av_I v4)] [] h Q := by
    intro n
    induction n with
    | zero => intro v3 v4 h  hb0 hi hm; omega
    | succ n ih => intro v3 v4 h  hb0 hi hm; exact b_Tokens_cutAll_36  (fun v3' v4' h'  hb' hx => ih v3' v4' h'  hb' hx.1 (by have := hx.2; omega))  hb0 (hI v3 v4 h  hb0 hi)
  exact fun v3 v4 h  hb0 hi => key _ v3 v4 h  hb0 hi (Nat.lt_succ_self _)
def B_Tokens_cutAll_0 (G : cx_T) (s : Nat) (a2 : Int) (h : ah_T) (Q : Option av_T → ah_T → Prop) (X36 : Int → Int → ah_T → Prop) : Prop :=
 ∀ h1 : ah_T, h1 = st_r h 3 6 (some 1) → ∀ x3 : Int, x3 = (if 2000 < 2000 then 2000 else 2000) → -2147483648 ≤ x3 → x3 ≤ 2147483647 → ∀ x4 : Int, x4 = (if x3 < a2 then x3 else a2) → -2147483648 ≤ x4 → x4 ≤ 2147483647 → ∀ h5 : ah_T, h5 = st_i h1 3 7 x4 → ∀ h7 : ah_T, h7 = st_i h5 3 8 0 → ∀ h9 : ah_T, h9 = st_i h7 3 4 0 → X36 (1) (0) h9
theorem b_Tokens_cutAll_0 {G : cx_T} {s : Nat} {a2 : Int} {h : ah_T} {Q : Option av_T → ah_T → Prop} {X36 : Int → Int → ah_T → Prop} (hX36 : ∀ (v3 : Int) (v4 : Int) (h : ah_T), hb s h → X36 v3 v4 h → aw G (rm_R 9 0 0) m_Tokens_cutAll 0 0 36 [some (av_R (some 3)), none, none, some (av_I v3), some (av_I v4)] [] h Q) (hb0 : hb s h) (H : B_Tokens_cutAll_0 G s a2 h Q X36) : aw G (rm_R 9 0 0) m_Tokens_cutAll 0 0 0 [some (av_R (some 3)), some (av_R (some 1)), some (av_I a2), none, none] [] h Q := by
  unfold B_Tokens_cutAll_0 at H
  have hS : isS s := hb0.2.1
  refine A_aload_n 0 d_Tokens_cutAll_0 rfl rfl ?_
  refine A_aload_n 1 d_Tokens_cutAll_1 rfl rfl ?_
  refine A_putR T_ok d_Tokens_cutAll_2 f_Tokens_25 ty_a (hb_s hb0 sf_3) fin_f ?_
  refine A_hn (fun h1 eh1 => ?_)
  have hb2 := hb_t hb0 eh1
  replace H := H h1 eh1
  refine A_aload_n 0 d_Tokens_cutAll_5 rfl rfl ?_
  refine A_iload_n 2 d_Tokens_cutAll_6 rfl rfl ?_
  refine A_pc (pc' := 7) rfl ?_
  refine A_aload_n 1 d_Tokens_cutAll_7 rfl rfl ?_
  refine A_alenN d_Tokens_cutAll_8 (hb_s hb2 sf_1) (by decide) (by decide) ?_
  refine A_sipush d_Tokens_cutAll_9 rfl ?_
  refine A_mmin (z := (if 2000 < 2000 then 2000 else 2000)) d_Tokens_cutAll_12 lm_Tokens_28 ma_min (by decide) (by decide) (Nat.le_of_ble_eq_true rfl) rfl ?_
  refine A_nrI (fun x3 ex3 lx3 ux3 => ?_)
  replace H := H x3 ex3 lx3 ux3
  refine A_mmin (z := (if x3 < a2 then x3 else a2)) d_Tokens_cutAll_15 lm_Tokens_28 ma_min (by decide) (by decide) (Nat.le_of_ble_eq_true rfl) rfl ?_
  refine A_nrI (fun x4 ex4 lx4 ux4 => ?_)
  replace H := H x4 ex4 lx4 ux4
  refine A_putI T_ok d_Tokens_cutAll_18 f_Tokens_34 (hb_s hb2 sf_3) fin_f ?_
  refine A_hn (fun h5 eh5 => ?_)
  have hb6 := hb_i hb2 eh5
  replace H := H h5 eh5
  refine A_pc (pc' := 21) rfl ?_
  refine A_aload_n 0 d_Tokens_cutAll_21 rfl rfl ?_
  refine A_iconst d_Tokens_cutAll_22 rfl ?_
  refine A_putI T_ok d_Tokens_cutAll_23 f_Tokens_38 (hb_s hb6 sf_3) fin_f ?_
  refine A_hn (fun h7 eh7 => ?_)
  have hb8 := hb_i hb6 eh7
  replace H := H h7 eh7
  refine A_aload_n 0 d_Tokens_cutAll_26 rfl rfl ?_
  refine A_iconst d_Tokens_cutAll_27 rfl ?_
  refine A_putI T_ok d_Tokens_cutAll_28 f_Tokens_41 (hb_s hb8 sf_3) fin_f ?_
  refine A_hn (fun h9 eh9 => ?_)
  have hb10 := hb_i hb8 eh9
  replace H := H h9 eh9
  refine A_pc (pc' := 31) rfl ?_
  refine A_iconst d_Tokens_cutAll_31 rfl ?_
  refine A_istore_n 3 (L' := [some (av_R (some 3)), some (av_R (some 1)), some (av_I a2), some (av_I 1), none]) d_Tokens_cutAll_32 rfl (Nat.le_of_ble_eq_true rfl) rfl ?_
  refine A_iconst d_Tokens_cutAll_33 rfl ?_
  refine A_istore (L' := [some (av_R (some 3)), some (av_R (some 1)), some (av_I a2), some (av_I 1), some (av_I 0)]) d_Tokens_cutAll_34 (Nat.le_of_ble_eq_true rfl) rfl ?_
  refine A_pc (pc' := 36) rfl ?_
  refine A_free (L' := [some (av_R (some 3)), none, none, some (av_I 1), some (av_I 0)]) (And.intro rfl (And.intro rfl (And.intro rfl trivial))) ?_
  exact hX36 (1) (0) h9  hb10 H
theorem c_Tokens_cutAll {G : cx_T} {s : Nat} {a2 : Int} {h : ah_T} {Q : Option av_T → ah_T → Prop} {X36 : Int → Int → ah_T → Prop} (hX36 : ∀ (v3 : Int) (v4 : Int) (h : ah_T), hb s h → X36 v3 v4 h → aw G (rm_R 9 0 0) m_Tokens_cutAll 0 0 36 [some (av_R (some 3)), none, none, some (av_I v3), some (av_I v4)] [] h Q) (hb0 : hb s h) (H : i32 a2 → B_Tokens_cutAll_0 G s a2 h Q X36) : con G 9 0 0 m_Tokens_cutAll [av_R (some 3), av_R (some 1), av_I a2] h Q := by
  have hS : isS s := hb0.2.1
  refine con_of (L := [some (av_R (some 3)), some (av_R (some 1)), some (av_I a2), none, none]) (by decide +kernel) (Nat.le_of_ble_eq_true rfl) rfl ?_
  refine A_locI 2 rfl (fun ra2 => ?_)
  exact b_Tokens_cutAll_0  hX36 hb0 (H ra2)

/-! ===== the class's tokens ===== -/
def CT (T : Nat → Int) (n : Nat) (h : ah_T) : Prop := h.2.2.2 3 6 = some 1 ∧ h.2.1 3 7 = (n : Int) ∧ n ≤ 2000 ∧ ∀ j, j < n → h.2.1 1 j = T j ∧ 0 ≤ T j ∧ T j ≤ 255
theorem CT_f {T : Nat → Int} {n : Nat} {W : Nat → Nat → Prop} {h h' : ah_T} (hC : CT T n h) (f : fr W h h') (h1 : ¬ W 3 7) (h2 : ∀ j, ¬ W 1 j) : CT T n h' :=
  ⟨f.2 hC.1, by rw [fr_g f h1]; exact hC.2.1, hC.2.2.1, fun j hj => by rw [fr_g f (h2 j)]; exact hC.2.2.2 j hj⟩
abbrev W3 : Nat → Nat → Prop := fun a k => a = 3 ∧ 8 ≤ k
theorem CT_3 {T : Nat → Int} {n : Nat} {h h' : ah_T} (hC : CT T n h) (f : fr W3 h h') : CT T n h' := CT_f hC f (fun q => absurd q.2 (by decide)) (fun j q => absurd q.1 (by decide))
theorem t_Tokens_isSmall {G : cx_T} {s : Nat} {h : ah_T} {a0 : Int} (hb0 : hb s h) : con G 0 0 0 m_Tokens_isSmall [av_I a0] h (fun r h' => ∃ z, r = some (av_I z) ∧ hb s h' ∧ h' = h ∧ (z = 0 ∨ z = 1) ∧ (z = 0 ↔ ¬ isSm a0)) := by
  refine c_Tokens_isSmall hb0 (fun _ => ?_)
  unfold B_Tokens_isSmall_0 B_Tokens_isSmall_16 B_Tokens_isSmall_17
  unfold isSm
  exact ⟨fun q => ⟨Or.inl rfl, _, rfl, hb0, rfl, Or.inl rfl, by omega⟩, fun q => ⟨fun q1 => ⟨Or.inl rfl, _, rfl, hb0, rfl, Or.inl rfl, by omega⟩, fun q1 => ⟨Or.inr rfl, _, rfl, hb0, rfl, Or.inr rfl, by omega⟩⟩⟩
theorem t_Tokens_isDigit {G : cx_T} {s : Nat} {h : ah_T} {a0 : Int} (hb0 : hb s h) : con G 0 0 0 m_Tokens_isDigit [av_I a0] h (fun r h' => ∃ z, r = some (av_I z) ∧ hb s h' ∧ h' = h ∧ (z = 0 ∨ z = 1) ∧ (z = 0 ↔ ¬ isDg a0)) := by
  refine c_Tokens_isDigit hb0 (fun _ => ?_)
  unfold B_Tokens_isDigit_0 B_Tokens_isDigit_16 B_Tokens_isDigit_17
  unfold isDg
  exact ⟨fun q => ⟨Or.inl rfl, _, rfl, hb0, rfl, Or.inl rfl, by omega⟩, fun q => ⟨fun q1 => ⟨Or.inl rfl, _, rfl, hb0, rfl, Or.inl rfl, by omega⟩, fun q1 => ⟨Or.inr rfl, _, rfl, hb0, rfl, Or.inr rfl, by omega⟩⟩⟩
theorem t_Tokens_byteAt {G : cx_T} {s : Nat} {h : ah_T} {T : Nat → Int} {n : Nat} {i : Int} (hb0 : hb s h) (hC : CT T n h) : con G 0 0 0 m_Tokens_byteAt [av_R (some 3), av_I i] h (fun r h' => ∃ z, r = some (av_I z) ∧ hb s h' ∧ h' = h ∧ (0 ≤ i → z = tb T n i.toNat) ∧ -1 ≤ z ∧ z ≤ 255) := by
  obtain ⟨c1, c2, c3, c4⟩ := hC
  refine c_Tokens_byteAt hb0 (fun _ => ?_)
  unfold B_Tokens_byteAt_0 B_Tokens_byteAt_30 B_Tokens_byteAt_31
  refine ⟨fun q => ⟨_, rfl, hb0, rfl, fun w => by omega, by decide, by decide⟩, fun q x1 e1 _ _ => ⟨fun q1 => ⟨_, rfl, hb0, rfl, fun w => ?_, by decide, by decide⟩, fun q1 => ⟨c1, fun q2 => by omega, fun q2 => ?_⟩⟩⟩
  · rw [tb_out (by omega)]
  · first
    | refine ⟨c1, ⟨by omega, by omega⟩, fun x4 e4 _ _ => ⟨_, rfl, hb0, rfl, fun w => ?_, ?_, ?_⟩⟩
    | refine ⟨⟨by omega, by omega⟩, fun x4 e4 _ _ => ⟨_, rfl, hb0, rfl, fun w => ?_, ?_, ?_⟩⟩
    · rw [tb_in (by omega), e4]; exact (c4 _ (by omega)).1
    · have := c4 i.toNat (by omega); omega
    · have := c4 i.toNat (by omega); omega
/-- at a place of the text -/
theorem t_Tokens_byteP {G : cx_T} {s : Nat} {h : ah_T} {T : Nat → Int} {n p : Nat} {i : Int} (hb0 : hb s h) (hC : CT T n h) (hi : i = (p : Int)) : con G 0 0 0 m_Tokens_byteAt [av_R (some 3), av_I i] h (fun r h' => ∃ z, r = some (av_I z) ∧ hb s h' ∧ h' = h ∧ z = tb T n p ∧ -1 ≤ z ∧ z ≤ 255) := by
  refine con_mono (t_Tokens_byteAt hb0 hC) ?_
  rintro r h' ⟨z, e1, e2, e3, e4, e5⟩
  exact ⟨z, e1, e2, e3, by rw [e4 (by omega), hi, tn_c], e5⟩
theorem t_Tokens_skipBlanks {G : cx_T} {s : Nat} {h : ah_T} {T : Nat → Int} {n p : Nat} (hb0 : hb s h) (hC : CT T n h) (hp : h.2.1 3 8 = (p : Int)) (hpn : p ≤ n) : con G 1 0 0 m_Tokens_skipBlanks [av_R (some 3)] h (fun r h' => r = none ∧ hb s h' ∧ fr W3 h h' ∧ ∃ q : Nat, h'.2.1 3 8 = (q : Int) ∧ Skp T n p q) := by
  refine c_Tokens_skipBlanks (X2 := fun v1 hh => fr W3 h hh ∧ ∃ k : Nat, p + k ≤ n ∧ hh.2.1 3 8 = (p : Int) + k ∧ (v1 = 0 ∨ v1 = 1) ∧ (v1 = 1 ↔ rk T p k) ∧ ∀ j, j < k → skb T p j) ?_ hb0 ?_
  · refine lp_Tokens_skipBlanks_2 _ (fun _ hh => (2001 - hh.2.1 3 8).toNat) ?_
    rintro v1 hh hb1 ⟨hf, k, k1, k2, k3, k4, k5⟩
    have hC1 := CT_3 hC hf
    unfold B_Tokens_skipBlanks_2
    intro x1 e1 _ _ x2 e2 _ _
    have d1 : x1 = ((p + k : Nat) : Int) := by omega
    have d2 : x2 = (n : Int) := by rw [e2]; exact hC1.2.1
    have hn := hC.2.2.1
    refine ⟨fun c => ⟨rfl, hb1, hf, p + k, by omega, ⟨by omega, by omega⟩, fun j hj => k5 j (by omega), fun q => absurd q (by omega)⟩, fun c => ?_⟩
    refine con_mono (t_Tokens_byteP hb1 hC1 d1) ?_
    rintro r h4 ⟨z6, rfl, hb4, rfl, ez, -, -⟩
    refine ⟨z6, rfl, hb4, ?_⟩
    rw [tb_in (by omega)] at ez
    have key : ∀ w : Int, (w = 0 ∨ w = 1) → (w = 1 ↔ rk T p (k + 1)) → skb T p k → B_Tokens_skipBlanks_67 G s w h4 (fun r h' => r = none ∧ hb s h' ∧ fr W3 h h' ∧ ∃ q : Nat, h'.2.1 3 8 = (q : Int) ∧ Skp T n p q) (fun v1' h' => (fr W3 h h' ∧ ∃ k : Nat, p + k ≤ n ∧ h'.2.1 3 8 = (p : Int) + k ∧ (v1' = 0 ∨ v1' = 1) ∧ (v1' = 1 ↔ rk T p k) ∧ ∀ j, j < k → skb T p j) ∧ (2001 - h'.2.1 3 8).toNat < (2001 - h4.2.1 3 8).toNat) := by
      intro w w0 w1 w2
      unfold B_Tokens_skipBlanks_67
      intro y ey _ _
      refine ⟨⟨by omega, by omega⟩, fun h3 e3 => ?_⟩
      have m3 : h3.2.1 3 8 = y + 1 := mv_i e3
      refine ⟨⟨fr_i hf e3 ⟨rfl, by decide⟩, k + 1, by omega, by omega, w0, w1, fun j hj => ?_⟩, by omega⟩
      by_cases hjk : j = k
      · subst hjk; exact w2
      · exact k5 j (by omega)
    have hr : rk T p (k + 1) ↔ (T (p + k) ≠ 10 ∧ (rk T p k ∨ T (p + k) = 37)) := Iff.rfl
    refine ⟨fun c1 => key 0 (Or.inl rfl) ⟨fun q => absurd q (by decide), fun q => absurd (hr.mp q).1 (by omega)⟩ (Or.inr (Or.inr (Or.inl (by omega)))), fun c1 => ⟨fun c2 => key 1 (Or.inr rfl) ⟨fun _ => hr.mpr ⟨by omega, Or.inr (by omega)⟩, fun _ => rfl⟩ (Or.inr (Or.inr (Or.inr (Or.inr (Or.inr (by omega)))))), fun c2 => ⟨fun c3 => ?_, fun c3 => ?_⟩⟩⟩
    · have r0 : ¬ rk T p k := fun q => by have := k4.mpr q; omega
      have r1 : ¬ rk T p (k + 1) := fun q => (hr.mp q).2.elim r0 (by omega)
      have kk := key v1 k3 ⟨fun q => by omega, fun q => absurd q r1⟩
      refine ⟨fun c4 => kk (Or.inr (Or.inl (by omega))), fun c4 => ⟨fun c5 => kk (Or.inr (Or.inr (Or.inr (Or.inl (by omega))))), fun c5 => ⟨fun c6 => kk (Or.inr (Or.inr (Or.inr (Or.inr (Or.inl (by omega)))))), fun c6 => ?_⟩⟩⟩
      refine ⟨rfl, hb4, hf, p + k, by omega, ⟨by omega, by omega⟩, fun j hj => k5 j (by omega), fun q w => ?_⟩
      rw [show p + k - p = k by omega] at w
      unfold skb at w
      rcases w with w | w | w | w | w | w
      · exact r0 w
      all_goals omega
    · have r0 : rk T p k := k4.mp (by omega)
      exact key v1 k3 ⟨fun _ => hr.mpr ⟨by omega, Or.inl r0⟩, fun _ => by omega⟩ (Or.inl r0)
  · exact ⟨fr_0, 0, by omega, by omega, Or.inl rfl, ⟨fun q => absurd q (by decide), fun q => q.elim⟩, fun j hj => absurd hj (by omega)⟩

/-! ===== the class's tokens, 2: signs, names, numbers ===== -/
theorem i2b_v {x v : Int} (e : v = ((Int32.ofInt x).toInt8.toInt32).toInt) (h0 : 0 ≤ x) (h1 : x ≤ 255) : (x ≤ 127 → v = x) ∧ (128 ≤ x → v < 0) := by
  rw [Int8.toInt_toInt32, Int32.toInt_toInt8, i32_tn (by unfold i32; omega)] at e
  have e2 : v = x.bmod 256 := e
  unfold Int.bmod at e2
  dsimp only at e2
  split at e2 <;> omega
theorem sg_in : ∀ j : Nat, j < 13 → isSg (((sk_byt.getD 6 []).getD j 0).toInt) := by unfold isSg; decide +kernel
theorem sg_of {b : Int} (h : isSg b) : ∃ j, j < 13 ∧ ((sk_byt.getD 6 []).getD j 0).toInt = b := by
  unfold isSg at h
  rcases h with rfl | rfl | rfl | rfl | rfl | rfl | rfl | rfl | rfl | rfl | rfl | rfl | rfl
  · exact ⟨0, by decide, by decide +kernel⟩
  · exact ⟨1, by decide, by decide +kernel⟩
  · exact ⟨2, by decide, by decide +kernel⟩
  · exact ⟨3, by decide, by decide +kernel⟩
  · exact ⟨4, by decide, by decide +kernel⟩
  · exact ⟨5, by decide, by decide +kernel⟩
  · exact ⟨6, by decide, by decide +kernel⟩
  · exact ⟨7, by decide, by decide +kernel⟩
  · exact ⟨8, by decide, by decide +kernel⟩
  · exact ⟨9, by decide, by decide +kernel⟩
  · exact ⟨10, by decide, by decide +kernel⟩
  · exact ⟨11, by decide, by decide +kernel⟩
  · exact ⟨12, by decide, by decide +kernel⟩
theorem t_L1_indexOfChar {G : cx_T} {s : Nat} {h : ah_T} {c : Int} (hb0 : hb s h) (h0 : 0 ≤ c) (h1 : c ≤ 255) : con G 0 0 0 m_JStringLatin1_indexOfChar [av_S 26, av_I c, av_I 0, av_I 13] h (fun r h' => ∃ z, r = some (av_I z) ∧ hb s h' ∧ h' = h ∧ (0 ≤ z ↔ isSg c)) := by
  refine c_JStringLatin1_indexOfChar (X7 := fun v4 v5 hh => hh = h ∧ ((c ≤ 127 → v4 = c) ∧ (128 ≤ c → v4 < 0)) ∧ ∃ j : Nat, v5 = (j : Int) ∧ j ≤ 13 ∧ ∀ k, k < j → ((sk_byt.getD 6 []).getD k 0).toInt ≠ v4) ?_ hb0 (fun _ _ _ => ?_)
  · refine lp_JStringLatin1_indexOfChar_7 (a1 := c) (a2 := 0) _ (fun _ v5 _ => (14 - v5).toNat) ?_
    rintro v4 v5 hh hb1 ⟨rfl, hv, j, rfl, j1, j2⟩
    unfold B_JStringLatin1_indexOfChar_7
    refine ⟨fun q => ⟨_, rfl, hb1, rfl, ⟨fun w => absurd w (by decide), fun w => ?_⟩⟩, fun q => ⟨⟨by omega, by omega⟩, fun x1 e1 => ⟨fun q1 => ⟨_, rfl, hb1, rfl, ⟨fun _ => ?_, fun _ => by omega⟩⟩, fun q1 => ⟨⟨by omega, by omega⟩, ⟨rfl, hv, j + 1, by omega, by omega, fun k hk => ?_⟩, by omega⟩⟩⟩⟩
    · exfalso
      obtain ⟨k, k1, k2⟩ := sg_of w
      have hc : c ≤ 127 := by unfold isSg at w; omega
      exact j2 k (by omega) (by rw [hv.1 hc]; exact k2)
    · rw [tn_c] at e1
      have hs := sg_in j (by omega)
      rw [← e1, q1] at hs
      have hc : c ≤ 127 := by
        rcases Int.lt_or_le c 128 with w | w
        · omega
        · have := hv.2 w; unfold isSg at hs; omega
      rw [hv.1 hc] at hs
      exact hs
    · rw [tn_c] at e1
      by_cases hkj : k = j
      · subst hkj; rw [← e1]; exact q1
      · exact j2 k (by omega)
  · unfold B_JStringLatin1_indexOfChar_0
    intro x1 e1 _ _
    exact ⟨rfl, i2b_v e1 h0 h1, 0, rfl, by omega, fun k hk => absurd hk (by omega)⟩
theorem t_L1_indexOf {G : cx_T} {s : Nat} {h : ah_T} {c : Int} (hb0 : hb s h) (h0 : 0 ≤ c) (h1 : c ≤ 255) : con G 1 0 0 m_JStringLatin1_indexOf [av_S 26, av_I c, av_I 0, av_I 13] h (fun r h' => ∃ z, r = some (av_I z) ∧ hb s h' ∧ h' = h ∧ (0 ≤ z ↔ isSg c)) := by
  refine c_JStringLatin1_indexOf hb0 (fun _ _ _ => ?_)
  unfold B_JStringLatin1_indexOf_0
  refine con_mono (s_JStringLatin1_canEncode h0 h1) ?_
  rintro r h' ⟨z, rfl, ⟨q1, q2⟩, rfl⟩
  refine ⟨z, rfl, hb0, fun q => by omega, fun _ x4 e4 _ _ x5 e5 _ _ => ?_⟩
  obtain rfl : x4 = 0 := by rw [e4]; rfl
  obtain rfl : x5 = 13 := by rw [e5]; rfl
  refine ⟨fun _ => con_mono (t_L1_indexOfChar hb0 h0 h1) ?_, fun q => absurd q (by decide)⟩
  rintro r h' ⟨z, rfl, q1, q2, q3⟩
  exact ⟨z, rfl, q1, z, rfl, q1, q2, q3⟩
theorem t_Str_indexOf3 {G : cx_T} {s : Nat} {h : ah_T} {c : Int} (hb0 : hb s h) (h0 : 0 ≤ c) (h1 : c ≤ 255) : con G 5 0 0 m_JString_indexOf_III [av_S 16, av_I c, av_I 0] h (fun r h' => ∃ z, r = some (av_I z) ∧ hb s h' ∧ h' = h ∧ (0 ≤ z ↔ isSg c)) := by
  refine c_JString_indexOf_III hb0 (fun _ _ => ?_)
  unfold B_JString_indexOf_III_0 B_JString_indexOf_III_36
  refine con_mono (s_JString_isLatin1 (i := 6) (by decide)) ?_
  rintro r h' ⟨z, rfl, ⟨q1, q2⟩, rfl⟩
  refine ⟨z, rfl, hb0, fun q => by omega, fun _ => ?_⟩
  refine con_mono (s_JString_length (i := 6) (by decide)) ?_
  rintro r h' ⟨z2, rfl, -, q3, rfl⟩
  obtain rfl : z2 = 13 := q3
  refine ⟨13, rfl, hb0, ?_⟩
  refine con_mono (t_L1_indexOf hb0 h0 h1) ?_
  rintro r h' ⟨z, rfl, q1, q2, q3⟩
  exact ⟨z, rfl, q1, z, rfl, q1, q2, q3⟩
theorem t_Str_indexOf {G : cx_T} {s : Nat} {h : ah_T} {c : Int} (hb0 : hb s h) (h0 : 0 ≤ c) (h1 : c ≤ 255) : con G 6 0 0 m_JString_indexOf_II [av_S 16, av_I c] h (fun r h' => ∃ z, r = some (av_I z) ∧ hb s h' ∧ h' = h ∧ (0 ≤ z ↔ isSg c)) := by
  refine c_JString_indexOf_II hb0 (fun _ => ?_)
  unfold B_JString_indexOf_II_0
  refine con_mono (t_Str_indexOf3 hb0 h0 h1) ?_
  rintro r h' ⟨z, rfl, q1, q2, q3⟩
  exact ⟨z, rfl, q1, z, rfl, q1, q2, q3⟩
theorem t_Tokens_kindOfName {G : cx_T} {s : Nat} {h : ah_T} {x : Int} (hb0 : hb s h) : con G 6 0 0 m_Tokens_kindOfName [av_L x] h (fun r h' => ∃ z, r = some (av_I z) ∧ hb s h' ∧ h' = h ∧ z = knm x) := by
  refine c_Tokens_kindOfName hb0 (fun _ => ?_)
  unfold B_Tokens_kindOfName_0 B_Tokens_kindOfName_89 knm
  refine con_mono s_Tokens_lettersOf_0 ?_
  rintro r h1 ⟨z0, rfl, ⟨l0, u0⟩, rfl⟩
  obtain rfl : z0 = 1953066341 := by omega
  refine ⟨_, rfl, hb0, fun c => ⟨_, rfl, hb0, rfl, by rw [if_pos c]⟩, fun c0 => ?_⟩
  refine con_mono s_Tokens_lettersOf_1 ?_
  rintro r h1 ⟨z1, rfl, ⟨l1, u1⟩, rfl⟩
  obtain rfl : z1 = 508675318629 := by omega
  refine ⟨_, rfl, hb0, fun c => ⟨_, rfl, hb0, rfl, by rw [if_neg c0, if_pos c]⟩, fun c1 => ?_⟩
  refine con_mono s_Tokens_lettersOf_2 ?_
  rintro r h1 ⟨z2, rfl, ⟨l2, u2⟩, rfl⟩
  obtain rfl : z2 = 1818848869 := by omega
  refine ⟨_, rfl, hb0, fun c => ⟨_, rfl, hb0, rfl, by rw [if_neg c0, if_neg c1, if_pos c]⟩, fun c2 => ?_⟩
  refine con_mono s_Tokens_lettersOf_3 ?_
  rintro r h1 ⟨z3, rfl, ⟨l3, u3⟩, rfl⟩
  obtain rfl : z3 = 1920298085 := by omega
  refine ⟨_, rfl, hb0, fun c => ⟨_, rfl, hb0, rfl, by rw [if_neg c0, if_neg c1, if_neg c2, if_pos c]⟩, fun c3 => ?_⟩
  refine con_mono s_Tokens_lettersOf_4 ?_
  rintro r h1 ⟨z4, rfl, ⟨l4, u4⟩, rfl⟩
  obtain rfl : z4 = 7499639 := by omega
  refine ⟨_, rfl, hb0, fun c => ⟨_, rfl, hb0, rfl, by rw [if_neg c0, if_neg c1, if_neg c2, if_neg c3, if_pos c]⟩, fun c4 => ?_⟩
  refine con_mono s_Tokens_lettersOf_5 ?_
  rintro r h1 ⟨z5, rfl, ⟨l5, u5⟩, rfl⟩
  obtain rfl : z5 = 114 := by omega
  exact ⟨_, rfl, hb0, fun c => ⟨_, rfl, hb0, rfl, by rw [if_neg c0, if_neg c1, if_neg c2, if_neg c3, if_neg c4, if_pos c]⟩, fun c5 => ⟨_, rfl, hb0, rfl, by rw [if_neg c0, if_neg c1, if_neg c2, if_neg c3, if_neg c4, if_neg c5]⟩⟩
theorem nvl_b {T : Nat → Int} {p : Nat} : ∀ k : Nat, (∀ j, p ≤ j → j < p + k → isDg (T j)) → 0 ≤ nvl T p k ∧ nvl T p k < 10 ^ k
  | 0, _ => by simp [nvl]
  | k + 1, hd => by
    obtain ⟨h1, h2⟩ := nvl_b k (fun j a b => hd j a (by omega))
    have hl := hd (p + k) (by omega) (by omega)
    unfold isDg at hl
    rw [nvl, Int.pow_succ]
    generalize (10 : Int) ^ k = w at *
    omega
theorem t_Tokens_cutNumber {G : cx_T} {s : Nat} {h : ah_T} {T : Nat → Int} {n p : Nat} (hb0 : hb s h) (hC : CT T n h) (hp : h.2.1 3 8 = (p : Int)) (hpn : p ≤ n) : con G 1 0 0 m_Tokens_cutNumber [av_R (some 3)] h (fun r h' => r = none ∧ hb s h' ∧ fr W3 h h' ∧ ∃ q : Nat, NumR T n p (h'.2.1 3 9) (h'.2.2.1 3 11) q ∧ h'.2.1 3 8 = (q : Int)) := by
  refine c_Tokens_cutNumber (X7 := fun v1 v2 hh => fr W3 h hh ∧ v1 = (p : Int) ∧ ∃ k : Nat, p + k ≤ n ∧ hh.2.1 3 8 = (p : Int) + k ∧ (∀ j, p ≤ j → j < p + k → isDg (T j)) ∧ (k ≤ 4 → v2 = nvl T p k)) ?_ hb0 ?_
  · refine lp_Tokens_cutNumber_7 _ (fun _ _ hh => (2001 - hh.2.1 3 8).toNat) ?_
    rintro v1 v2 hh hb1 ⟨hf, rfl, k, k1, k2, k3, k4⟩
    have hC1 := CT_3 hC hf
    have hn := hC.2.2.1
    have hend : ∀ hx : ah_T, hx = hh → (p + k < n → ¬ isDg (T (p + k))) → B_Tokens_cutNumber_62 G s (p : Int) v2 hx (fun r h' => r = none ∧ hb s h' ∧ fr W3 h h' ∧ ∃ q : Nat, NumR T n p (h'.2.1 3 9) (h'.2.2.1 3 11) q ∧ h'.2.1 3 8 = (q : Int)) := by
      rintro hx rfl hnd
      unfold B_Tokens_cutNumber_62 B_Tokens_cutNumber_88
      intro h1 e1 x3 e3 _ _
      have m8 : h1.2.1 3 8 = (p : Int) + k := (mm_lo e1).trans k2
      have hf1 := fr_l hf e1 ⟨rfl, by decide⟩
      have hr : RunR isDg T n p (p + k) := ⟨⟨by omega, k1⟩, k3, hnd⟩
      refine ⟨⟨by omega, by omega⟩, fun c h2 e2 => ⟨rfl, hb_i (hb_l hb1 e1) e2, fr_i hf1 e2 ⟨rfl, by decide⟩, p + k, ⟨hr, fun w => by omega, fun _ => ⟨mv_i e2, ?_⟩⟩, by rw [mm_i e2 (by decide), m8]; omega⟩, fun c h2 e2 => ⟨rfl, hb_i (hb_l hb1 e1) e2, fr_i hf1 e2 ⟨rfl, by decide⟩, p + k, ⟨hr, fun _ => mv_i e2, fun w => by omega⟩, by rw [mm_i e2 (by decide), m8]; omega⟩⟩
      rw [mm_io e2, mv_l e1, show p + k - p = k by omega]
      exact k4 (by omega)
    unfold B_Tokens_cutNumber_7
    intro x1 e1 _ _ x2 e2 _ _
    have d1 : x1 = ((p + k : Nat) : Int) := by omega
    have d2 : x2 = (n : Int) := by rw [e2]; exact hC1.2.1
    refine ⟨fun c => hend hh rfl (fun w => by omega), fun c => ?_⟩
    refine con_mono (t_Tokens_byteP hb1 hC1 d1) ?_
    rintro r h4 ⟨z6, rfl, hb4, rfl, ez, -, -⟩
    rw [tb_in (by omega)] at ez
    subst ez
    refine ⟨_, rfl, hb4, ?_⟩
    refine con_mono (t_Tokens_isDigit hb4) ?_
    rintro r h7 ⟨z9, rfl, hb7, rfl, z01, z02⟩
    refine ⟨z9, rfl, hb7, fun c1 => hend h7 rfl (fun _ => z02.mp c1), fun c1 x10 e10 _ _ x11 e11 _ _ => ?_⟩
    have hd : isDg (T (p + k)) := Classical.not_not.mp (fun w => c1 (z02.mpr w))
    refine con_mono (t_Tokens_byteP (p := p + k) hb7 hC1 (by omega)) ?_
    rintro r h12 ⟨z14, rfl, hb12, rfl, ez, -, -⟩
    rw [tb_in (by omega)] at ez
    subst ez
    refine ⟨_, rfl, hb12, fun x15 e15 _ _ x16 e16 _ _ x17 e17 _ _ => ⟨⟨by omega, by omega⟩, fun h19 e19 => ?_⟩⟩
    have m8 : h19.2.1 3 8 = x17 + 1 := mv_i e19
    refine ⟨⟨fr_i hf e19 ⟨rfl, by decide⟩, rfl, k + 1, by omega, by omega, fun j j1 j2 => ?_, fun hk => ?_⟩, by omega⟩
    · by_cases hj : j = p + k
      · subst hj; exact hd
      · exact k3 j j1 (by omega)
    · have hk4 := k4 (by omega)
      have hb := nvl_b k k3
      have hp10 : (10 : Int) ^ k ≤ 1000 := by
        have : k = 0 ∨ k = 1 ∨ k = 2 ∨ k = 3 := by omega
        rcases this with rfl | rfl | rfl | rfl <;> decide
      unfold isDg at hd
      rw [w32_id (by unfold i32; omega)] at e10
      rw [w32_id (by unfold i32; omega)] at e15
      rw [w32_id (by unfold i32; omega)] at e16
      rw [nvl]
      omega
  · unfold B_Tokens_cutNumber_0
    intro x1 e1 _ _
    exact ⟨fr_0, by omega, 0, by omega, by omega, fun j a b => by omega, fun _ => rfl⟩
