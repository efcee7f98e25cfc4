/-! ===== verification conditions, 505 ===== -/
def B_MD_wrong_17 (G : cx_T) (s : Nat) (a1 : Int) (a2 : Int) (h : ah_T) (Q : Option av_T → ah_T → Prop) : Prop :=
 Q (some (av_I 0)) h
theorem b_MD_wrong_17 {G : cx_T} {s : Nat} {a1 : Int} {a2 : Int} {h : ah_T} {Q : Option av_T → ah_T → Prop} (hb0 : hb s h) (H : B_MD_wrong_17 G s a1 a2 h Q ) : aw G (rm_R 0 0 0) m_MD_wrong 0 0 17 [none, none, none] [] h Q := by
  unfold B_MD_wrong_17 at H
  have hS : isS s := hb0.2.1
  refine A_iconst d_MD_wrong_17 rfl ?_
  exact A_zret d_MD_wrong_18 (by decide) rfl (by decide) H
def B_MD_wrong_0 (G : cx_T) (s : Nat) (a1 : Int) (a2 : Int) (h : ah_T) (Q : Option av_T → ah_T → Prop) : Prop :=
 ∀ x1 : Int, x1 = h.2.1 170 11 → -2147483648 ≤ x1 → x1 ≤ 2147483647 → ((x1 = 0 → ∀ h2 : ah_T, h2 = st_i h 170 11 a1 → ∀ h4 : ah_T, h4 = st_i h2 170 12 a2 → B_MD_wrong_17 G s a1 a2 h4 Q ) ∧ (¬ x1 = 0 → B_MD_wrong_17 G s a1 a2 h Q ))
theorem b_MD_wrong_0 {G : cx_T} {s : Nat} {a1 : Int} {a2 : Int} {h : ah_T} {Q : Option av_T → ah_T → Prop} (hb0 : hb s h) (H : B_MD_wrong_0 G s a1 a2 h Q ) : aw G (rm_R 0 0 0) m_MD_wrong 0 0 0 [some (av_R (some 170)), some (av_I a1), some (av_I a2)] [] h Q := by
  unfold B_MD_wrong_0 at H
  have hS : isS s := hb0.2.1
  refine A_aload_n 0 d_MD_wrong_0 rfl rfl ?_
  refine A_getIf T_ok d_MD_wrong_1 f_MD_233 (hb_s hb0 sf_170) (fun x1 ex1 lx1 ux1 => ?_)
  replace H := H x1 ex1 lx1 ux1
  refine A_if_ne (tgt := 17) d_MD_wrong_4 (by decide) (fun c => ?_) (fun c => ?_)
  · replace H := H.2 c
    refine A_pc (pc' := 17) rfl ?_
    refine A_free (L' := [none, none, none]) trivial ?_
    exact b_MD_wrong_17    hb0 H
  · replace H := H.1 c
    refine A_aload_n 0 d_MD_wrong_7 rfl rfl ?_
    refine A_iload_n 1 d_MD_wrong_8 rfl rfl ?_
    refine A_putI T_ok d_MD_wrong_9 f_MD_233 (hb_s hb0 sf_170) fin_f ?_
    refine A_hn (fun h2 eh2 => ?_)
    have hb3 := hb_i hb0 eh2
    replace H := H h2 eh2
    refine A_aload_n 0 d_MD_wrong_12 rfl rfl ?_
    refine A_iload_n 2 d_MD_wrong_13 rfl rfl ?_
    refine A_pc (pc' := 14) rfl ?_
    refine A_putI T_ok d_MD_wrong_14 f_MD_236 (hb_s hb3 sf_170) fin_f ?_
    refine A_hn (fun h4 eh4 => ?_)
    have hb5 := hb_i hb3 eh4
    replace H := H h4 eh4
    refine A_pc (pc' := 17) rfl ?_
    refine A_free (L' := [none, none, none]) trivial ?_
    exact b_MD_wrong_17    hb5 H
theorem c_MD_wrong {G : cx_T} {s : Nat} {a1 : Int} {a2 : Int} {h : ah_T} {Q : Option av_T → ah_T → Prop} (hb0 : hb s h) (H : i32 a1 → i32 a2 → B_MD_wrong_0 G s a1 a2 h Q ) : con G 0 0 0 m_MD_wrong [av_R (some 170), av_I a1, av_I a2] h Q := by
  have hS : isS s := hb0.2.1
  refine con_of (L := [some (av_R (some 170)), some (av_I a1), some (av_I a2)]) (by decide +kernel) (Nat.le_of_ble_eq_true rfl) rfl ?_
  refine A_locI 1 rfl (fun ra1 => ?_)
  refine A_locI 2 rfl (fun ra2 => ?_)
  exact b_MD_wrong_0   hb0 (H ra1 ra2)
def B_MD_cant_15 (G : cx_T) (s : Nat) (t1 : Int) (h : ah_T) (Q : Option av_T → ah_T → Prop) : Prop :=
 ∀ x1 : Int, x1 = h.2.1 170 5 → -2147483648 ≤ x1 → x1 ≤ 2147483647 → con G 0 0 0 m_MD_wrong [av_R (some 170), av_I t1, av_I x1] h (fun r h2 => ∃ z4 : Int, r = some (av_I z4) ∧ hb s h2 ∧ (z4 = 0 ∨ z4 = 1) ∧ Q (some (av_I z4)) h2)
theorem b_MD_cant_15 {G : cx_T} {s : Nat} {t1 : Int} {h : ah_T} {Q : Option av_T → ah_T → Prop} (hb0 : hb s h) (H : B_MD_cant_15 G s t1 h Q ) : aw G (rm_R 1 0 0) m_MD_cant 0 0 15 [some (av_R (some 170))] [av_I t1, av_R (some 170)] h Q := by
  unfold B_MD_cant_15 at H
  have hS : isS s := hb0.2.1
  refine A_aload_n 0 d_MD_cant_15 rfl rfl ?_
  refine A_getIf T_ok d_MD_cant_16 f_MD_242 (hb_s hb0 sf_170) (fun x1 ex1 lx1 ux1 => ?_)
  replace H := H x1 ex1 lx1 ux1
  refine A_callV2 m_MD_wrong T_ok d_MD_cant_19 l_MD_245 k_MD_wrong (hb_s hb0 sf_170) rfl (by decide +kernel) (by decide) (Nat.le_of_ble_eq_true rfl) H (fun r h2 hq => ?_)
  clear H
  obtain ⟨z4, rfl, hb3, H⟩ := hq
  exact A_zret d_MD_cant_22 (by decide) rfl H.1 H.2
def B_MD_cant_0 (G : cx_T) (s : Nat) (h : ah_T) (Q : Option av_T → ah_T → Prop) : Prop :=
 ∀ x1 : Int, x1 = h.2.1 170 4 → -2147483648 ≤ x1 → x1 ≤ 2147483647 → ((x1 = 6 → B_MD_cant_15 G s (1) h Q ) ∧ (¬ x1 = 6 → B_MD_cant_15 G s (2) h Q ))
theorem b_MD_cant_0 {G : cx_T} {s : Nat} {h : ah_T} {Q : Option av_T → ah_T → Prop} (hb0 : hb s h) (H : B_MD_cant_0 G s h Q ) : aw G (rm_R 1 0 0) m_MD_cant 0 0 0 [some (av_R (some 170))] [] h Q := by
  unfold B_MD_cant_0 at H
  have hS : isS s := hb0.2.1
  refine A_aload_n 0 d_MD_cant_0 rfl rfl ?_
  refine A_aload_n 0 d_MD_cant_1 rfl rfl ?_
  refine A_getIf T_ok d_MD_cant_2 f_MD_239 (hb_s hb0 sf_170) (fun x1 ex1 lx1 ux1 => ?_)
  replace H := H x1 ex1 lx1 ux1
  refine A_bipush d_MD_cant_5 rfl ?_
  refine A_icmp_ne (tgt := 14) d_MD_cant_7 (by decide) (fun c => ?_) (fun c => ?_)
  · replace H := H.2 c
    refine A_iconst d_MD_cant_14 rfl ?_
    refine A_pc (pc' := 15) rfl ?_
    exact b_MD_cant_15    hb0 H
  · replace H := H.1 c
    refine A_iconst d_MD_cant_10 rfl ?_
    refine A_goto (tgt := 15) d_MD_cant_11 (by decide) ?_
    refine A_pc (pc' := 15) rfl ?_
    exact b_MD_cant_15    hb0 H
theorem c_MD_cant {G : cx_T} {s : Nat} {h : ah_T} {Q : Option av_T → ah_T → Prop} (hb0 : hb s h) (H : B_MD_cant_0 G s h Q ) : con G 1 0 0 m_MD_cant [av_R (some 170)] h Q := by
  have hS : isS s := hb0.2.1
  refine con_of (L := [some (av_R (some 170))]) (by decide +kernel) (Nat.le_of_ble_eq_true rfl) rfl ?_
  exact b_MD_cant_0   hb0 (H )
def B_MD_at_18 (G : cx_T) (s : Nat) (a1 : Int) (t0 : Int) (h : ah_T) (Q : Option av_T → ah_T → Prop) : Prop :=
 Q (some (av_I t0)) h
theorem b_MD_at_18 {G : cx_T} {s : Nat} {a1 : Int} {t0 : Int} {h : ah_T} {Q : Option av_T → ah_T → Prop} (hb0 : hb s h) (H : B_MD_at_18 G s a1 t0 h Q ) : aw G (rm_R 0 0 0) m_MD_at 0 0 18 [none, none] [av_I t0] h Q := by
  unfold B_MD_at_18 at H
  have hS : isS s := hb0.2.1
  exact A_iret d_MD_at_18 (by decide) rfl H
def B_MD_at_0 (G : cx_T) (s : Nat) (a1 : Int) (h : ah_T) (Q : Option av_T → ah_T → Prop) : Prop :=
 ∀ x1 : Int, x1 = h.2.1 170 2 → -2147483648 ≤ x1 → x1 ≤ 2147483647 → ((x1 ≤ a1 → B_MD_at_18 G s a1 (0) h Q ) ∧ (¬ x1 ≤ a1 → (0 ≤ a1 ∧ a1 < 2000) ∧ ∀ x3 : Int, x3 = h.2.1 171 (a1).toNat → -2147483648 ≤ x3 → x3 ≤ 2147483647 → B_MD_at_18 G s a1 (x3) h Q ))
theorem b_MD_at_0 {G : cx_T} {s : Nat} {a1 : Int} {h : ah_T} {Q : Option av_T → ah_T → Prop} (hb0 : hb s h) (H : B_MD_at_0 G s a1 h Q ) : aw G (rm_R 0 0 0) m_MD_at 0 0 0 [some (av_R (some 170)), some (av_I a1)] [] h Q := by
  unfold B_MD_at_0 at H
  have hS : isS s := hb0.2.1
  refine A_iload_n 1 d_MD_at_0 rfl rfl ?_
  refine A_aload_n 0 d_MD_at_1 rfl rfl ?_
  refine A_getIf T_ok d_MD_at_2 f_MD_249 (hb_s hb0 sf_170) (fun x1 ex1 lx1 ux1 => ?_)
  replace H := H x1 ex1 lx1 ux1
  refine A_icmp_ge (tgt := 17) d_MD_at_5 (by decide) (fun c => ?_) (fun c => ?_)
  · replace H := H.1 c
    refine A_iconst d_MD_at_17 rfl ?_
    refine A_pc (pc' := 18) rfl ?_
    refine A_free (L' := [none, none]) trivial ?_
    exact b_MD_at_18    hb0 H
  · replace H := H.2 c
    refine A_aload_n 0 d_MD_at_8 rfl rfl ?_
    refine A_getAv (z := some 171) T_ok d_MD_at_9 f_MD_7 (hb_s hb0 sf_170) (hb_m hb0 rfm_0) ?_
    refine A_iload_n 1 d_MD_at_12 rfl rfl ?_
    have g4 := H.1
    replace H := H.2
    refine A_ialoadf d_MD_at_13 (hb_s hb0 sf_171) g4.1 g4.2 (fun x3 ex3 lx3 ux3 => ?_)
    replace H := H x3 ex3 lx3 ux3
    refine A_goto (tgt := 18) d_MD_at_14 (by decide) ?_
    refine A_pc (pc' := 18) rfl ?_
    refine A_free (L' := [none, none]) trivial ?_
    exact b_MD_at_18    hb0 H
theorem c_MD_at {G : cx_T} {s : Nat} {a1 : Int} {h : ah_T} {Q : Option av_T → ah_T → Prop} (hb0 : hb s h) (H : i32 a1 → B_MD_at_0 G s a1 h Q ) : con G 0 0 0 m_MD_at [av_R (some 170), av_I a1] h Q := by
  have hS : isS s := hb0.2.1
  refine con_of (L := [some (av_R (some 170)), some (av_I a1)]) (by decide +kernel) (Nat.le_of_ble_eq_true rfl) rfl ?_
  refine A_locI 1 rfl (fun ra1 => ?_)
  exact b_MD_at_0   hb0 (H ra1)
def B_MD_isDigit_17 (G : cx_T) (s : Nat) (a1 : Int) (t0 : Int) (h : ah_T) (Q : Option av_T → ah_T → Prop) : Prop :=
 (t0 = 0 ∨ t0 = 1) ∧ Q (some (av_I t0)) h
theorem b_MD_isDigit_17 {G : cx_T} {s : Nat} {a1 : Int} {t0 : Int} {h : ah_T} {Q : Option av_T → ah_T → Prop} (hb0 : hb s h) (H : B_MD_isDigit_17 G s a1 t0 h Q ) : aw G (rm_R 0 0 0) m_MD_isDigit 0 0 17 [none, none] [av_I t0] h Q := by
  unfold B_MD_isDigit_17 at H
  have hS : isS s := hb0.2.1
  exact A_zret d_MD_isDigit_17 (by decide) rfl H.1 H.2
def B_MD_isDigit_16 (G : cx_T) (s : Nat) (a1 : Int) (h : ah_T) (Q : Option av_T → ah_T → Prop) : Prop :=
 B_MD_isDigit_17 G s a1 (0) h Q 
theorem b_MD_isDigit_16 {G : cx_T} {s : Nat} {a1 : Int} {h : ah_T} {Q : Option av_T → ah_T → Prop} (hb0 : hb s h) (H : B_MD_isDigit_16 G s a1 h Q ) : aw G (rm_R 0 0 0) m_MD_isDigit 0 0 16 [none, none] [] h Q := by
  unfold B_MD_isDigit_16 at H
  have hS : isS s := hb0.2.1
  refine A_iconst d_MD_isDigit_16 rfl ?_
  refine A_pc (pc' := 17) rfl ?_
  exact b_MD_isDigit_17    hb0 H
def B_MD_isDigit_0 (G : cx_T) (s : Nat) (a1 : Int) (h : ah_T) (Q : Option av_T → ah_T → Prop) : Prop :=
 ((a1 < 48 → B_MD_isDigit_16 G s a1 h Q ) ∧ (¬ a1 < 48 → ((57 < a1 → B_MD_isDigit_16 G s a1 h Q ) ∧ (¬ 57 < a1 → B_MD_isDigit_17 G s a1 (1) h Q ))))
theorem b_MD_isDigit_0 {G : cx_T} {s : Nat} {a1 : Int} {h : ah_T} {Q : Option av_T → ah_T → Prop} (hb0 : hb s h) (H : B_MD_isDigit_0 G s a1 h Q ) : aw G (rm_R 0 0 0) m_MD_isDigit 0 0 0 [some (av_R (some 170)), some (av_I a1)] [] h Q := by
  unfold B_MD_isDigit_0 at H
  have hS : isS s := hb0.2.1
  refine A_iload_n 1 d_MD_isDigit_0 rfl rfl ?_
  refine A_bipush d_MD_isDigit_1 rfl ?_
  refine A_icmp_lt (tgt := 16) d_MD_isDigit_3 (by decide) (fun c => ?_) (fun c => ?_)
  · replace H := H.1 c
    refine A_pc (pc' := 16) rfl ?_
    refine A_free (L' := [none, none]) trivial ?_
    exact b_MD_isDigit_16    hb0 H
  · replace H := H.2 c
    refine A_iload_n 1 d_MD_isDigit_6 rfl rfl ?_
    refine A_bipush d_MD_isDigit_7 rfl ?_
    refine A_icmp_gt (tgt := 16) d_MD_isDigit_9 (by decide) (fun c => ?_) (fun c => ?_)
    · replace H := H.1 c
      refine A_pc (pc' := 16) rfl ?_
      refine A_free (L' := [none, none]) trivial ?_
      exact b_MD_isDigit_16    hb0 H
    · replace H := H.2 c
      refine A_iconst d_MD_isDigit_12 rfl ?_
      refine A_goto (tgt := 17) d_MD_isDigit_13 (by decide) ?_
      refine A_pc (pc' := 17) rfl ?_
      refine A_free (L' := [none, none]) trivial ?_
      exact b_MD_isDigit_17    hb0 H
theorem c_MD_isDigit {G : cx_T} {s : Nat} {a1 : Int} {h : ah_T} {Q : Option av_T → ah_T → Prop} (hb0 : hb s h) (H : i32 a1 → B_MD_isDigit_0 G s a1 h Q ) : con G 0 0 0 m_MD_isDigit [av_R (some 170), av_I a1] h Q := by
  have hS : isS s := hb0.2.1
  refine con_of (L := [some (av_R (some 170)), some (av_I a1)]) (by decide +kernel) (Nat.le_of_ble_eq_true rfl) rfl ?_
  refine A_locI 1 rfl (fun ra1 => ?_)
  exact b_MD_isDigit_0   hb0 (H ra1)
def B_MD_isSmall_17 (G : cx_T) (s : Nat) (a1 : Int) (t0 : Int) (h : ah_T) (Q : Option av_T → ah_T → Prop) : Prop :=
 (t0 = 0 ∨ t0 = 1) ∧ Q (some (av_I t0)) h
theorem b_MD_isSmall_17 {G : cx_T} {s : Nat} {a1 : Int} {t0 : Int} {h : ah_T} {Q : Option av_T → ah_T → Prop} (hb0 : hb s h) (H : B_MD_isSmall_17 G s a1 t0 h Q ) : aw G (rm_R 0 0 0) m_MD_isSmall 0 0 17 [none, none] [av_I t0] h Q := by
  unfold B_MD_isSmall_17 at H
  have hS : isS s := hb0.2.1
  exact A_zret d_MD_isSmall_17 (by decide) rfl H.1 H.2
def B_MD_isSmall_16 (G : cx_T) (s : Nat) (a1 : Int) (h : ah_T) (Q : Option av_T → ah_T → Prop) : Prop :=
 B_MD_isSmall_17 G s a1 (0) h Q 
theorem b_MD_isSmall_16 {G : cx_T} {s : Nat} {a1 : Int} {h : ah_T} {Q : Option av_T → ah_T → Prop} (hb0 : hb s h) (H : B_MD_isSmall_16 G s a1 h Q ) : aw G (rm_R 0 0 0) m_MD_isSmall 0 0 16 [none, none] [] h Q := by
  unfold B_MD_isSmall_16 at H
  have hS : isS s := hb0.2.1
  refine A_iconst d_MD_isSmall_16 rfl ?_
  refine A_pc (pc' := 17) rfl ?_
  exact b_MD_isSmall_17    hb0 H
def B_MD_isSmall_0 (G : cx_T) (s : Nat) (a1 : Int) (h : ah_T) (Q : Option av_T → ah_T → Prop) : Prop :=
 ((a1 < 97 → B_MD_isSmall_16 G s a1 h Q ) ∧ (¬ a1 < 97 → ((122 < a1 → B_MD_isSmall_16 G s a1 h Q ) ∧ (¬ 122 < a1 → B_MD_isSmall_17 G s a1 (1) h Q ))))
theorem b_MD_isSmall_0 {G : cx_T} {s : Nat} {a1 : Int} {h : ah_T} {Q : Option av_T → ah_T → Prop} (hb0 : hb s h) (H : B_MD_isSmall_0 G s a1 h Q ) : aw G (rm_R 0 0 0) m_MD_isSmall 0 0 0 [some (av_R (some 170)), some (av_I a1)] [] h Q := by
  unfold B_MD_isSmall_0 at H
  have hS : isS s := hb0.2.1
  refine A_iload_n 1 d_MD_isSmall_0 rfl rfl ?_
  refine A_bipush d_MD_isSmall_1 rfl ?_
  refine A_icmp_lt (tgt := 16) d_MD_isSmall_3 (by decide) (fun c => ?_) (fun c => ?_)
  · replace H := H.1 c
    refine A_pc (pc' := 16) rfl ?_
    refine A_free (L' := [none, none]) trivial ?_
    exact b_MD_isSmall_16    hb0 H
  · replace H := H.2 c
    refine A_iload_n 1 d_MD_isSmall_6 rfl rfl ?_
    refine A_bipush d_MD_isSmall_7 rfl ?_
    refine A_icmp_gt (tgt := 16) d_MD_isSmall_9 (by decide) (fun c => ?_) (fun c => ?_)
    · replace H := H.1 c
      refine A_pc (pc' := 16) rfl ?_
      refine A_free (L' := [none, none]) trivial ?_
      exact b_MD_isSmall_16    hb0 H
    · replace H := H.2 c
      refine A_iconst d_MD_isSmall_12 rfl ?_
      refine A_goto (tgt := 17) d_MD_isSmall_13 (by decide) ?_
      refine A_pc (pc' := 17) rfl ?_
      refine A_free (L' := [none, none]) trivial ?_
      exact b_MD_isSmall_17    hb0 H
theorem c_MD_isSmall {G : cx_T} {s : Nat} {a1 : Int} {h : ah_T} {Q : Option av_T → ah_T → Prop} (hb0 : hb s h) (H : i32 a1 → B_MD_isSmall_0 G s a1 h Q ) : con G 0 0 0 m_MD_isSmall [av_R (some 170), av_I a1] h Q := by
  have hS : isS s := hb0.2.1
  refine con_of (L := [some (av_R (some 170)), some (av_I a1)]) (by decide +kernel) (Nat.le_of_ble_eq_true rfl) rfl ?_
  refine A_locI 1 rfl (fun ra1 => ?_)
  exact b_MD_isSmall_0   hb0 (H ra1)
def B_MD_whites_62 (G : cx_T) (s : Nat) (a1 : Int) (t0 : Int) (h : ah_T) (Q : Option av_T → ah_T → Prop) : Prop :=
 Q (some (av_I t0)) h
theorem b_MD_whites_62 {G : cx_T} {s : Nat} {a1 : Int} {t0 : Int} {h : ah_T} {Q : Option av_T → ah_T → Prop} (hb0 : hb s h) (H : B_MD_whites_62 G s a1 t0 h Q ) : aw G (rm_R 0 0 0) m_MD_whites 0 0 62 [none, none, none] [av_I t0] h Q := by
  unfold B_MD_whites_62 at H
  have hS : isS s := hb0.2.1
  exact A_iret d_MD_whites_62 (by decide) rfl H
def B_MD_whites_0 (G : cx_T) (s : Nat) (a1 : Int) (h : ah_T) (Q : Option av_T → ah_T → Prop) : Prop :=
 ((-2147483648) ≤ (a1 - 65) ∧ (a1 - 65) ≤ 2147483647) ∧ (((a1 - 65) = 0 → B_MD_whites_62 G s a1 (9) h Q ) ∧ (¬ (a1 - 65) = 0 → (((a1 - 65) = 1 → B_MD_whites_62 G s a1 (11) h Q ) ∧ (¬ (a1 - 65) = 1 → (((a1 - 65) = 2 → B_MD_whites_62 G s a1 (0) h Q ) ∧ (¬ (a1 - 65) = 2 → (((a1 - 65) = 3 → B_MD_whites_62 G s a1 (2) h Q ) ∧ (¬ (a1 - 65) = 3 → (((a1 - 65) = 4 → B_MD_whites_62 G s a1 (4) h Q ) ∧ (¬ (a1 - 65) = 4 → (((a1 - 65) = 5 → B_MD_whites_62 G s a1 (5) h Q ) ∧ (¬ (a1 - 65) = 5 → B_MD_whites_62 G s a1 (7) h Q ))))))))))))
theorem b_MD_whites_0 {G : cx_T} {s : Nat} {a1 : Int} {h : ah_T} {Q : Option av_T → ah_T → Prop} (hb0 : hb s h) (H : B_MD_whites_0 G s a1 h Q ) : aw G (rm_R 0 0 0) m_MD_whites 0 0 0 [some (av_R (some 170)), some (av_I a1), none] [] h Q := by
  unfold B_MD_whites_0 at H
  have hS : isS s := hb0.2.1
  refine A_iload_n 1 d_MD_whites_0 rfl rfl ?_
  refine A_bipush d_MD_whites_1 rfl ?_
  have g1 := H.1
  replace H := H.2
  refine A_isubv (z := (a1 - 65)) d_MD_whites_3 (w32_to (by omega) (by unfold i32; omega)) ?_
  refine A_istore_n 2 (L' := [some (av_R (some 170)), some (av_I a1), some (av_I (a1 - 65))]) d_MD_whites_4 rfl (Nat.le_of_ble_eq_true rfl) rfl ?_
  refine A_iload_n 2 d_MD_whites_5 rfl rfl ?_
  refine A_pc (pc' := 6) rfl ?_
  refine A_if_ne (tgt := 14) d_MD_whites_6 (by decide) (fun c => ?_) (fun c => ?_)
  · replace H := H.2 c
    refine A_iload_n 2 d_MD_whites_14 rfl rfl ?_
    refine A_iconst d_MD_whites_15 rfl ?_
    refine A_icmp_ne (tgt := 24) d_MD_whites_16 (by decide) (fun c => ?_) (fun c => ?_)
    · replace H := H.2 c
      refine A_iload_n 2 d_MD_whites_24 rfl rfl ?_
      refine A_iconst d_MD_whites_25 rfl ?_
      refine A_icmp_ne (tgt := 33) d_MD_whites_26 (by decide) (fun c => ?_) (fun c => ?_)
      · replace H := H.2 c
        refine A_iload_n 2 d_MD_whites_33 rfl rfl ?_
        refine A_iconst d_MD_whites_34 rfl ?_
        refine A_icmp_ne (tgt := 42) d_MD_whites_35 (by decide) (fun c => ?_) (fun c => ?_)
        · replace H := H.2 c
          refine A_iload_n 2 d_MD_whites_42 rfl rfl ?_
          refine A_iconst d_MD_whites_43 rfl ?_
          refine A_icmp_ne (tgt := 51) d_MD_whites_44 (by decide) (fun c => ?_) (fun c => ?_)
          · replace H := H.2 c
            refine A_iload_n 2 d_MD_whites_51 rfl rfl ?_
            refine A_iconst d_MD_whites_52 rfl ?_
            refine A_icmp_ne (tgt := 60) d_MD_whites_53 (by decide) (fun c => ?_) (fun c => ?_)
            · replace H := H.2 c
              refine A_bipush d_MD_whites_60 rfl ?_
              refine A_pc (pc' := 62) rfl ?_
              refine A_free (L' := [none, none, none]) trivial ?_
              exact b_MD_whites_62    hb0 H
            · replace H := H.1 c
              refine A_iconst d_MD_whites_56 rfl ?_
              refine A_goto (tgt := 62) d_MD_whites_57 (by decide) ?_
              refine A_pc (pc' := 62) rfl ?_
              refine A_free (L' := [none, none, none]) trivial ?_
              exact b_MD_whites_62    hb0 H
          · replace H := H.1 c
            refine A_iconst d_MD_whites_47 rfl ?_
            refine A_goto (tgt := 62) d_MD_whites_48 (by decide) ?_
            refine A_pc (pc' := 62) rfl ?_
            refine A_free (L' := [none, none, none]) trivial ?_
            exact b_MD_whites_62    hb0 H
        · replace H := H.1 c
          refine A_iconst d_MD_whites_38 rfl ?_
          refine A_goto (tgt := 62) d_MD_whites_39 (by decide) ?_
          refine A_pc (pc' := 62) rfl ?_
          refine A_free (L' := [none, none, none]) trivial ?_
          exact b_MD_whites_62    hb0 H
      · replace H := H.1 c
        refine A_iconst d_MD_whites_29 rfl ?_
        refine A_goto (tgt := 62) d_MD_whites_30 (by decide) ?_
        refine A_pc (pc' := 62) rfl ?_
        refine A_free (L' := [none, none, none]) trivial ?_
        exact b_MD_whites_62    hb0 H
    · replace H := H.1 c
      refine A_bipush d_MD_whites_19 rfl ?_
      refine A_goto (tgt := 62) d_MD_whites_21 (by decide) ?_
      refine A_pc (pc' := 62) rfl ?_
      refine A_free (L' := [none, none, none]) trivial ?_
      exact b_MD_whites_62    hb0 H
  · replace H := H.1 c
    refine A_bipush d_MD_whites_9 rfl ?_
    refine A_goto (tgt := 62) d_MD_whites_11 (by decide) ?_
    refine A_pc (pc' := 62) rfl ?_
    refine A_free (L' := [none, none, none]) trivial ?_
    exact b_MD_whites_62    hb0 H
theorem c_MD_whites {G : cx_T} {s : Nat} {a1 : Int} {h : ah_T} {Q : Option av_T → ah_T → Prop} (hb0 : hb s h) (H : i32 a1 → B_MD_whites_0 G s a1 h Q ) : con G 0 0 0 m_MD_whites [av_R (some 170), av_I a1] h Q := by
  have hS : isS s := hb0.2.1
  refine con_of (L := [some (av_R (some 170)), some (av_I a1), none]) (by decide +kernel) (Nat.le_of_ble_eq_true rfl) rfl ?_
  refine A_locI 1 rfl (fun ra1 => ?_)
  exact b_MD_whites_0   hb0 (H ra1)
def B_MD_pitch_164 (G : cx_T) (s : Nat) (a1 : Int) (v2 : Int) (t1 : Int) (t2 : Int) (h : ah_T) (Q : Option av_T → ah_T → Prop) : Prop :=
 ((-2147483648) ≤ (t1 + t2) ∧ (t1 + t2) ≤ 2147483647) ∧ ∀ h2 : ah_T, h2 = st_i h 170 9 (t1 + t2) → ((-2147483648) ≤ (v2 + 1) ∧ (v2 + 1) ≤ 2147483647) ∧ ∀ h5 : ah_T, h5 = st_i h2 170 3 (v2 + 1) → Q none h5
theorem b_MD_pitch_164 {G : cx_T} {s : Nat} {a1 : Int} {v2 : Int} {t1 : Int} {t2 : Int} {h : ah_T} {Q : Option av_T → ah_T → Prop} (hb0 : hb s h) (H : B_MD_pitch_164 G s a1 v2 t1 t2 h Q ) : aw G (rm_R 1 0 0) m_MD_pitch 0 0 164 [some (av_R (some 170)), none, some (av_I v2), none, none] [av_I t2, av_I t1, av_R (some 170)] h Q := by
  unfold B_MD_pitch_164 at H
  have hS : isS s := hb0.2.1
  have g1 := H.1
  replace H := H.2
  refine A_iaddv (z := (t1 + t2)) d_MD_pitch_164 (w32_to (by omega) (by unfold i32; omega)) ?_
  refine A_putI T_ok d_MD_pitch_165 f_MD_287 (hb_s hb0 sf_170) fin_f ?_
  refine A_hn (fun h2 eh2 => ?_)
  have hb3 := hb_i hb0 eh2
  replace H := H h2 eh2
  refine A_aload_n 0 d_MD_pitch_168 rfl rfl ?_
  refine A_iload_n 2 d_MD_pitch_169 rfl rfl ?_
  refine A_iconst d_MD_pitch_170 rfl ?_
  refine A_pc (pc' := 171) rfl ?_
  have g4 := H.1
  replace H := H.2
  refine A_iaddv (z := (v2 + 1)) d_MD_pitch_171 (w32_to (by omega) (by unfold i32; omega)) ?_
  refine A_putI T_ok d_MD_pitch_172 f_MD_252 (hb_s hb3 sf_170) fin_f ?_
  refine A_hn (fun h5 eh5 => ?_)
  have hb6 := hb_i hb3 eh5
  replace H := H h5 eh5
  exact A_vret d_MD_pitch_175 (by decide) rfl H
def B_MD_pitch_104 (G : cx_T) (s : Nat) (a1 : Int) (h : ah_T) (Q : Option av_T → ah_T → Prop) : Prop :=
 ∀ h1 : ah_T, h1 = st_i h 170 4 6 → Q none h1
theorem b_MD_pitch_104 {G : cx_T} {s : Nat} {a1 : Int} {h : ah_T} {Q : Option av_T → ah_T → Prop} (hb0 : hb s h) (H : B_MD_pitch_104 G s a1 h Q ) : aw G (rm_R 1 0 0) m_MD_pitch 0 0 104 [some (av_R (some 170)), none, none, none, none] [] h Q := by
  unfold B_MD_pitch_104 at H
  have hS : isS s := hb0.2.1
  refine A_aload_n 0 d_MD_pitch_104 rfl rfl ?_
  refine A_bipush d_MD_pitch_105 rfl ?_
  refine A_putI T_ok d_MD_pitch_107 f_MD_239 (hb_s hb0 sf_170) fin_f ?_
  refine A_hn (fun h1 eh1 => ?_)
  have hb2 := hb_i hb0 eh1
  replace H := H h1 eh1
  exact A_vret d_MD_pitch_110 (by decide) rfl H
def B_MD_pitch_83 (G : cx_T) (s : Nat) (a1 : Int) (v2 : Int) (v3 : Int) (h : ah_T) (Q : Option av_T → ah_T → Prop) : Prop :=
 con G 0 0 0 m_MD_at [av_R (some 170), av_I v2] h (fun r h1 => ∃ z3 : Int, r = some (av_I z3) ∧ hb s h1 ∧ ((z3 < 48 → B_MD_pitch_104 G s a1 h1 Q ) ∧ (¬ z3 < 48 → ((z3 ≤ 56 → ∀ h4 : ah_T, h4 = st_i h1 170 4 1 → ((-2147483648) ≤ (z3 - 48) ∧ (z3 - 48) ≤ 2147483647) ∧ ((-2147483648) ≤ (12 * z3 - 576) ∧ (12 * z3 - 576) ≤ 2147483647) ∧ con G 0 0 0 m_MD_whites [av_R (some 170), av_I a1] h4 (fun r h8 => ∃ z10 : Int, r = some (av_I z10) ∧ hb s h8 ∧ ((-2147483648) ≤ (12 * z3 + z10 - 576) ∧ (12 * z3 + z10 - 576) ≤ 2147483647) ∧ ((-2147483648) ≤ (12 * z3 + z10 + v3 - 576) ∧ (12 * z3 + z10 + v3 - 576) ≤ 2147483647) ∧ ∀ h13 : ah_T, h13 = st_i h8 170 8 (12 * z3 + z10 + v3 - 576) → ((-2147483648) ≤ (7 * z3 - 336) ∧ (7 * z3 - 336) ≤ 2147483647) ∧ ((a1 < 67 → ((-2147483648) ≤ (a1 - 65) ∧ (a1 - 65) ≤ 2147483647) ∧ ((-2147483648) ≤ (a1 - 60) ∧ (a1 - 60) ≤ 2147483647) ∧ B_MD_pitch_164 G s a1 (v2) ((7 * z3 - 336)) ((a1 - 60)) h13 Q ) ∧ (¬ a1 < 67 → ((-2147483648) ≤ (a1 - 67) ∧ (a1 - 67) ≤ 2147483647) ∧ B_MD_pitch_164 G s a1 (v2) ((7 * z3 - 336)) ((a1 - 67)) h13 Q )))) ∧ (¬ z3 ≤ 56 → B_MD_pitch_104 G s a1 h1 Q )))))
theorem b_MD_pitch_83 {G : cx_T} {s : Nat} {a1 : Int} {v2 : Int} {v3 : Int} {h : ah_T} {Q : Option av_T → ah_T → Prop} (hb0 : hb s h) (H : B_MD_pitch_83 G s a1 v2 v3 h Q ) : aw G (rm_R 1 0 0) m_MD_pitch 0 0 83 [some (av_R (some 170)), some (av_I a1), some (av_I v2), some (av_I v3), none] [] h Q := by
  unfold B_MD_pitch_83 at H
  have hS : isS s := hb0.2.1
  refine A_aload_n 0 d_MD_pitch_83 rfl rfl ?_
  refine A_iload_n 2 d_MD_pitch_84 rfl rfl ?_
  refine A_callV1 m_MD_at T_ok d_MD_pitch_85 l_MD_274 k_MD_at (hb_s hb0 sf_170) rfl (by decide +kernel) (by decide) (Nat.le_of_ble_eq_true rfl) H (fun r h1 hq => ?_)
  clear H
  obtain ⟨z3, rfl, hb2, H⟩ := hq
  refine A_istore (L' := [some (av_R (some 170)), some (av_I a1), some (av_I v2), some (av_I v3), some (av_I z3)]) d_MD_pitch_88 (Nat.le_of_ble_eq_true rfl) rfl ?_
  refine A_iload d_MD_pitch_90 rfl ?_
  refine A_bipush d_MD_pitch_92 rfl ?_
  refine A_icmp_lt (tgt := 104) d_MD_pitch_94 (by decide) (fun c => ?_) (fun c => ?_)
  · replace H := H.1 c
    refine A_pc (pc' := 104) rfl ?_
    refine A_free (L' := [some (av_R (some 170)), none, none, none, none]) (And.intro rfl trivial) ?_
    exact b_MD_pitch_104    hb2 H
  · replace H := H.2 c
    refine A_iload d_MD_pitch_97 rfl ?_
    refine A_bipush d_MD_pitch_99 rfl ?_
    refine A_icmp_le (tgt := 111) d_MD_pitch_101 (by decide) (fun c => ?_) (fun c => ?_)
    · replace H := H.1 c
      refine A_aload_n 0 d_MD_pitch_111 rfl rfl ?_
      refine A_iconst d_MD_pitch_112 rfl ?_
      refine A_putI T_ok d_MD_pitch_113 f_MD_239 (hb_s hb2 sf_170) fin_f ?_
      refine A_hn (fun h4 eh4 => ?_)
      have hb5 := hb_i hb2 eh4
      replace H := H h4 eh4
      refine A_aload_n 0 d_MD_pitch_116 rfl rfl ?_
      refine A_bipush d_MD_pitch_117 rfl ?_
      refine A_pc (pc' := 119) rfl ?_
      refine A_iload d_MD_pitch_119 rfl ?_
      refine A_bipush d_MD_pitch_121 rfl ?_
      have g6 := H.1
      replace H := H.2
      refine A_isubv (z := (z3 - 48)) d_MD_pitch_123 (w32_to (by omega) (by unfold i32; omega)) ?_
      have g7 := H.1
      replace H := H.2
      refine A_imulv (z := (12 * z3 - 576)) d_MD_pitch_124 (w32_to (by omega) (by unfold i32; omega)) ?_
      refine A_aload_n 0 d_MD_pitch_125 rfl rfl ?_
      refine A_iload_n 1 d_MD_pitch_126 rfl rfl ?_
      refine A_pc (pc' := 127) rfl ?_
      refine A_callV1 m_MD_whites T_ok d_MD_pitch_127 l_MD_281 k_MD_whites (hb_s hb5 sf_170) rfl (by decide +kernel) (by decide) (Nat.le_of_ble_eq_true rfl) H (fun r h8 hq => ?_)
      clear H
      obtain ⟨z10, rfl, hb9, H⟩ := hq
      have g11 := H.1
      replace H := H.2
      refine A_iaddv (z := (12 * z3 + z10 - 576)) d_MD_pitch_130 (w32_to (by omega) (by unfold i32; omega)) ?_
      refine A_iload_n 3 d_MD_pitch_131 rfl rfl ?_
      have g12 := H.1
      replace H := H.2
      refine A_iaddv (z := (12 * z3 + z10 + v3 - 576)) d_MD_pitch_132 (w32_to (by omega) (by unfold i32; omega)) ?_
      refine A_putI T_ok d_MD_pitch_133 f_MD_284 (hb_s hb9 sf_170) fin_f ?_
      refine A_hn (fun h13 eh13 => ?_)
      have hb14 := hb_i hb9 eh13
      replace H := H h13 eh13
      refine A_aload_n 0 d_MD_pitch_136 rfl rfl ?_
      refine A_pc (pc' := 137) rfl ?_
      refine A_bipush d_MD_pitch_137 rfl ?_
      refine A_iload d_MD_pitch_139 rfl ?_
      refine A_bipush d_MD_pitch_141 rfl ?_
      refine A_isubv (z := (z3 - 48)) d_MD_pitch_143 (w32_to (by omega) (by unfold i32; omega)) ?_
      have g15 := H.1
      replace H := H.2
      refine A_imulv (z := (7 * z3 - 336)) d_MD_pitch_144 (w32_to (by omega) (by unfold i32; omega)) ?_
      refine A_iload_n 1 d_MD_pitch_145 rfl rfl ?_
      refine A_pc (pc' := 146) rfl ?_
      refine A_bipush d_MD_pitch_146 rfl ?_
      refine A_icmp_lt (tgt := 158) d_MD_pitch_148 (by decide) (fun c => ?_) (fun c => ?_)
      · replace H := H.1 c
        refine A_iload_n 1 d_MD_pitch_158 rfl rfl ?_
        refine A_bipush d_MD_pitch_159 rfl ?_
        have g16 := H.1
        replace H := H.2
        refine A_isubv (z := (a1 - 65)) d_MD_pitch_161 (w32_to (by omega) (by unfold i32; omega)) ?_
        refine A_iconst d_MD_pitch_162 rfl ?_
        have g17 := H.1
        replace H := H.2
        refine A_iaddv (z := (a1 - 60)) d_MD_pitch_163 (w32_to (by omega) (by unfold i32; omega)) ?_
        refine A_pc (pc' := 164) rfl ?_
        refine A_free (L' := [some (av_R (some 170)), none, some (av_I v2), none, none]) (And.intro rfl (And.intro rfl trivial)) ?_
        exact b_MD_pitch_164    hb14 H
      · replace H := H.2 c
        refine A_iload_n 1 d_MD_pitch_151 rfl rfl ?_
        refine A_bipush d_MD_pitch_152 rfl ?_
        have g18 := H.1
        replace H := H.2
        refine A_isubv (z := (a1 - 67)) d_MD_pitch_154 (w32_to (by omega) (by unfold i32; omega)) ?_
        refine A_goto (tgt := 164) d_MD_pitch_155 (by decide) ?_
        refine A_pc (pc' := 164) rfl ?_
        refine A_free (L' := [some (av_R (some 170)), none, some (av_I v2), none, none]) (And.intro rfl (And.intro rfl trivial)) ?_
        exact b_MD_pitch_164    hb14 H
    · replace H := H.2 c
      refine A_pc (pc' := 104) rfl ?_
      refine A_free (L' := [some (av_R (some 170)), none, none, none, none]) (And.intro rfl trivial) ?_
      exact b_MD_pitch_104    hb2 H
def B_MD_pitch_74 (G : cx_T) (s : Nat) (a1 : Int) (v2 : Int) (t0 : Int) (h : ah_T) (Q : Option av_T → ah_T → Prop) : Prop :=
 B_MD_pitch_83 G s a1 (v2) (t0) h Q 
theorem b_MD_pitch_74 {G : cx_T} {s : Nat} {a1 : Int} {v2 : Int} {t0 : Int} {h : ah_T} {Q : Option av_T → ah_T → Prop} (hb0 : hb s h) (H : B_MD_pitch_74 G s a1 v2 t0 h Q ) : aw G (rm_R 1 0 0) m_MD_pitch 0 0 74 [some (av_R (some 170)), some (av_I a1), some (av_I v2), none, none] [av_I t0] h Q := by
  unfold B_MD_pitch_74 at H
  have hS : isS s := hb0.2.1
  refine A_istore_n 3 (L' := [some (av_R (some 170)), some (av_I a1), some (av_I v2), some (av_I t0), none]) d_MD_pitch_74 rfl (Nat.le_of_ble_eq_true rfl) rfl ?_
  refine A_goto (tgt := 83) d_MD_pitch_75 (by decide) ?_
  refine A_pc (pc' := 83) rfl ?_
  exact b_MD_pitch_83    hb0 H
def B_MD_pitch_56 (G : cx_T) (s : Nat) (a1 : Int) (v2 : Int) (v3 : Int) (v4 : Int) (h : ah_T) (Q : Option av_T → ah_T → Prop) : Prop :=
 ∀ h1 : ah_T, h1 = st_i h 170 10 v3 → ((v4 = 35 → B_MD_pitch_74 G s a1 (v2) (v3) h1 Q ) ∧ (¬ v4 = 35 → ((-2147483648) ≤ (-v3) ∧ (-v3) ≤ 2147483647) ∧ B_MD_pitch_74 G s a1 (v2) ((-v3)) h1 Q ))
theorem b_MD_pitch_56 {G : cx_T} {s : Nat} {a1 : Int} {v2 : Int} {v3 : Int} {v4 : Int} {h : ah_T} {Q : Option av_T → ah_T → Prop} (hb0 : hb s h) (H : B_MD_pitch_56 G s a1 v2 v3 v4 h Q ) : aw G (rm_R 1 0 0) m_MD_pitch 0 0 56 [some (av_R (some 170)), some (av_I a1), some (av_I v2), some (av_I v3), some (av_I v4)] [] h Q := by
  unfold B_MD_pitch_56 at H
  have hS : isS s := hb0.2.1
  refine A_aload_n 0 d_MD_pitch_56 rfl rfl ?_
  refine A_iload_n 3 d_MD_pitch_57 rfl rfl ?_
  refine A_putI T_ok d_MD_pitch_58 f_MD_278 (hb_s hb0 sf_170) fin_f ?_
  refine A_hn (fun h1 eh1 => ?_)
  have hb2 := hb_i hb0 eh1
  replace H := H h1 eh1
  refine A_iload d_MD_pitch_61 rfl ?_
  refine A_bipush d_MD_pitch_63 rfl ?_
  refine A_pc (pc' := 65) rfl ?_
  refine A_icmp_ne (tgt := 72) d_MD_pitch_65 (by decide) (fun c => ?_) (fun c => ?_)
  · replace H := H.2 c
    refine A_iload_n 3 d_MD_pitch_72 rfl rfl ?_
    have g3 := H.1
    replace H := H.2
    refine A_inegv (z := (-v3)) d_MD_pitch_73 (w32_to (by omega) (by unfold i32; omega)) ?_
    refine A_pc (pc' := 74) rfl ?_
    refine A_free (L' := [some (av_R (some 170)), some (av_I a1), some (av_I v2), none, none]) (And.intro rfl (And.intro rfl (And.intro rfl trivial))) ?_
    exact b_MD_pitch_74    hb2 H
  · replace H := H.1 c
    refine A_iload_n 3 d_MD_pitch_68 rfl rfl ?_
    refine A_goto (tgt := 74) d_MD_pitch_69 (by decide) ?_
    refine A_pc (pc' := 74) rfl ?_
    refine A_free (L' := [some (av_R (some 170)), some (av_I a1), some (av_I v2), none, none]) (And.intro rfl (And.intro rfl (And.intro rfl trivial))) ?_
    exact b_MD_pitch_74    hb2 H
def B_MD_pitch_29 (G : cx_T) (s : Nat) (a1 : Int) (v2 : Int) (h : ah_T) (Q : Option av_T → ah_T → Prop) : Prop :=
 con G 0 0 0 m_MD_at [av_R (some 170), av_I v2] h (fun r h1 => ∃ z3 : Int, r = some (av_I z3) ∧ hb s h1 ∧ ((-2147483648) ≤ (v2 + 1) ∧ (v2 + 1) ≤ 2147483647) ∧ con G 0 0 0 m_MD_at [av_R (some 170), av_I (v2 + 1)] h1 (fun r h5 => ∃ z7 : Int, r = some (av_I z7) ∧ hb s h5 ∧ ((z7 = z3 → ((-2147483648) ≤ (v2 + 2) ∧ (v2 + 2) ≤ 2147483647) ∧ B_MD_pitch_56 G s a1 ((v2 + 2)) (2) (z3) h5 Q ) ∧ (¬ z7 = z3 → B_MD_pitch_56 G s a1 ((v2 + 1)) (1) (z3) h5 Q ))))
theorem b_MD_pitch_29 {G : cx_T} {s : Nat} {a1 : Int} {v2 : Int} {h : ah_T} {Q : Option av_T → ah_T → Prop} (hb0 : hb s h) (H : B_MD_pitch_29 G s a1 v2 h Q ) : aw G (rm_R 1 0 0) m_MD_pitch 0 0 29 [some (av_R (some 170)), some (av_I a1), some (av_I v2), none, none] [] h Q := by
  unfold B_MD_pitch_29 at H
  have hS : isS s := hb0.2.1
  refine A_aload_n 0 d_MD_pitch_29 rfl rfl ?_
  refine A_iload_n 2 d_MD_pitch_30 rfl rfl ?_
  refine A_callV1 m_MD_at T_ok d_MD_pitch_31 l_MD_274 k_MD_at (hb_s hb0 sf_170) rfl (by decide +kernel) (by decide) (Nat.le_of_ble_eq_true rfl) H (fun r h1 hq => ?_)
  clear H
  obtain ⟨z3, rfl, hb2, H⟩ := hq
  refine A_istore (L' := [some (av_R (some 170)), some (av_I a1), some (av_I v2), none, some (av_I z3)]) d_MD_pitch_34 (Nat.le_of_ble_eq_true rfl) rfl ?_
  have g4 := H.1
  replace H := H.2
  refine A_iincv (z := (v2 + 1)) (L' := [some (av_R (some 170)), some (av_I a1), some (av_I (v2 + 1)), none, some (av_I z3)]) d_MD_pitch_36 rfl (w32_to (by omega) (by unfold i32; omega)) rfl ?_
  refine A_iconst d_MD_pitch_39 rfl ?_
  refine A_istore_n 3 (L' := [some (av_R (some 170)), some (av_I a1), some (av_I (v2 + 1)), some (av_I 1), some (av_I z3)]) d_MD_pitch_40 rfl (Nat.le_of_ble_eq_true rfl) rfl ?_
  refine A_aload_n 0 d_MD_pitch_41 rfl rfl ?_
  refine A_pc (pc' := 42) rfl ?_
  refine A_iload_n 2 d_MD_pitch_42 rfl rfl ?_
  refine A_callV1 m_MD_at T_ok d_MD_pitch_43 l_MD_274 k_MD_at (hb_s hb2 sf_170) rfl (by decide +kernel) (by decide) (Nat.le_of_ble_eq_true rfl) H (fun r h5 hq => ?_)
  clear H
  obtain ⟨z7, rfl, hb6, H⟩ := hq
  refine A_iload d_MD_pitch_46 rfl ?_
  refine A_icmp_ne (tgt := 56) d_MD_pitch_48 (by decide) (fun c => ?_) (fun c => ?_)
  · replace H := H.2 c
    refine A_pc (pc' := 56) rfl ?_
    exact b_MD_pitch_56    hb6 H
  · replace H := H.1 c
    have g8 := H.1
    replace H := H.2
    refine A_iincv (z := (v2 + 2)) (L' := [some (av_R (some 170)), some (av_I a1), some (av_I (v2 + 2)), some (av_I 1), some (av_I z3)]) d_MD_pitch_51 rfl (w32_to (by omega) (by unfold i32; omega)) rfl ?_
    refine A_iconst d_MD_pitch_54 rfl ?_
    refine A_istore_n 3 (L' := [some (av_R (some 170)), some (av_I a1), some (av_I (v2 + 2)), some (av_I 2), some (av_I z3)]) d_MD_pitch_55 rfl (Nat.le_of_ble_eq_true rfl) rfl ?_
    refine A_pc (pc' := 56) rfl ?_
    exact b_MD_pitch_56    hb6 H
def B_MD_pitch_0 (G : cx_T) (s : Nat) (a1 : Int) (h : ah_T) (Q : Option av_T → ah_T → Prop) : Prop :=
 ∀ x1 : Int, x1 = h.2.1 170 3 → -2147483648 ≤ x1 → x1 ≤ 2147483647 → ((-2147483648) ≤ (x1 + 1) ∧ (x1 + 1) ≤ 2147483647) ∧ con G 0 0 0 m_MD_at [av_R (some 170), av_I (x1 + 1)] h (fun r h3 => ∃ z5 : Int, r = some (av_I z5) ∧ hb s h3 ∧ ((z5 = 35 → B_MD_pitch_29 G s a1 ((x1 + 1)) h3 Q ) ∧ (¬ z5 = 35 → con G 0 0 0 m_MD_at [av_R (some 170), av_I (x1 + 1)] h3 (fun r h6 => ∃ z8 : Int, r = some (av_I z8) ∧ hb s h6 ∧ ((z8 = 98 → B_MD_pitch_29 G s a1 ((x1 + 1)) h6 Q ) ∧ (¬ z8 = 98 → ∀ h9 : ah_T, h9 = st_i h6 170 10 0 → B_MD_pitch_83 G s a1 ((x1 + 1)) (0) h9 Q ))))))
theorem b_MD_pitch_0 {G : cx_T} {s : Nat} {a1 : Int} {h : ah_T} {Q : Option av_T → ah_T → Prop} (hb0 : hb s h) (H : B_MD_pitch_0 G s a1 h Q ) : aw G (rm_R 1 0 0) m_MD_pitch 0 0 0 [some (av_R (some 170)), some (av_I a1), none, none, none] [] h Q := by
  unfold B_MD_pitch_0 at H
  have hS : isS s := hb0.2.1
  refine A_aload_n 0 d_MD_pitch_0 rfl rfl ?_
  refine A_getIf T_ok d_MD_pitch_1 f_MD_252 (hb_s hb0 sf_170) (fun x1 ex1 lx1 ux1 => ?_)
  replace H := H x1 ex1 lx1 ux1
  refine A_iconst d_MD_pitch_4 rfl ?_
  have g2 := H.1
  replace H := H.2
  refine A_iaddv (z := (x1 + 1)) d_MD_pitch_5 (w32_to (by omega) (by unfold i32; omega)) ?_
  refine A_istore_n 2 (L' := [some (av_R (some 170)), some (av_I a1), some (av_I (x1 + 1)), none, none]) d_MD_pitch_6 rfl (Nat.le_of_ble_eq_true rfl) rfl ?_
  refine A_pc (pc' := 7) rfl ?_
  refine A_iconst d_MD_pitch_7 rfl ?_
  refine A_istore_n 3 (L' := [some (av_R (some 170)), some (av_I a1), some (av_I (x1 + 1)), some (av_I 0), none]) d_MD_pitch_8 rfl (Nat.le_of_ble_eq_true rfl) rfl ?_
  refine A_aload_n 0 d_MD_pitch_9 rfl rfl ?_
  refine A_iload_n 2 d_MD_pitch_10 rfl rfl ?_
  refine A_callV1 m_MD_at T_ok d_MD_pitch_11 l_MD_274 k_MD_at (hb_s hb0 sf_170) rfl (by decide +kernel) (by decide) (Nat.le_of_ble_eq_true rfl) H (fun r h3 hq => ?_)
  clear H
  obtain ⟨z5, rfl, hb4, H⟩ := hq
  refine A_bipush d_MD_pitch_14 rfl ?_
  refine A_icmp_eq (tgt := 29) d_MD_pitch_16 (by decide) (fun c => ?_) (fun c => ?_)
  · replace H := H.1 c
    refine A_pc (pc' := 29) rfl ?_
    refine A_free (L' := [some (av_R (some 170)), some (av_I a1), some (av_I (x1 + 1)), none, none]) (And.intro rfl (And.intro rfl (And.intro rfl trivial))) ?_
    exact b_MD_pitch_29    hb4 H
  · replace H := H.2 c
    refine A_aload_n 0 d_MD_pitch_19 rfl rfl ?_
    refine A_iload_n 2 d_MD_pitch_20 rfl rfl ?_
    refine A_callV1 m_MD_at T_ok d_MD_pitch_21 l_MD_274 k_MD_at (hb_s hb4 sf_170) rfl (by decide +kernel) (by decide) (Nat.le_of_ble_eq_true rfl) H (fun r h6 hq => ?_)
    clear H
    obtain ⟨z8, rfl, hb7, H⟩ := hq
    refine A_bipush d_MD_pitch_24 rfl ?_
    refine A_icmp_ne (tgt := 78) d_MD_pitch_26 (by decide) (fun c => ?_) (fun c => ?_)
    · replace H := H.2 c
      refine A_aload_n 0 d_MD_pitch_78 rfl rfl ?_
      refine A_iconst d_MD_pitch_79 rfl ?_
      refine A_putI T_ok d_MD_pitch_80 f_MD_278 (hb_s hb7 sf_170) fin_f ?_
      refine A_hn (fun h9 eh9 => ?_)
      have hb10 := hb_i hb7 eh9
      replace H := H h9 eh9
      refine A_pc (pc' := 83) rfl ?_
      exact b_MD_pitch_83    hb10 H
    · replace H := H.1 c
      refine A_pc (pc' := 29) rfl ?_
      refine A_free (L' := [some (av_R (some 170)), some (av_I a1), some (av_I (x1 + 1)), none, none]) (And.intro rfl (And.intro rfl (And.intro rfl trivial))) ?_
      exact b_MD_pitch_29    hb7 H
theorem c_MD_pitch {G : cx_T} {s : Nat} {a1 : Int} {h : ah_T} {Q : Option av_T → ah_T → Prop} (hb0 : hb s h) (H : i32 a1 → B_MD_pitch_0 G s a1 h Q ) : con G 1 0 0 m_MD_pitch [av_R (some 170), av_I a1] h Q := by
  have hS : isS s := hb0.2.1
  refine con_of (L := [some (av_R (some 170)), some (av_I a1), none, none, none]) (by decide +kernel) (Nat.le_of_ble_eq_true rfl) rfl ?_
  refine A_locI 1 rfl (fun ra1 => ?_)
  exact b_MD_pitch_0   hb0 (H ra1)
def B_MD_word_173 (G : cx_T) (s : Nat) (t0 : Int) (h : ah_T) (Q : Option av_T → ah_T → Prop) : Prop :=
 ((t0 = (-2) → Q none h) ∧ (¬ t0 = (-2) → ∀ h1 : ah_T, h1 = st_i h 170 4 4 → ∀ h3 : ah_T, h3 = st_i h1 170 6 t0 → Q none h3))
theorem b_MD_word_173 {G : cx_T} {s : Nat} {t0 : Int} {h : ah_T} {Q : Option av_T → ah_T → Prop} (hb0 : hb s h) (H : B_MD_word_173 G s t0 h Q ) : aw G (rm_R 1 0 0) m_MD_word 0 0 173 [some (av_R (some 170)), none, none] [av_I t0] h Q := by
  unfold B_MD_word_173 at H
  have hS : isS s := hb0.2.1
  refine A_istore_n 2 (L' := [some (av_R (some 170)), none, some (av_I t0)]) d_MD_word_173 rfl (Nat.le_of_ble_eq_true rfl) rfl ?_
  refine A_iload_n 2 d_MD_word_174 rfl rfl ?_
  refine A_bipush d_MD_word_175 rfl ?_
  refine A_icmp_ne (tgt := 181) d_MD_word_177 (by decide) (fun c => ?_) (fun c => ?_)
  · replace H := H.2 c
    refine A_aload_n 0 d_MD_word_181 rfl rfl ?_
    refine A_iconst d_MD_word_182 rfl ?_
    refine A_putI T_ok d_MD_word_183 f_MD_239 (hb_s hb0 sf_170) fin_f ?_
    refine A_hn (fun h1 eh1 => ?_)
    have hb2 := hb_i hb0 eh1
    replace H := H h1 eh1
    refine A_aload_n 0 d_MD_word_186 rfl rfl ?_
    refine A_iload_n 2 d_MD_word_187 rfl rfl ?_
    refine A_pc (pc' := 188) rfl ?_
    refine A_putI T_ok d_MD_word_188 f_MD_271 (hb_s hb2 sf_170) fin_f ?_
    refine A_hn (fun h3 eh3 => ?_)
    have hb4 := hb_i hb2 eh3
    replace H := H h3 eh3
    exact A_vret d_MD_word_191 (by decide) rfl H
  · replace H := H.1 c
    exact A_vret d_MD_word_180 (by decide) rfl H
def B_MD_word_72 (G : cx_T) (s : Nat) (v1 : Int) (t1 : Int) (h : ah_T) (Q : Option av_T → ah_T → Prop) : Prop :=
 ∀ h1 : ah_T, h1 = st_i h 170 4 t1 → ((v1 ≤ 5 → ∀ x3 : Int, x3 = h1.2.2.1 170 7 → -9223372036854775808 ≤ x3 → x3 ≤ 9223372036854775807 → ((x3 = 1953066341 → B_MD_word_173 G s (0) h1 Q ) ∧ (¬ x3 = 1953066341 → ((x3 = 508675318629 → B_MD_word_173 G s (1) h1 Q ) ∧ (¬ x3 = 508675318629 → ((x3 = 1818848869 → B_MD_word_173 G s (2) h1 Q ) ∧ (¬ x3 = 1818848869 → ((x3 = 1920298085 → B_MD_word_173 G s (3) h1 Q ) ∧ (¬ x3 = 1920298085 → ((x3 = 7499639 → B_MD_word_173 G s (4) h1 Q ) ∧ (¬ x3 = 7499639 → ((x3 = 114 → B_MD_word_173 G s (5) h1 Q ) ∧ (¬ x3 = 114 → B_MD_word_173 G s ((-2)) h1 Q ))))))))))))) ∧ (¬ v1 ≤ 5 → Q none h1))
theorem b_MD_word_72 {G : cx_T} {s : Nat} {v1 : Int} {t1 : Int} {h : ah_T} {Q : Option av_T → ah_T → Prop} (hb0 : hb s h) (H : B_MD_word_72 G s v1 t1 h Q ) : aw G (rm_R 1 0 0) m_MD_word 0 0 72 [some (av_R (some 170)), some (av_I v1), none] [av_I t1, av_R (some 170)] h Q := by
  unfold B_MD_word_72 at H
  have hS : isS s := hb0.2.1
  refine A_putI T_ok d_MD_word_72 f_MD_239 (hb_s hb0 sf_170) fin_f ?_
  refine A_hn (fun h1 eh1 => ?_)
  have hb2 := hb_i hb0 eh1
  replace H := H h1 eh1
  refine A_iload_n 1 d_MD_word_75 rfl rfl ?_
  refine A_iconst d_MD_word_76 rfl ?_
  refine A_icmp_le (tgt := 81) d_MD_word_77 (by decide) (fun c => ?_) (fun c => ?_)
  · replace H := H.1 c
    refine A_aload_n 0 d_MD_word_81 rfl rfl ?_
    refine A_getLf T_ok d_MD_word_82 f_MD_290 (hb_s hb2 sf_170) (fun x3 ex3 lx3 ux3 => ?_)
    replace H := H x3 ex3 lx3 ux3
    refine A_ldc2 (z := 1953066341) d_MD_word_85 cst_MD_294 rfl ?_
    refine A_lcmpn d_MD_word_88 (fun x4 lx4 ex4 gx4 _ _ => ?_)
    refine A_if_ne (tgt := 96) d_MD_word_89 (by decide) (fun c => ?_) (fun c => ?_)
    · replace H := H.2 (by omega)
      refine A_aload_n 0 d_MD_word_96 rfl rfl ?_
      refine A_getLv (z := x3) T_ok d_MD_word_97 f_MD_290 (hb_s hb2 sf_170) ex3.symm ?_
      refine A_ldc2 (z := 508675318629) d_MD_word_100 cst_MD_296 rfl ?_
      refine A_lcmpn d_MD_word_103 (fun x6 lx6 ex6 gx6 _ _ => ?_)
      refine A_if_ne (tgt := 111) d_MD_word_104 (by decide) (fun c => ?_) (fun c => ?_)
      · replace H := H.2 (by omega)
        refine A_aload_n 0 d_MD_word_111 rfl rfl ?_
        refine A_getLv (z := x3) T_ok d_MD_word_112 f_MD_290 (hb_s hb2 sf_170) ex3.symm ?_
        refine A_ldc2 (z := 1818848869) d_MD_word_115 cst_MD_298 rfl ?_
        refine A_lcmpn d_MD_word_118 (fun x8 lx8 ex8 gx8 _ _ => ?_)
        refine A_if_ne (tgt := 126) d_MD_word_119 (by decide) (fun c => ?_) (fun c => ?_)
        · replace H := H.2 (by omega)
          refine A_aload_n 0 d_MD_word_126 rfl rfl ?_
          refine A_getLv (z := x3) T_ok d_MD_word_127 f_MD_290 (hb_s hb2 sf_170) ex3.symm ?_
          refine A_ldc2 (z := 1920298085) d_MD_word_130 cst_MD_300 rfl ?_
          refine A_lcmpn d_MD_word_133 (fun x10 lx10 ex10 gx10 _ _ => ?_)
          refine A_if_ne (tgt := 141) d_MD_word_134 (by decide) (fun c => ?_) (fun c => ?_)
          · replace H := H.2 (by omega)
            refine A_aload_n 0 d_MD_word_141 rfl rfl ?_
            refine A_getLv (z := x3) T_ok d_MD_word_142 f_MD_290 (hb_s hb2 sf_170) ex3.symm ?_
            refine A_ldc2 (z := 7499639) d_MD_word_145 cst_MD_302 rfl ?_
            refine A_lcmpn d_MD_word_148 (fun x12 lx12 ex12 gx12 _ _ => ?_)
            refine A_if_ne (tgt := 156) d_MD_word_149 (by decide) (fun c => ?_) (fun c => ?_)
            · replace H := H.2 (by omega)
              refine A_aload_n 0 d_MD_word_156 rfl rfl ?_
              refine A_getLv (z := x3) T_ok d_MD_word_157 f_MD_290 (hb_s hb2 sf_170) ex3.symm ?_
              refine A_ldc2 (z := 114) d_MD_word_160 cst_MD_304 rfl ?_
              refine A_lcmpn d_MD_word_163 (fun x14 lx14 ex14 gx14 _ _ => ?_)
              refine A_if_ne (tgt := 171) d_MD_word_164 (by decide) (fun c => ?_) (fun c => ?_)
              · replace H := H.2 (by omega)
                refine A_bipush d_MD_word_171 rfl ?_
                refine A_pc (pc' := 173) rfl ?_
                refine A_free (L' := [some (av_R (some 170)), none, none]) (And.intro rfl trivial) ?_
                exact b_MD_word_173    hb2 H
              · replace H := H.1 (by omega)
                refine A_iconst d_MD_word_167 rfl ?_
                refine A_goto (tgt := 173) d_MD_word_168 (by decide) ?_
                refine A_pc (pc' := 173) rfl ?_
                refine A_free (L' := [some (av_R (some 170)), none, none]) (And.intro rfl trivial) ?_
                exact b_MD_word_173    hb2 H
            · replace H := H.1 (by omega)
              refine A_iconst d_MD_word_152 rfl ?_
              refine A_goto (tgt := 173) d_MD_word_153 (by decide) ?_
              refine A_pc (pc' := 173) rfl ?_
              refine A_free (L' := [some (av_R (some 170)), none, none]) (And.intro rfl trivial) ?_
              exact b_MD_word_173    hb2 H
          · replace H := H.1 (by omega)
            refine A_iconst d_MD_word_137 rfl ?_
            refine A_goto (tgt := 173) d_MD_word_138 (by decide) ?_
            refine A_pc (pc' := 173) rfl ?_
            refine A_free (L' := [some (av_R (some 170)), none, none]) (And.intro rfl trivial) ?_
            exact b_MD_word_173    hb2 H
        · replace H := H.1 (by omega)
          refine A_iconst d_MD_word_122 rfl ?_
          refine A_goto (tgt := 173) d_MD_word_123 (by decide) ?_
          refine A_pc (pc' := 173) rfl ?_
          refine A_free (L' := [some (av_R (some 170)), none, none]) (And.intro rfl trivial) ?_
          exact b_MD_word_173    hb2 H
      · replace H := H.1 (by omega)
        refine A_iconst d_MD_word_107 rfl ?_
        refine A_goto (tgt := 173) d_MD_word_108 (by decide) ?_
        refine A_pc (pc' := 173) rfl ?_
        refine A_free (L' := [some (av_R (some 170)), none, none]) (And.intro rfl trivial) ?_
        exact b_MD_word_173    hb2 H
    · replace H := H.1 (by omega)
      refine A_iconst d_MD_word_92 rfl ?_
      refine A_goto (tgt := 173) d_MD_word_93 (by decide) ?_
      refine A_pc (pc' := 173) rfl ?_
      refine A_free (L' := [some (av_R (some 170)), none, none]) (And.intro rfl trivial) ?_
      exact b_MD_word_173    hb2 H
  · replace H := H.2 c
    exact A_vret d_MD_word_80 (by decide) rfl H
def B_MD_word_7 (G : cx_T) (s : Nat) (v1 : Int) (h : ah_T) (Q : Option av_T → ah_T → Prop) (X7 : Int → ah_T → Prop) : Prop :=
 ∀ x1 : Int, x1 = h.2.1 170 3 → -2147483648 ≤ x1 → x1 ≤ 2147483647 → con G 0 0 0 m_MD_at [av_R (some 170), av_I x1] h (fun r h2 => ∃ z4 : Int, r = some (av_I z4) ∧ hb s h2 ∧ con G 0 0 0 m_MD_isSmall [av_R (some 170), av_I z4] h2 (fun r h5 => ∃ z7 : Int, r = some (av_I z7) ∧ hb s h5 ∧ ((z7 = 0 → ((v1 ≤ 8 → B_MD_word_72 G s (v1) (2) h5 Q ) ∧ (¬ v1 ≤ 8 → B_MD_word_72 G s (v1) (6) h5 Q ))) ∧ (¬ z7 = 0 → ∀ x8 : Int, x8 = h5.2.2.1 170 7 → -9223372036854775808 ≤ x8 → x8 ≤ 9223372036854775807 → ∀ x9 : Int, x9 = ((Int64.ofInt x8) <<< ((Int32.ofInt 8).toInt64 &&& 63)).toInt → (-9223372036854775808) ≤ x9 → x9 ≤ 9223372036854775807 → ∀ x10 : Int, x10 = h5.2.1 170 3 → -2147483648 ≤ x10 → x10 ≤ 2147483647 → con G 0 0 0 m_MD_at [av_R (some 170), av_I x10] h5 (fun r h11 => ∃ z13 : Int, r = some (av_I z13) ∧ hb s h11 ∧ ∀ x14 : Int, x14 = ((Int64.ofInt x9) ||| (Int64.ofInt z13)).toInt → (-9223372036854775808) ≤ x14 → x14 ≤ 9223372036854775807 → ∀ h15 : ah_T, h15 = st_l h11 170 7 x14 → ∀ x17 : Int, x17 = h15.2.1 170 3 → -2147483648 ≤ x17 → x17 ≤ 2147483647 → ((-2147483648) ≤ (x17 + 1) ∧ (x17 + 1) ≤ 2147483647) ∧ ∀ h19 : ah_T, h19 = st_i h15 170 3 (x17 + 1) → ((-2147483648) ≤ (v1 + 1) ∧ (v1 + 1) ≤ 2147483647) ∧ X7 ((v1 + 1)) h19)))))
theorem b_MD_word_7 {G : cx_T} {s : Nat} {v1 : Int} {h : ah_T} {Q : Option av_T → ah_T → Prop} {X7 : Int → ah_T → Prop} (hX7 : ∀ (v1 : Int) (h : ah_T), hb s h → X7 v1 h → aw G (rm_R 1 0 0) m_MD_word 0 0 7 [some (av_R (some 170)), some (av_I v1), none] [] h Q) (hb0 : hb s h) (H : B_MD_word_7 G s v1 h Q X7) : aw G (rm_R 1 0 0) m_MD_word 0 0 7 [some (av_R (some 170)), some (av_I v1), none] [] h Q := by
  unfold B_MD_word_7 at H
  have hS : isS s := hb0.2.1
  refine A_aload_n 0 d_MD_word_7 rfl rfl ?_
  refine A_aload_n 0 d_MD_word_8 rfl rfl ?_
  refine A_aload_n 0 d_MD_word_9 rfl rfl ?_
  refine A_getIf T_ok d_MD_word_10 f_MD_252 (hb_s hb0 sf_170) (fun x1 ex1 lx1 ux1 => ?_)
  replace H := H x1 ex1 lx1 ux1
  refine A_callV1 m_MD_at T_ok d_MD_word_13 l_MD_274 k_MD_at (hb_s hb0 sf_170) rfl (by decide +kernel) (by decide) (Nat.le_of_ble_eq_true rfl) H (fun r h2 hq => ?_)
  clear H
  obtain ⟨z4, rfl, hb3, H⟩ := hq
  refine A_callV1 m_MD_isSmall T_ok d_MD_word_16 l_MD_258 k_MD_isSmall (hb_s hb3 sf_170) rfl (by decide +kernel) (by decide) (Nat.le_of_ble_eq_true rfl) H (fun r h5 hq => ?_)
  clear H
  obtain ⟨z7, rfl, hb6, H⟩ := hq
  refine A_if_eq (tgt := 59) d_MD_word_19 (by decide) (fun c => ?_) (fun c => ?_)
  · replace H := H.1 c
    refine A_aload_n 0 d_MD_word_59 rfl rfl ?_
    refine A_iload_n 1 d_MD_word_60 rfl rfl ?_
    refine A_bipush d_MD_word_61 rfl ?_
    refine A_icmp_le (tgt := 71) d_MD_word_63 (by decide) (fun c => ?_) (fun c => ?_)
    · replace H := H.1 c
      refine A_iconst d_MD_word_71 rfl ?_
      refine A_pc (pc' := 72) rfl ?_
      exact b_MD_word_72    hb6 H
    · replace H := H.2 c
      refine A_bipush d_MD_word_66 rfl ?_
      refine A_goto (tgt := 72) d_MD_word_68 (by decide) ?_
      refine A_pc (pc' := 72) rfl ?_
      exact b_MD_word_72    hb6 H
  · replace H := H.2 c
    refine A_aload_n 0 d_MD_word_22 rfl rfl ?_
    refine A_aload_n 0 d_MD_word_23 rfl rfl ?_
    refine A_getLf T_ok d_MD_word_24 f_MD_290 (hb_s hb6 sf_170) (fun x8 ex8 lx8 ux8 => ?_)
    replace H := H x8 ex8 lx8 ux8
    refine A_bipush d_MD_word_27 rfl ?_
    refine A_lshl d_MD_word_29 ?_
    refine A_nrL (fun x9 ex9 lx9 ux9 => ?_)
    replace H := H x9 ex9 lx9 ux9
    refine A_pc (pc' := 30) rfl ?_
    refine A_aload_n 0 d_MD_word_30 rfl rfl ?_
    refine A_aload_n 0 d_MD_word_31 rfl rfl ?_
    refine A_getIf T_ok d_MD_word_32 f_MD_252 (hb_s hb6 sf_170) (fun x10 ex10 lx10 ux10 => ?_)
    replace H := H x10 ex10 lx10 ux10
    refine A_callV1 m_MD_at T_ok d_MD_word_35 l_MD_274 k_MD_at (hb_s hb6 sf_170) rfl (by decide +kernel) (by decide) (Nat.le_of_ble_eq_true rfl) H (fun r h11 hq => ?_)
    clear H
    obtain ⟨z13, rfl, hb12, H⟩ := hq
    refine A_i2l d_MD_word_38 ?_
    refine A_lor d_MD_word_39 ?_
    refine A_nrL (fun x14 ex14 lx14 ux14 => ?_)
    replace H := H x14 ex14 lx14 ux14
    refine A_putL T_ok d_MD_word_40 f_MD_290 (hb_s hb12 sf_170) fin_f ?_
    refine A_hn (fun h15 eh15 => ?_)
    have hb16 := hb_l hb12 eh15
    replace H := H h15 eh15
    refine A_aload_n 0 d_MD_word_43 rfl rfl ?_
    refine A_dupR d_MD_word_44 ?_
    refine A_pc (pc' := 45) rfl ?_
    refine A_getIf T_ok d_MD_word_45 f_MD_252 (hb_s hb16 sf_170) (fun x17 ex17 lx17 ux17 => ?_)
    replace H := H x17 ex17 lx17 ux17
    refine A_iconst d_MD_word_48 rfl ?_
    have g18 := H.1
    replace H := H.2
    refine A_iaddv (z := (x17 + 1)) d_MD_word_49 (w32_to (by omega) (by unfold i32; omega)) ?_
    refine A_putI T_ok d_MD_word_50 f_MD_252 (hb_s hb16 sf_170) fin_f ?_
    refine A_hn (fun h19 eh19 => ?_)
    have hb20 := hb_i hb16 eh19
    replace H := H h19 eh19
    have g21 := H.1
    replace H := H.2
    refine A_iincv (z := (v1 + 1)) (L' := [some (av_R (some 170)), some (av_I (v1 + 1)), none]) d_MD_word_53 rfl (w32_to (by omega) (by unfold i32; omega)) rfl ?_
    refine A_goto (tgt := 7) d_MD_word_56 (by decide) ?_
    refine A_pc (pc' := 7) rfl ?_
    exact hX7 ((v1 + 1)) h19  hb20 H
theorem lp_MD_word_7 {G : cx_T} {s : Nat} {Q : Option av_T → ah_T → Prop} (I : Int → ah_T → Prop) (μ : Int → ah_T → Nat) (hI : ∀ (v1 : Int) (h : ah_T), hb s h → I v1 h → B_MD_word_7 G s v1 h Q (fun v1' h' => I v1' h' ∧ μ v1' h' < μ v1 h)) : ∀ (v1 : Int) (h : ah_T), hb s h → I v1 h → aw G (rm_R 1 0 0) m_MD_word 0 0 7 [some (av_R (some 170)), some (av_I v1), none] [] h Q := by
  have key : ∀ (n : Nat) (v1 : Int) (h : ah_T), hb s h → I v1 h → μ v1 h < n → aw G (rm_R 1 0 0) m_MD_word 0 0 7 [some (av_R (some 170)), some (av_I v1), none] [] h Q := by
    intro n
    induction n with
    | zero => intro v1 h  hb0 hi hm; omega
    | succ n ih => intro v1 h  hb0 hi hm; exact b_MD_word_7  (fun v1' h'  hb' hx => ih v1' h'  hb' hx.1 (by have := hx.2; omega))  hb0 (hI v1 h  hb0 hi)
  exact fun v1 h  hb0 hi => key _ v1 h  hb0 hi (Nat.lt_succ_self _)
def B_MD_word_0 (G : cx_T) (s : Nat) (h : ah_T) (Q : Option av_T → ah_T → Prop) (X7 : Int → ah_T → Prop) : Prop :=
 ∀ h1 : ah_T, h1 = st_l h 170 7 0 → X7 (0) h1
theorem b_MD_word_0 {G : cx_T} {s : Nat} {h : ah_T} {Q : Option av_T → ah_T → Prop} {X7 : Int → ah_T → Prop} (hX7 : ∀ (v1 : Int) (h : ah_T), hb s h → X7 v1 h → aw G (rm_R 1 0 0) m_MD_word 0 0 7 [some (av_R (some 170)), some (av_I v1), none] [] h Q) (hb0 : hb s h) (H : B_MD_word_0 G s h Q X7) : aw G (rm_R 1 0 0) m_MD_word 0 0 0 [some (av_R (some 170)), none, none] [] h Q := by
  unfold B_MD_word_0 at H
  have hS : isS s := hb0.2.1
  refine A_iconst d_MD_word_0 rfl ?_
  refine A_istore_n 1 (L' := [some (av_R (some 170)), some (av_I 0), none]) d_MD_word_1 rfl (Nat.le_of_ble_eq_true rfl) rfl ?_
  refine A_aload_n 0 d_MD_word_2 rfl rfl ?_
  refine A_lconst_0 d_MD_word_3 ?_
  refine A_putL T_ok d_MD_word_4 f_MD_290 (hb_s hb0 sf_170) fin_f ?_
  refine A_hn (fun h1 eh1 => ?_)
  have hb2 := hb_l hb0 eh1
  replace H := H h1 eh1
  refine A_pc (pc' := 7) rfl ?_
  exact hX7 (0) h1  hb2 H
theorem c_MD_word {G : cx_T} {s : Nat} {h : ah_T} {Q : Option av_T → ah_T → Prop} {X7 : Int → ah_T → Prop} (hX7 : ∀ (v1 : Int) (h : ah_T), hb s h → X7 v1 h → aw G (rm_R 1 0 0) m_MD_word 0 0 7 [some (av_R (some 170)), some (av_I v1), none] [] h Q) (hb0 : hb s h) (H : B_MD_word_0 G s h Q X7) : con G 1 0 0 m_MD_word [av_R (some 170)] h Q := by
  have hS : isS s := hb0.2.1
  refine con_of (L := [some (av_R (some 170)), none, none]) (by decide +kernel) (Nat.le_of_ble_eq_true rfl) rfl ?_
  exact b_MD_word_0  hX7 hb0 (H )
def B_MD_number_78 (G : cx_T) (s : Nat) (t1 : Int) (h : ah_T) (Q : Option av_T → ah_T → Prop) : Prop :=
 ∀ h1 : ah_T, h1 = st_i h 170 4 t1 → Q none h1
theorem b_MD_number_78 {G : cx_T} {s : Nat} {t1 : Int} {h : ah_T} {Q : Option av_T → ah_T → Prop} (hb0 : hb s h) (H : B_MD_number_78 G s t1 h Q ) : aw G (rm_R 1 0 0) m_MD_number 0 0 78 [none, none] [av_I t1, av_R (some 170)] h Q := by
  unfold B_MD_number_78 at H
  have hS : isS s := hb0.2.1
  refine A_putI T_ok d_MD_number_78 f_MD_239 (hb_s hb0 sf_170) fin_f ?_
  refine A_hn (fun h1 eh1 => ?_)
  have hb2 := hb_i hb0 eh1
  replace H := H h1 eh1
  exact A_vret d_MD_number_81 (by decide) rfl H
def B_MD_number_50 (G : cx_T) (s : Nat) (v1 : Int) (h : ah_T) (Q : Option av_T → ah_T → Prop) (X7 : Int → ah_T → Prop) : Prop :=
 ∀ x1 : Int, x1 = h.2.1 170 3 → -2147483648 ≤ x1 → x1 ≤ 2147483647 → ((-2147483648) ≤ (x1 + 1) ∧ (x1 + 1) ≤ 2147483647) ∧ ∀ h3 : ah_T, h3 = st_i h 170 3 (x1 + 1) → ((-2147483648) ≤ (v1 + 1) ∧ (v1 + 1) ≤ 2147483647) ∧ X7 ((v1 + 1)) h3
theorem b_MD_number_50 {G : cx_T} {s : Nat} {v1 : Int} {h : ah_T} {Q : Option av_T → ah_T → Prop} {X7 : Int → ah_T → Prop} (hX7 : ∀ (v1 : Int) (h : ah_T), hb s h → X7 v1 h → aw G (rm_R 1 0 0) m_MD_number 0 0 7 [some (av_R (some 170)), some (av_I v1)] [] h Q) (hb0 : hb s h) (H : B_MD_number_50 G s v1 h Q X7) : aw G (rm_R 1 0 0) m_MD_number 0 0 50 [some (av_R (some 170)), some (av_I v1)] [] h Q := by
  unfold B_MD_number_50 at H
  have hS : isS s := hb0.2.1
  refine A_aload_n 0 d_MD_number_50 rfl rfl ?_
  refine A_dupR d_MD_number_51 ?_
  refine A_getIf T_ok d_MD_number_52 f_MD_252 (hb_s hb0 sf_170) (fun x1 ex1 lx1 ux1 => ?_)
  replace H := H x1 ex1 lx1 ux1
  refine A_iconst d_MD_number_55 rfl ?_
  have g2 := H.1
  replace H := H.2
  refine A_iaddv (z := (x1 + 1)) d_MD_number_56 (w32_to (by omega) (by unfold i32; omega)) ?_
  refine A_pc (pc' := 57) rfl ?_
  refine A_putI T_ok d_MD_number_57 f_MD_252 (hb_s hb0 sf_170) fin_f ?_
  refine A_hn (fun h3 eh3 => ?_)
  have hb4 := hb_i hb0 eh3
  replace H := H h3 eh3
  have g5 := H.1
  replace H := H.2
  refine A_iincv (z := (v1 + 1)) (L' := [some (av_R (some 170)), some (av_I (v1 + 1))]) d_MD_number_60 rfl (w32_to (by omega) (by unfold i32; omega)) rfl ?_
  refine A_goto (tgt := 7) d_MD_number_63 (by decide) ?_
  refine A_pc (pc' := 7) rfl ?_
  exact hX7 ((v1 + 1)) h3  hb4 H
def B_MD_number_7 (G : cx_T) (s : Nat) (v1 : Int) (h : ah_T) (Q : Option av_T → ah_T → Prop) (X7 : Int → ah_T → Prop) : Prop :=
 ∀ x1 : Int, x1 = h.2.1 170 3 → -2147483648 ≤ x1 → x1 ≤ 2147483647 → con G 0 0 0 m_MD_at [av_R (some 170), av_I x1] h (fun r h2 => ∃ z4 : Int, r = some (av_I z4) ∧ hb s h2 ∧ con G 0 0 0 m_MD_isDigit [av_R (some 170), av_I z4] h2 (fun r h5 => ∃ z7 : Int, r = some (av_I z7) ∧ hb s h5 ∧ ((z7 = 0 → ((v1 ≤ 4 → B_MD_number_78 G s (3) h5 Q ) ∧ (¬ v1 ≤ 4 → B_MD_number_78 G s (6) h5 Q ))) ∧ (¬ z7 = 0 → ((4 ≤ v1 → B_MD_number_50 G s (v1) h5 Q X7) ∧ (¬ 4 ≤ v1 → ∀ x8 : Int, x8 = h5.2.1 170 6 → -2147483648 ≤ x8 → x8 ≤ 2147483647 → ((-2147483648) ≤ (10 * x8) ∧ (10 * x8) ≤ 2147483647) ∧ ∀ x10 : Int, x10 = h5.2.1 170 3 → -2147483648 ≤ x10 → x10 ≤ 2147483647 → con G 0 0 0 m_MD_at [av_R (some 170), av_I x10] h5 (fun r h11 => ∃ z13 : Int, r = some (av_I z13) ∧ hb s h11 ∧ ((-2147483648) ≤ (10 * x8 + z13) ∧ (10 * x8 + z13) ≤ 2147483647) ∧ ((-2147483648) ≤ (10 * x8 + z13 - 48) ∧ (10 * x8 + z13 - 48) ≤ 2147483647) ∧ ∀ h16 : ah_T, h16 = st_i h11 170 6 (10 * x8 + z13 - 48) → B_MD_number_50 G s (v1) h16 Q X7)))))))
theorem b_MD_number_7 {G : cx_T} {s : Nat} {v1 : Int} {h : ah_T} {Q : Option av_T → ah_T → Prop} {X7 : Int → ah_T → Prop} (hX7 : ∀ (v1 : Int) (h : ah_T), hb s h → X7 v1 h → aw G (rm_R 1 0 0) m_MD_number 0 0 7 [some (av_R (some 170)), some (av_I v1)] [] h Q) (hb0 : hb s h) (H : B_MD_number_7 G s v1 h Q X7) : aw G (rm_R 1 0 0) m_MD_number 0 0 7 [some (av_R (some 170)), some (av_I v1)] [] h Q := by
  unfold B_MD_number_7 at H
  have hS : isS s := hb0.2.1
  refine A_aload_n 0 d_MD_number_7 rfl rfl ?_
  refine A_aload_n 0 d_MD_number_8 rfl rfl ?_
  refine A_aload_n 0 d_MD_number_9 rfl rfl ?_
  refine A_getIf T_ok d_MD_number_10 f_MD_252 (hb_s hb0 sf_170) (fun x1 ex1 lx1 ux1 => ?_)
  replace H := H x1 ex1 lx1 ux1
  refine A_callV1 m_MD_at T_ok d_MD_number_13 l_MD_274 k_MD_at (hb_s hb0 sf_170) rfl (by decide +kernel) (by decide) (Nat.le_of_ble_eq_true rfl) H (fun r h2 hq => ?_)
  clear H
  obtain ⟨z4, rfl, hb3, H⟩ := hq
  refine A_callV1 m_MD_isDigit T_ok d_MD_number_16 l_MD_265 k_MD_isDigit (hb_s hb3 sf_170) rfl (by decide +kernel) (by decide) (Nat.le_of_ble_eq_true rfl) H (fun r h5 hq => ?_)
  clear H
  obtain ⟨z7, rfl, hb6, H⟩ := hq
  refine A_if_eq (tgt := 66) d_MD_number_19 (by decide) (fun c => ?_) (fun c => ?_)
  · replace H := H.1 c
    refine A_aload_n 0 d_MD_number_66 rfl rfl ?_
    refine A_iload_n 1 d_MD_number_67 rfl rfl ?_
    refine A_iconst d_MD_number_68 rfl ?_
    refine A_icmp_le (tgt := 77) d_MD_number_69 (by decide) (fun c => ?_) (fun c => ?_)
    · replace H := H.1 c
      refine A_iconst d_MD_number_77 rfl ?_
      refine A_pc (pc' := 78) rfl ?_
      refine A_free (L' := [none, none]) trivial ?_
      exact b_MD_number_78    hb6 H
    · replace H := H.2 c
      refine A_bipush d_MD_number_72 rfl ?_
      refine A_goto (tgt := 78) d_MD_number_74 (by decide) ?_
      refine A_pc (pc' := 78) rfl ?_
      refine A_free (L' := [none, none]) trivial ?_
      exact b_MD_number_78    hb6 H
  · replace H := H.2 c
    refine A_iload_n 1 d_MD_number_22 rfl rfl ?_
    refine A_iconst d_MD_number_23 rfl ?_
    refine A_icmp_ge (tgt := 50) d_MD_number_24 (by decide) (fun c => ?_) (fun c => ?_)
    · replace H := H.1 c
      refine A_pc (pc' := 50) rfl ?_
      exact b_MD_number_50  hX7  hb6 H
    · replace H := H.2 c
      refine A_aload_n 0 d_MD_number_27 rfl rfl ?_
      refine A_bipush d_MD_number_28 rfl ?_
      refine A_aload_n 0 d_MD_number_30 rfl rfl ?_
      refine A_getIf T_ok d_MD_number_31 f_MD_271 (hb_s hb6 sf_170) (fun x8 ex8 lx8 ux8 => ?_)
      replace H := H x8 ex8 lx8 ux8
      have g9 := H.1
      replace H := H.2
      refine A_imulv (z := (10 * x8)) d_MD_number_34 (w32_to (by omega) (by unfold i32; omega)) ?_
      refine A_pc (pc' := 35) rfl ?_
      refine A_aload_n 0 d_MD_number_35 rfl rfl ?_
      refine A_aload_n 0 d_MD_number_36 rfl rfl ?_
      refine A_getIf T_ok d_MD_number_37 f_MD_252 (hb_s hb6 sf_170) (fun x10 ex10 lx10 ux10 => ?_)
      replace H := H x10 ex10 lx10 ux10
      refine A_callV1 m_MD_at T_ok d_MD_number_40 l_MD_274 k_MD_at (hb_s hb6 sf_170) rfl (by decide +kernel) (by decide) (Nat.le_of_ble_eq_true rfl) H (fun r h11 hq => ?_)
      clear H
      obtain ⟨z13, rfl, hb12, H⟩ := hq
      have g14 := H.1
      replace H := H.2
      refine A_iaddv (z := (10 * x8 + z13)) d_MD_number_43 (w32_to (by omega) (by unfold i32; omega)) ?_
      refine A_bipush d_MD_number_44 rfl ?_
      have g15 := H.1
      replace H := H.2
      refine A_isubv (z := (10 * x8 + z13 - 48)) d_MD_number_46 (w32_to (by omega) (by unfold i32; omega)) ?_
      refine A_putI T_ok d_MD_number_47 f_MD_271 (hb_s hb12 sf_170) fin_f ?_
      refine A_hn (fun h16 eh16 => ?_)
      have hb17 := hb_i hb12 eh16
      replace H := H h16 eh16
      refine A_pc (pc' := 50) rfl ?_
      exact b_MD_number_50  hX7  hb17 H
theorem lp_MD_number_7 {G : cx_T} {s : Nat} {Q : Option av_T → ah_T → Prop} (I : Int → ah_T → Prop) (μ : Int → ah_T → Nat) (hI : ∀ (v1 : Int) (h : ah_T), hb s h → I v1 h → B_MD_number_7 G s v1 h Q (fun v1' h' => I v1' h' ∧ μ v1' h' < μ v1 h)) : ∀ (v1 : Int) (h : ah_T), hb s h → I v1 h → aw G (rm_R 1 0 0) m_MD_number 0 0 7 [some (av_R (some 170)), some (av_I v1)] [] h Q := by
  have key : ∀ (n : Nat) (v1 : Int) (h : ah_T), hb s h → I v1 h → μ v1 h < n → aw G (rm_R 1 0 0) m_MD_number 0 0 7 [some (av_R (some 170)), some (av_I v1)] [] h Q := by
    intro n
    induction n with
    | zero => intro v1 h  hb0 hi hm; omega
    | succ n ih => intro v1 h  hb0 hi hm; exact b_MD_number_7  (fun v1' h'  hb' hx => ih v1' h'  hb' hx.1 (by have := hx.2; omega))  hb0 (hI v1 h  hb0 hi)
  exact fun v1 h  hb0 hi => key _ v1 h  hb0 hi (Nat.lt_succ_self _)
def B_MD_number_0 (G : cx_T) (s : Nat) (h : ah_T) (Q : Option av_T → ah_T → Prop) (X7 : Int → ah_T → Prop) : Prop :=
 ∀ h1 : ah_T, h1 = st_i h 170 6 0 → X7 (0) h1
theorem b_MD_number_0 {G : cx_T} {s : Nat} {h : ah_T} {Q : Option av_T → ah_T → Prop} {X7 : Int → ah_T → Prop} (hX7 : ∀ (v1 : Int) (h : ah_T), hb s h → X7 v1 h → aw G (rm_R 1 0 0) m_MD_number 0 0 7 [some (av_R (some 170)), some (av_I v1)] [] h Q) (hb0 : hb s h) (H : B_MD_number_0 G s h Q X7) : aw G (rm_R 1 0 0) m_MD_number 0 0 0 [some (av_R (some 170)), none] [] h Q := by
  unfold B_MD_number_0 at H
  have hS : isS s := hb0.2.1
  refine A_iconst d_MD_number_0 rfl ?_
  refine A_istore_n 1 (L' := [some (av_R (some 170)), some (av_I 0)]) d_MD_number_1 rfl (Nat.le_of_ble_eq_true rfl) rfl ?_
  refine A_aload_n 0 d_MD_number_2 rfl rfl ?_
  refine A_iconst d_MD_number_3 rfl ?_
  refine A_putI T_ok d_MD_number_4 f_MD_271 (hb_s hb0 sf_170) fin_f ?_
  refine A_hn (fun h1 eh1 => ?_)
  have hb2 := hb_i hb0 eh1
  replace H := H h1 eh1
  refine A_pc (pc' := 7) rfl ?_
  exact hX7 (0) h1  hb2 H
theorem c_MD_number {G : cx_T} {s : Nat} {h : ah_T} {Q : Option av_T → ah_T → Prop} {X7 : Int → ah_T → Prop} (hX7 : ∀ (v1 : Int) (h : ah_T), hb s h → X7 v1 h → aw G (rm_R 1 0 0) m_MD_number 0 0 7 [some (av_R (some 170)), some (av_I v1)] [] h Q) (hb0 : hb s h) (H : B_MD_number_0 G s h Q X7) : con G 1 0 0 m_MD_number [av_R (some 170)] h Q := by
  have hS : isS s := hb0.2.1
  refine con_of (L := [some (av_R (some 170)), none]) (by decide +kernel) (Nat.le_of_ble_eq_true rfl) rfl ?_
  exact b_MD_number_0  hX7 hb0 (H )
def B_MD_next_337 (G : cx_T) (s : Nat) (h : ah_T) (Q : Option av_T → ah_T → Prop) : Prop :=
 Q (some (av_I 1)) h
theorem b_MD_next_337 {G : cx_T} {s : Nat} {h : ah_T} {Q : Option av_T → ah_T → Prop} (hb0 : hb s h) (H : B_MD_next_337 G s h Q ) : aw G (rm_R 2 0 0) m_MD_next 0 0 337 [none, none, none, none] [] h Q := by
  unfold B_MD_next_337 at H
  have hS : isS s := hb0.2.1
  refine A_iconst d_MD_next_337 rfl ?_
  exact A_zret d_MD_next_338 (by decide) rfl (by decide) H
def B_MD_next_319 (G : cx_T) (s : Nat) (v2 : Int) (t1 : Int) (h : ah_T) (Q : Option av_T → ah_T → Prop) : Prop :=
 ∀ h1 : ah_T, h1 = st_i h 170 4 t1 → ∀ h3 : ah_T, h3 = st_i h1 170 6 v2 → ∀ x5 : Int, x5 = h3.2.1 170 3 → -2147483648 ≤ x5 → x5 ≤ 2147483647 → ((-2147483648) ≤ (x5 + 1) ∧ (x5 + 1) ≤ 2147483647) ∧ ∀ h7 : ah_T, h7 = st_i h3 170 3 (x5 + 1) → B_MD_next_337 G s h7 Q 
theorem b_MD_next_319 {G : cx_T} {s : Nat} {v2 : Int} {t1 : Int} {h : ah_T} {Q : Option av_T → ah_T → Prop} (hb0 : hb s h) (H : B_MD_next_319 G s v2 t1 h Q ) : aw G (rm_R 2 0 0) m_MD_next 0 0 319 [some (av_R (some 170)), none, some (av_I v2), none] [av_I t1, av_R (some 170)] h Q := by
  unfold B_MD_next_319 at H
  have hS : isS s := hb0.2.1
  refine A_putI T_ok d_MD_next_319 f_MD_239 (hb_s hb0 sf_170) fin_f ?_
  refine A_hn (fun h1 eh1 => ?_)
  have hb2 := hb_i hb0 eh1
  replace H := H h1 eh1
  refine A_aload_n 0 d_MD_next_322 rfl rfl ?_
  refine A_iload_n 2 d_MD_next_323 rfl rfl ?_
  refine A_putI T_ok d_MD_next_324 f_MD_271 (hb_s hb2 sf_170) fin_f ?_
  refine A_hn (fun h3 eh3 => ?_)
  have hb4 := hb_i hb2 eh3
  replace H := H h3 eh3
  refine A_aload_n 0 d_MD_next_327 rfl rfl ?_
  refine A_pc (pc' := 328) rfl ?_
  refine A_dupR d_MD_next_328 ?_
  refine A_getIf T_ok d_MD_next_329 f_MD_252 (hb_s hb4 sf_170) (fun x5 ex5 lx5 ux5 => ?_)
  replace H := H x5 ex5 lx5 ux5
  refine A_iconst d_MD_next_332 rfl ?_
  have g6 := H.1
  replace H := H.2
  refine A_iaddv (z := (x5 + 1)) d_MD_next_333 (w32_to (by omega) (by unfold i32; omega)) ?_
  refine A_putI T_ok d_MD_next_334 f_MD_252 (hb_s hb4 sf_170) fin_f ?_
  refine A_hn (fun h7 eh7 => ?_)
  have hb8 := hb_i hb4 eh7
  replace H := H h7 eh7
  refine A_pc (pc' := 337) rfl ?_
  refine A_free (L' := [none, none, none, none]) trivial ?_
  exact b_MD_next_337    hb8 H
def B_MD_next_307 (G : cx_T) (s : Nat) (v2 : Int) (t0 : Int) (h : ah_T) (Q : Option av_T → ah_T → Prop) : Prop :=
 ((t0 = 0 → B_MD_next_319 G s (v2) (6) h Q ) ∧ (¬ t0 = 0 → B_MD_next_319 G s (v2) (5) h Q ))
theorem b_MD_next_307 {G : cx_T} {s : Nat} {v2 : Int} {t0 : Int} {h : ah_T} {Q : Option av_T → ah_T → Prop} (hb0 : hb s h) (H : B_MD_next_307 G s v2 t0 h Q ) : aw G (rm_R 2 0 0) m_MD_next 0 0 307 [some (av_R (some 170)), none, some (av_I v2), none] [av_I t0] h Q := by
  unfold B_MD_next_307 at H
  have hS : isS s := hb0.2.1
  refine A_istore_n 3 (L' := [some (av_R (some 170)), none, some (av_I v2), some (av_I t0)]) d_MD_next_307 rfl (Nat.le_of_ble_eq_true rfl) rfl ?_
  refine A_aload_n 0 d_MD_next_308 rfl rfl ?_
  refine A_iload_n 3 d_MD_next_309 rfl rfl ?_
  refine A_if_eq (tgt := 317) d_MD_next_310 (by decide) (fun c => ?_) (fun c => ?_)
  · replace H := H.1 c
    refine A_bipush d_MD_next_317 rfl ?_
    refine A_pc (pc' := 319) rfl ?_
    refine A_free (L' := [some (av_R (some 170)), none, some (av_I v2), none]) (And.intro rfl (And.intro rfl trivial)) ?_
    exact b_MD_next_319    hb0 H
  · replace H := H.2 c
    refine A_iconst d_MD_next_313 rfl ?_
    refine A_goto (tgt := 319) d_MD_next_314 (by decide) ?_
    refine A_pc (pc' := 319) rfl ?_
    refine A_free (L' := [some (av_R (some 170)), none, some (av_I v2), none]) (And.intro rfl (And.intro rfl trivial)) ?_
    exact b_MD_next_319    hb0 H
def B_MD_next_302 (G : cx_T) (s : Nat) (v2 : Int) (h : ah_T) (Q : Option av_T → ah_T → Prop) : Prop :=
 B_MD_next_307 G s (v2) (1) h Q 
theorem b_MD_next_302 {G : cx_T} {s : Nat} {v2 : Int} {h : ah_T} {Q : Option av_T → ah_T → Prop} (hb0 : hb s h) (H : B_MD_next_302 G s v2 h Q ) : aw G (rm_R 2 0 0) m_MD_next 0 0 302 [some (av_R (some 170)), none, some (av_I v2), none] [] h Q := by
  unfold B_MD_next_302 at H
  have hS : isS s := hb0.2.1
  refine A_iconst d_MD_next_302 rfl ?_
  refine A_goto (tgt := 307) d_MD_next_303 (by decide) ?_
  refine A_pc (pc' := 307) rfl ?_
  exact b_MD_next_307    hb0 H
def B_MD_next_194 (G : cx_T) (s : Nat) (v2 : Int) (h : ah_T) (Q : Option av_T → ah_T → Prop) : Prop :=
 con G 0 0 0 m_MD_isSmall [av_R (some 170), av_I v2] h (fun r h1 => ∃ z3 : Int, r = some (av_I z3) ∧ hb s h1 ∧ ((z3 = 0 → con G 0 0 0 m_MD_isDigit [av_R (some 170), av_I v2] h1 (fun r h4 => ∃ z6 : Int, r = some (av_I z6) ∧ hb s h4 ∧ ((z6 = 0 → ((v2 = 59 → B_MD_next_302 G s (v2) h4 Q ) ∧ (¬ v2 = 59 → ((v2 = 58 → B_MD_next_302 G s (v2) h4 Q ) ∧ (¬ v2 = 58 → ((v2 = 47 → B_MD_next_302 G s (v2) h4 Q ) ∧ (¬ v2 = 47 → ((v2 = 124 → B_MD_next_302 G s (v2) h4 Q ) ∧ (¬ v2 = 124 → ((v2 = 91 → B_MD_next_302 G s (v2) h4 Q ) ∧ (¬ v2 = 91 → ((v2 = 93 → B_MD_next_302 G s (v2) h4 Q ) ∧ (¬ v2 = 93 → ((v2 = 123 → B_MD_next_302 G s (v2) h4 Q ) ∧ (¬ v2 = 123 → ((v2 = 125 → B_MD_next_302 G s (v2) h4 Q ) ∧ (¬ v2 = 125 → ((v2 = 60 → B_MD_next_302 G s (v2) h4 Q ) ∧ (¬ v2 = 60 → ((v2 = 62 → B_MD_next_302 G s (v2) h4 Q ) ∧ (¬ v2 = 62 → ((v2 = 61 → B_MD_next_302 G s (v2) h4 Q ) ∧ (¬ v2 = 61 → ((v2 = 46 → B_MD_next_302 G s (v2) h4 Q ) ∧ (¬ v2 = 46 → ((v2 = 126 → B_MD_next_302 G s (v2) h4 Q ) ∧ (¬ v2 = 126 → B_MD_next_307 G s (v2) (0) h4 Q ))))))))))))))))))))))))))) ∧ (¬ z6 = 0 → con G 1 0 0 m_MD_number [av_R (some 170)] h4 (fun r h7 => r = none ∧ hb s h7 ∧ B_MD_next_337 G s h7 Q ))))) ∧ (¬ z3 = 0 → con G 1 0 0 m_MD_word [av_R (some 170)] h1 (fun r h10 => r = none ∧ hb s h10 ∧ B_MD_next_337 G s h10 Q ))))
theorem b_MD_next_194 {G : cx_T} {s : Nat} {v2 : Int} {h : ah_T} {Q : Option av_T → ah_T → Prop} (hb0 : hb s h) (H : B_MD_next_194 G s v2 h Q ) : aw G (rm_R 2 0 0) m_MD_next 0 0 194 [some (av_R (some 170)), none, some (av_I v2), none] [] h Q := by
  unfold B_MD_next_194 at H
  have hS : isS s := hb0.2.1
  refine A_aload_n 0 d_MD_next_194 rfl rfl ?_
  refine A_iload_n 2 d_MD_next_195 rfl rfl ?_
  refine A_callV1 m_MD_isSmall T_ok d_MD_next_196 l_MD_258 k_MD_isSmall (hb_s hb0 sf_170) rfl (by decide +kernel) (by decide) (Nat.le_of_ble_eq_true rfl) H (fun r h1 hq => ?_)
  clear H
  obtain ⟨z3, rfl, hb2, H⟩ := hq
  refine A_if_eq (tgt := 209) d_MD_next_199 (by decide) (fun c => ?_) (fun c => ?_)
  · replace H := H.1 c
    refine A_aload_n 0 d_MD_next_209 rfl rfl ?_
    refine A_iload_n 2 d_MD_next_210 rfl rfl ?_
    refine A_callV1 m_MD_isDigit T_ok d_MD_next_211 l_MD_265 k_MD_isDigit (hb_s hb2 sf_170) rfl (by decide +kernel) (by decide) (Nat.le_of_ble_eq_true rfl) H (fun r h4 hq => ?_)
    clear H
    obtain ⟨z6, rfl, hb5, H⟩ := hq
    refine A_if_eq (tgt := 224) d_MD_next_214 (by decide) (fun c => ?_) (fun c => ?_)
    · replace H := H.1 c
      refine A_iload_n 2 d_MD_next_224 rfl rfl ?_
      refine A_bipush d_MD_next_225 rfl ?_
      refine A_icmp_eq (tgt := 302) d_MD_next_227 (by decide) (fun c => ?_) (fun c => ?_)
      · replace H := H.1 c
        refine A_pc (pc' := 302) rfl ?_
        exact b_MD_next_302    hb5 H
      · replace H := H.2 c
        refine A_iload_n 2 d_MD_next_230 rfl rfl ?_
        refine A_bipush d_MD_next_231 rfl ?_
        refine A_icmp_eq (tgt := 302) d_MD_next_233 (by decide) (fun c => ?_) (fun c => ?_)
        · replace H := H.1 c
          refine A_pc (pc' := 302) rfl ?_
          exact b_MD_next_302    hb5 H
        · replace H := H.2 c
          refine A_iload_n 2 d_MD_next_236 rfl rfl ?_
          refine A_bipush d_MD_next_237 rfl ?_
          refine A_icmp_eq (tgt := 302) d_MD_next_239 (by decide) (fun c => ?_) (fun c => ?_)
          · replace H := H.1 c
            refine A_pc (pc' := 302) rfl ?_
            exact b_MD_next_302    hb5 H
          · replace H := H.2 c
            refine A_iload_n 2 d_MD_next_242 rfl rfl ?_
            refine A_bipush d_MD_next_243 rfl ?_
            refine A_icmp_eq (tgt := 302) d_MD_next_245 (by decide) (fun c => ?_) (fun c => ?_)
            · replace H := H.1 c
              refine A_pc (pc' := 302) rfl ?_
              exact b_MD_next_302    hb5 H
            · replace H := H.2 c
              refine A_iload_n 2 d_MD_next_248 rfl rfl ?_
              refine A_bipush d_MD_next_249 rfl ?_
              refine A_icmp_eq (tgt := 302) d_MD_next_251 (by decide) (fun c => ?_) (fun c => ?_)
              · replace H := H.1 c
                refine A_pc (pc' := 302) rfl ?_
                exact b_MD_next_302    hb5 H
              · replace H := H.2 c
                refine A_iload_n 2 d_MD_next_254 rfl rfl ?_
                refine A_bipush d_MD_next_255 rfl ?_
                refine A_icmp_eq (tgt := 302) d_MD_next_257 (by decide) (fun c => ?_) (fun c => ?_)
                · replace H := H.1 c
                  refine A_pc (pc' := 302) rfl ?_
                  exact b_MD_next_302    hb5 H
                · replace H := H.2 c
                  refine A_iload_n 2 d_MD_next_260 rfl rfl ?_
                  refine A_bipush d_MD_next_261 rfl ?_
                  refine A_icmp_eq (tgt := 302) d_MD_next_263 (by decide) (fun c => ?_) (fun c => ?_)
                  · replace H := H.1 c
                    refine A_pc (pc' := 302) rfl ?_
                    exact b_MD_next_302    hb5 H
                  · replace H := H.2 c
                    refine A_iload_n 2 d_MD_next_266 rfl rfl ?_
                    refine A_bipush d_MD_next_267 rfl ?_
                    refine A_icmp_eq (tgt := 302) d_MD_next_269 (by decide) (fun c => ?_) (fun c => ?_)
                    · replace H := H.1 c
                      refine A_pc (pc' := 302) rfl ?_
                      exact b_MD_next_302    hb5 H
                    · replace H := H.2 c
                      refine A_iload_n 2 d_MD_next_272 rfl rfl ?_
                      refine A_bipush d_MD_next_273 rfl ?_
                      refine A_icmp_eq (tgt := 302) d_MD_next_275 (by decide) (fun c => ?_) (fun c => ?_)
                      · replace H := H.1 c
                        refine A_pc (pc' := 302) rfl ?_
                        exact b_MD_next_302    hb5 H
                      · replace H := H.2 c
                        refine A_iload_n 2 d_MD_next_278 rfl rfl ?_
                        refine A_bipush d_MD_next_279 rfl ?_
                        refine A_icmp_eq (tgt := 302) d_MD_next_281 (by decide) (fun c => ?_) (fun c => ?_)
                        · replace H := H.1 c
                          refine A_pc (pc' := 302) rfl ?_
                          exact b_MD_next_302    hb5 H
                        · replace H := H.2 c
                          refine A_iload_n 2 d_MD_next_284 rfl rfl ?_
                          refine A_bipush d_MD_next_285 rfl ?_
                          refine A_icmp_eq (tgt := 302) d_MD_next_287 (by decide) (fun c => ?_) (fun c => ?_)
                          · replace H := H.1 c
                            refine A_pc (pc' := 302) rfl ?_
                            exact b_MD_next_302    hb5 H
                          · replace H := H.2 c
                            refine A_iload_n 2 d_MD_next_290 rfl rfl ?_
                            refine A_bipush d_MD_next_291 rfl ?_
                            refine A_icmp_eq (tgt := 302) d_MD_next_293 (by decide) (fun c => ?_) (fun c => ?_)
                            · replace H := H.1 c
                              refine A_pc (pc' := 302) rfl ?_
                              exact b_MD_next_302    hb5 H
                            · replace H := H.2 c
                              refine A_iload_n 2 d_MD_next_296 rfl rfl ?_
                              refine A_bipush d_MD_next_297 rfl ?_
                              refine A_icmp_ne (tgt := 306) d_MD_next_299 (by decide) (fun c => ?_) (fun c => ?_)
                              · replace H := H.2 c
                                refine A_iconst d_MD_next_306 rfl ?_
                                refine A_pc (pc' := 307) rfl ?_
                                exact b_MD_next_307    hb5 H
                              · replace H := H.1 c
                                refine A_pc (pc' := 302) rfl ?_
                                exact b_MD_next_302    hb5 H
    · replace H := H.2 c
      refine A_aload_n 0 d_MD_next_217 rfl rfl ?_
      refine A_callV0 m_MD_number T_ok d_MD_next_218 l_MD_268 k_MD_number (hb_s hb5 sf_170) rfl (by decide +kernel) (by decide) (Nat.le_of_ble_eq_true rfl) H (fun r h7 hq => ?_)
      clear H
      obtain ⟨rfl, hb8, H⟩ := hq
      refine A_goto (tgt := 337) d_MD_next_221 (by decide) ?_
      refine A_pc (pc' := 337) rfl ?_
      refine A_free (L' := [none, none, none, none]) trivial ?_
      exact b_MD_next_337    hb8 H
  · replace H := H.2 c
    refine A_aload_n 0 d_MD_next_202 rfl rfl ?_
    refine A_callV0 m_MD_word T_ok d_MD_next_203 l_MD_262 k_MD_word (hb_s hb2 sf_170) rfl (by decide +kernel) (by decide) (Nat.le_of_ble_eq_true rfl) H (fun r h10 hq => ?_)
    clear H
    obtain ⟨rfl, hb11, H⟩ := hq
    refine A_goto (tgt := 337) d_MD_next_206 (by decide) ?_
    refine A_pc (pc' := 337) rfl ?_
    refine A_free (L' := [none, none, none, none]) trivial ?_
    exact b_MD_next_337    hb11 H
def B_MD_next_138 (G : cx_T) (s : Nat) (h : ah_T) (Q : Option av_T → ah_T → Prop) : Prop :=
 ∀ x1 : Int, x1 = h.2.1 170 3 → -2147483648 ≤ x1 → x1 ≤ 2147483647 → ∀ h2 : ah_T, h2 = st_i h 170 5 x1 → ∀ x5 : Int, x5 = h2.2.1 170 2 → -2147483648 ≤ x5 → x5 ≤ 2147483647 → ((x1 = x5 → ∀ h13 : ah_T, h13 = st_i h2 170 4 0 → Q (some (av_I 1)) h13) ∧ (¬ x1 = x5 → (0 ≤ x1 ∧ x1 < 2000) ∧ ∀ x8 : Int, x8 = h2.2.1 171 (x1).toNat → -2147483648 ≤ x8 → x8 ≤ 2147483647 → ((x8 < 65 → B_MD_next_194 G s (x8) h2 Q ) ∧ (¬ x8 < 65 → ((71 < x8 → B_MD_next_194 G s (x8) h2 Q ) ∧ (¬ 71 < x8 → con G 1 0 0 m_MD_pitch [av_R (some 170), av_I x8] h2 (fun r h10 => r = none ∧ hb s h10 ∧ B_MD_next_337 G s h10 Q )))))))
theorem b_MD_next_138 {G : cx_T} {s : Nat} {h : ah_T} {Q : Option av_T → ah_T → Prop} (hb0 : hb s h) (H : B_MD_next_138 G s h Q ) : aw G (rm_R 2 0 0) m_MD_next 0 0 138 [some (av_R (some 170)), none, none, none] [] h Q := by
  unfold B_MD_next_138 at H
  have hS : isS s := hb0.2.1
  refine A_aload_n 0 d_MD_next_138 rfl rfl ?_
  refine A_aload_n 0 d_MD_next_139 rfl rfl ?_
  refine A_getIf T_ok d_MD_next_140 f_MD_252 (hb_s hb0 sf_170) (fun x1 ex1 lx1 ux1 => ?_)
  replace H := H x1 ex1 lx1 ux1
  refine A_putI T_ok d_MD_next_143 f_MD_242 (hb_s hb0 sf_170) fin_f ?_
  refine A_hn (fun h2 eh2 => ?_)
  have hb3 := hb_i hb0 eh2
  replace H := H h2 eh2
  refine A_aload_n 0 d_MD_next_146 rfl rfl ?_
  refine A_pc (pc' := 147) rfl ?_
  refine A_getIv (z := x1) T_ok d_MD_next_147 f_MD_252 (hb_s hb3 sf_170) ((mm_i eh2 (fun q => absurd q.2 (by decide))).trans ex1.symm) ?_
  refine A_aload_n 0 d_MD_next_150 rfl rfl ?_
  refine A_getIf T_ok d_MD_next_151 f_MD_249 (hb_s hb3 sf_170) (fun x5 ex5 lx5 ux5 => ?_)
  replace H := H x5 ex5 lx5 ux5
  refine A_icmp_ne (tgt := 164) d_MD_next_154 (by decide) (fun c => ?_) (fun c => ?_)
  · replace H := H.2 c
    refine A_aload_n 0 d_MD_next_164 rfl rfl ?_
    refine A_getAv (z := some 171) T_ok d_MD_next_165 f_MD_7 (hb_s hb3 sf_170) (hb_m hb3 rfm_0) ?_
    refine A_aload_n 0 d_MD_next_168 rfl rfl ?_
    refine A_getIv (z := x1) T_ok d_MD_next_169 f_MD_252 (hb_s hb3 sf_170) ((mm_i eh2 (fun q => absurd q.2 (by decide))).trans ex1.symm) ?_
    have g9 := H.1
    replace H := H.2
    refine A_ialoadf d_MD_next_172 (hb_s hb3 sf_171) g9.1 g9.2 (fun x8 ex8 lx8 ux8 => ?_)
    replace H := H x8 ex8 lx8 ux8
    refine A_pc (pc' := 173) rfl ?_
    refine A_istore_n 2 (L' := [some (av_R (some 170)), none, some (av_I x8), none]) d_MD_next_173 rfl (Nat.le_of_ble_eq_true rfl) rfl ?_
    refine A_iload_n 2 d_MD_next_174 rfl rfl ?_
    refine A_bipush d_MD_next_175 rfl ?_
    refine A_icmp_lt (tgt := 194) d_MD_next_177 (by decide) (fun c => ?_) (fun c => ?_)
    · replace H := H.1 c
      refine A_pc (pc' := 194) rfl ?_
      exact b_MD_next_194    hb3 H
    · replace H := H.2 c
      refine A_iload_n 2 d_MD_next_180 rfl rfl ?_
      refine A_bipush d_MD_next_181 rfl ?_
      refine A_icmp_gt (tgt := 194) d_MD_next_183 (by decide) (fun c => ?_) (fun c => ?_)
      · replace H := H.1 c
        refine A_pc (pc' := 194) rfl ?_
        exact b_MD_next_194    hb3 H
      · replace H := H.2 c
        refine A_aload_n 0 d_MD_next_186 rfl rfl ?_
        refine A_iload_n 2 d_MD_next_187 rfl rfl ?_
        refine A_callV1 m_MD_pitch T_ok d_MD_next_188 l_MD_255 k_MD_pitch (hb_s hb3 sf_170) rfl (by decide +kernel) (by decide) (Nat.le_of_ble_eq_true rfl) H (fun r h10 hq => ?_)
        clear H
        obtain ⟨rfl, hb11, H⟩ := hq
        refine A_goto (tgt := 337) d_MD_next_191 (by decide) ?_
        refine A_pc (pc' := 337) rfl ?_
        refine A_free (L' := [none, none, none, none]) trivial ?_
        exact b_MD_next_337    hb11 H
  · replace H := H.1 c
    refine A_aload_n 0 d_MD_next_157 rfl rfl ?_
    refine A_iconst d_MD_next_158 rfl ?_
    refine A_putI T_ok d_MD_next_159 f_MD_239 (hb_s hb3 sf_170) fin_f ?_
    refine A_hn (fun h13 eh13 => ?_)
    have hb14 := hb_i hb3 eh13
    replace H := H h13 eh13
    refine A_iconst d_MD_next_162 rfl ?_
    exact A_zret d_MD_next_163 (by decide) rfl (by decide) H
def B_MD_next_124 (G : cx_T) (s : Nat) (t0 : Int) (h : ah_T) (Q : Option av_T → ah_T → Prop) (X2 : Int → ah_T → Prop) : Prop :=
 ∀ x1 : Int, x1 = h.2.1 170 3 → -2147483648 ≤ x1 → x1 ≤ 2147483647 → ((-2147483648) ≤ (x1 + 1) ∧ (x1 + 1) ≤ 2147483647) ∧ ∀ h3 : ah_T, h3 = st_i h 170 3 (x1 + 1) → X2 (t0) h3
theorem b_MD_next_124 {G : cx_T} {s : Nat} {t0 : Int} {h : ah_T} {Q : Option av_T → ah_T → Prop} {X2 : Int → ah_T → Prop} (hX2 : ∀ (v1 : Int) (h : ah_T), hb s h → X2 v1 h → aw G (rm_R 2 0 0) m_MD_next 0 0 2 [some (av_R (some 170)), some (av_I v1), none, none] [] h Q) (hb0 : hb s h) (H : B_MD_next_124 G s t0 h Q X2) : aw G (rm_R 2 0 0) m_MD_next 0 0 124 [some (av_R (some 170)), none, none, none] [av_I t0] h Q := by
  unfold B_MD_next_124 at H
  have hS : isS s := hb0.2.1
  refine A_istore_n 1 (L' := [some (av_R (some 170)), some (av_I t0), none, none]) d_MD_next_124 rfl (Nat.le_of_ble_eq_true rfl) rfl ?_
  refine A_aload_n 0 d_MD_next_125 rfl rfl ?_
  refine A_dupR d_MD_next_126 ?_
  refine A_getIf T_ok d_MD_next_127 f_MD_252 (hb_s hb0 sf_170) (fun x1 ex1 lx1 ux1 => ?_)
  replace H := H x1 ex1 lx1 ux1
  refine A_iconst d_MD_next_130 rfl ?_
  refine A_pc (pc' := 131) rfl ?_
  have g2 := H.1
  replace H := H.2
  refine A_iaddv (z := (x1 + 1)) d_MD_next_131 (w32_to (by omega) (by unfold i32; omega)) ?_
  refine A_putI T_ok d_MD_next_132 f_MD_252 (hb_s hb0 sf_170) fin_f ?_
  refine A_hn (fun h3 eh3 => ?_)
  have hb4 := hb_i hb0 eh3
  replace H := H h3 eh3
  refine A_goto (tgt := 2) d_MD_next_135 (by decide) ?_
  refine A_pc (pc' := 2) rfl ?_
  exact hX2 (t0) h3  hb4 H
def B_MD_next_123 (G : cx_T) (s : Nat) (h : ah_T) (Q : Option av_T → ah_T → Prop) (X2 : Int → ah_T → Prop) : Prop :=
 B_MD_next_124 G s (0) h Q X2
theorem b_MD_next_123 {G : cx_T} {s : Nat} {h : ah_T} {Q : Option av_T → ah_T → Prop} {X2 : Int → ah_T → Prop} (hX2 : ∀ (v1 : Int) (h : ah_T), hb s h → X2 v1 h → aw G (rm_R 2 0 0) m_MD_next 0 0 2 [some (av_R (some 170)), some (av_I v1), none, none] [] h Q) (hb0 : hb s h) (H : B_MD_next_123 G s h Q X2) : aw G (rm_R 2 0 0) m_MD_next 0 0 123 [some (av_R (some 170)), none, none, none] [] h Q := by
  unfold B_MD_next_123 at H
  have hS : isS s := hb0.2.1
  refine A_iconst d_MD_next_123 rfl ?_
  refine A_pc (pc' := 124) rfl ?_
  exact b_MD_next_124  hX2  hb0 H
def B_MD_next_119 (G : cx_T) (s : Nat) (h : ah_T) (Q : Option av_T → ah_T → Prop) (X2 : Int → ah_T → Prop) : Prop :=
 B_MD_next_124 G s (1) h Q X2
theorem b_MD_next_119 {G : cx_T} {s : Nat} {h : ah_T} {Q : Option av_T → ah_T → Prop} {X2 : Int → ah_T → Prop} (hX2 : ∀ (v1 : Int) (h : ah_T), hb s h → X2 v1 h → aw G (rm_R 2 0 0) m_MD_next 0 0 2 [some (av_R (some 170)), some (av_I v1), none, none] [] h Q) (hb0 : hb s h) (H : B_MD_next_119 G s h Q X2) : aw G (rm_R 2 0 0) m_MD_next 0 0 119 [some (av_R (some 170)), none, none, none] [] h Q := by
  unfold B_MD_next_119 at H
  have hS : isS s := hb0.2.1
  refine A_iconst d_MD_next_119 rfl ?_
  refine A_goto (tgt := 124) d_MD_next_120 (by decide) ?_
  refine A_pc (pc' := 124) rfl ?_
  exact b_MD_next_124  hX2  hb0 H
def B_MD_next_87 (G : cx_T) (s : Nat) (v1 : Int) (h : ah_T) (Q : Option av_T → ah_T → Prop) (X2 : Int → ah_T → Prop) : Prop :=
 ∀ x2 : Int, x2 = h.2.1 170 3 → -2147483648 ≤ x2 → x2 ≤ 2147483647 → (0 ≤ x2 ∧ x2 < 2000) ∧ ∀ x3 : Int, x3 = h.2.1 171 (x2).toNat → -2147483648 ≤ x3 → x3 ≤ 2147483647 → ((x3 = 10 → B_MD_next_123 G s h Q X2) ∧ (¬ x3 = 10 → ((v1 = 0 → ((x3 = 37 → B_MD_next_119 G s h Q X2) ∧ (¬ x3 = 37 → B_MD_next_123 G s h Q X2))) ∧ (¬ v1 = 0 → B_MD_next_119 G s h Q X2))))
theorem b_MD_next_87 {G : cx_T} {s : Nat} {v1 : Int} {h : ah_T} {Q : Option av_T → ah_T → Prop} {X2 : Int → ah_T → Prop} (hX2 : ∀ (v1 : Int) (h : ah_T), hb s h → X2 v1 h → aw G (rm_R 2 0 0) m_MD_next 0 0 2 [some (av_R (some 170)), some (av_I v1), none, none] [] h Q) (hb0 : hb s h) (H : B_MD_next_87 G s v1 h Q X2) : aw G (rm_R 2 0 0) m_MD_next 0 0 87 [some (av_R (some 170)), some (av_I v1), none, none] [] h Q := by
  unfold B_MD_next_87 at H
  have hS : isS s := hb0.2.1
  refine A_aload_n 0 d_MD_next_87 rfl rfl ?_
  refine A_getAv (z := some 171) T_ok d_MD_next_88 f_MD_7 (hb_s hb0 sf_170) (hb_m hb0 rfm_0) ?_
  refine A_aload_n 0 d_MD_next_91 rfl rfl ?_
  refine A_getIf T_ok d_MD_next_92 f_MD_252 (hb_s hb0 sf_170) (fun x2 ex2 lx2 ux2 => ?_)
  replace H := H x2 ex2 lx2 ux2
  have g4 := H.1
  replace H := H.2
  refine A_ialoadf d_MD_next_95 (hb_s hb0 sf_171) g4.1 g4.2 (fun x3 ex3 lx3 ux3 => ?_)
  replace H := H x3 ex3 lx3 ux3
  refine A_pc (pc' := 96) rfl ?_
  refine A_bipush d_MD_next_96 rfl ?_
  refine A_icmp_eq (tgt := 123) d_MD_next_98 (by decide) (fun c => ?_) (fun c => ?_)
  · replace H := H.1 c
    refine A_pc (pc' := 123) rfl ?_
    refine A_free (L' := [some (av_R (some 170)), none, none, none]) (And.intro rfl trivial) ?_
    exact b_MD_next_123  hX2  hb0 H
  · replace H := H.2 c
    refine A_iload_n 1 d_MD_next_101 rfl rfl ?_
    refine A_if_ne (tgt := 119) d_MD_next_102 (by decide) (fun c => ?_) (fun c => ?_)
    · replace H := H.2 c
      refine A_pc (pc' := 119) rfl ?_
      refine A_free (L' := [some (av_R (some 170)), none, none, none]) (And.intro rfl trivial) ?_
      exact b_MD_next_119  hX2  hb0 H
    · replace H := H.1 c
      refine A_aload_n 0 d_MD_next_105 rfl rfl ?_
      refine A_getAv (z := some 171) T_ok d_MD_next_106 f_MD_7 (hb_s hb0 sf_170) (hb_m hb0 rfm_0) ?_
      refine A_aload_n 0 d_MD_next_109 rfl rfl ?_
      refine A_getIv (z := x2) T_ok d_MD_next_110 f_MD_252 (hb_s hb0 sf_170) ex2.symm ?_
      refine A_ialoadv (z := x3) d_MD_next_113 (hb_s hb0 sf_171) (by omega) (by omega) ex3.symm ?_
      refine A_pc (pc' := 114) rfl ?_
      refine A_bipush d_MD_next_114 rfl ?_
      refine A_icmp_ne (tgt := 123) d_MD_next_116 (by decide) (fun c => ?_) (fun c => ?_)
      · replace H := H.2 c
        refine A_pc (pc' := 123) rfl ?_
        refine A_free (L' := [some (av_R (some 170)), none, none, none]) (And.intro rfl trivial) ?_
        exact b_MD_next_123  hX2  hb0 H
      · replace H := H.1 c
        refine A_pc (pc' := 119) rfl ?_
        refine A_free (L' := [some (av_R (some 170)), none, none, none]) (And.intro rfl trivial) ?_
        exact b_MD_next_119  hX2  hb0 H
def B_MD_next_2 (G : cx_T) (s : Nat) (v1 : Int) (h : ah_T) (Q : Option av_T → ah_T → Prop) (X2 : Int → ah_T → Prop) : Prop :=
 ∀ x1 : Int, x1 = h.2.1 170 3 → -2147483648 ≤ x1 → x1 ≤ 2147483647 → ∀ x2 : Int, x2 = h.2.1 170 2 → -2147483648 ≤ x2 → x2 ≤ 2147483647 → ((x2 ≤ x1 → B_MD_next_138 G s h Q ) ∧ (¬ x2 ≤ x1 → ((v1 = 0 → (0 ≤ x1 ∧ x1 < 2000) ∧ ∀ x5 : Int, x5 = h.2.1 171 (x1).toNat → -2147483648 ≤ x5 → x5 ≤ 2147483647 → ((x5 = 9 → B_MD_next_87 G s (v1) h Q X2) ∧ (¬ x5 = 9 → ((x5 = 10 → B_MD_next_87 G s (v1) h Q X2) ∧ (¬ x5 = 10 → ((x5 = 13 → B_MD_next_87 G s (v1) h Q X2) ∧ (¬ x5 = 13 → ((x5 = 32 → B_MD_next_87 G s (v1) h Q X2) ∧ (¬ x5 = 32 → ((x5 = 37 → B_MD_next_87 G s (v1) h Q X2) ∧ (¬ x5 = 37 → B_MD_next_138 G s h Q ))))))))))) ∧ (¬ v1 = 0 → B_MD_next_87 G s (v1) h Q X2))))
theorem b_MD_next_2 {G : cx_T} {s : Nat} {v1 : Int} {h : ah_T} {Q : Option av_T → ah_T → Prop} {X2 : Int → ah_T → Prop} (hX2 : ∀ (v1 : Int) (h : ah_T), hb s h → X2 v1 h → aw G (rm_R 2 0 0) m_MD_next 0 0 2 [some (av_R (some 170)), some (av_I v1), none, none] [] h Q) (hb0 : hb s h) (H : B_MD_next_2 G s v1 h Q X2) : aw G (rm_R 2 0 0) m_MD_next 0 0 2 [some (av_R (some 170)), some (av_I v1), none, none] [] h Q := by
  unfold B_MD_next_2 at H
  have hS : isS s := hb0.2.1
  refine A_aload_n 0 d_MD_next_2 rfl rfl ?_
  refine A_getIf T_ok d_MD_next_3 f_MD_252 (hb_s hb0 sf_170) (fun x1 ex1 lx1 ux1 => ?_)
  replace H := H x1 ex1 lx1 ux1
  refine A_aload_n 0 d_MD_next_6 rfl rfl ?_
  refine A_getIf T_ok d_MD_next_7 f_MD_249 (hb_s hb0 sf_170) (fun x2 ex2 lx2 ux2 => ?_)
  replace H := H x2 ex2 lx2 ux2
  refine A_icmp_ge (tgt := 138) d_MD_next_10 (by decide) (fun c => ?_) (fun c => ?_)
  · replace H := H.1 c
    refine A_pc (pc' := 138) rfl ?_
    refine A_free (L' := [some (av_R (some 170)), none, none, none]) (And.intro rfl trivial) ?_
    exact b_MD_next_138    hb0 H
  · replace H := H.2 c
    refine A_iload_n 1 d_MD_next_13 rfl rfl ?_
    refine A_if_ne (tgt := 87) d_MD_next_14 (by decide) (fun c => ?_) (fun c => ?_)
    · replace H := H.2 c
      refine A_pc (pc' := 87) rfl ?_
      exact b_MD_next_87  hX2  hb0 H
    · replace H := H.1 c
      refine A_aload_n 0 d_MD_next_17 rfl rfl ?_
      refine A_getAv (z := some 171) T_ok d_MD_next_18 f_MD_7 (hb_s hb0 sf_170) (hb_m hb0 rfm_0) ?_
      refine A_aload_n 0 d_MD_next_21 rfl rfl ?_
      refine A_getIv (z := x1) T_ok d_MD_next_22 f_MD_252 (hb_s hb0 sf_170) ex1.symm ?_
      have g6 := H.1
      replace H := H.2
      refine A_ialoadf d_MD_next_25 (hb_s hb0 sf_171) g6.1 g6.2 (fun x5 ex5 lx5 ux5 => ?_)
      replace H := H x5 ex5 lx5 ux5
      refine A_pc (pc' := 26) rfl ?_
      refine A_bipush d_MD_next_26 rfl ?_
      refine A_icmp_eq (tgt := 87) d_MD_next_28 (by decide) (fun c => ?_) (fun c => ?_)
      · replace H := H.1 c
        refine A_pc (pc' := 87) rfl ?_
        exact b_MD_next_87  hX2  hb0 H
      · replace H := H.2 c
        refine A_aload_n 0 d_MD_next_31 rfl rfl ?_
        refine A_getAv (z := some 171) T_ok d_MD_next_32 f_MD_7 (hb_s hb0 sf_170) (hb_m hb0 rfm_0) ?_
        refine A_aload_n 0 d_MD_next_35 rfl rfl ?_
        refine A_getIv (z := x1) T_ok d_MD_next_36 f_MD_252 (hb_s hb0 sf_170) ex1.symm ?_
        refine A_ialoadv (z := x5) d_MD_next_39 (hb_s hb0 sf_171) (by omega) (by omega) ex5.symm ?_
        refine A_pc (pc' := 40) rfl ?_
        refine A_bipush d_MD_next_40 rfl ?_
        refine A_icmp_eq (tgt := 87) d_MD_next_42 (by decide) (fun c => ?_) (fun c => ?_)
        · replace H := H.1 c
          refine A_pc (pc' := 87) rfl ?_
          exact b_MD_next_87  hX2  hb0 H
        · replace H := H.2 c
          refine A_aload_n 0 d_MD_next_45 rfl rfl ?_
          refine A_getAv (z := some 171) T_ok d_MD_next_46 f_MD_7 (hb_s hb0 sf_170) (hb_m hb0 rfm_0) ?_
          refine A_aload_n 0 d_MD_next_49 rfl rfl ?_
          refine A_getIv (z := x1) T_ok d_MD_next_50 f_MD_252 (hb_s hb0 sf_170) ex1.symm ?_
          refine A_ialoadv (z := x5) d_MD_next_53 (hb_s hb0 sf_171) (by omega) (by omega) ex5.symm ?_
          refine A_pc (pc' := 54) rfl ?_
          refine A_bipush d_MD_next_54 rfl ?_
          refine A_icmp_eq (tgt := 87) d_MD_next_56 (by decide) (fun c => ?_) (fun c => ?_)
          · replace H := H.1 c
            refine A_pc (pc' := 87) rfl ?_
            exact b_MD_next_87  hX2  hb0 H
          · replace H := H.2 c
            refine A_aload_n 0 d_MD_next_59 rfl rfl ?_
            refine A_getAv (z := some 171) T_ok d_MD_next_60 f_MD_7 (hb_s hb0 sf_170) (hb_m hb0 rfm_0) ?_
            refine A_aload_n 0 d_MD_next_63 rfl rfl ?_
            refine A_getIv (z := x1) T_ok d_MD_next_64 f_MD_252 (hb_s hb0 sf_170) ex1.symm ?_
            refine A_ialoadv (z := x5) d_MD_next_67 (hb_s hb0 sf_171) (by omega) (by omega) ex5.symm ?_
            refine A_pc (pc' := 68) rfl ?_
            refine A_bipush d_MD_next_68 rfl ?_
            refine A_icmp_eq (tgt := 87) d_MD_next_70 (by decide) (fun c => ?_) (fun c => ?_)
            · replace H := H.1 c
              refine A_pc (pc' := 87) rfl ?_
              exact b_MD_next_87  hX2  hb0 H
            · replace H := H.2 c
              refine A_aload_n 0 d_MD_next_73 rfl rfl ?_
              refine A_getAv (z := some 171) T_ok d_MD_next_74 f_MD_7 (hb_s hb0 sf_170) (hb_m hb0 rfm_0) ?_
              refine A_aload_n 0 d_MD_next_77 rfl rfl ?_
              refine A_getIv (z := x1) T_ok d_MD_next_78 f_MD_252 (hb_s hb0 sf_170) ex1.symm ?_
              refine A_ialoadv (z := x5) d_MD_next_81 (hb_s hb0 sf_171) (by omega) (by omega) ex5.symm ?_
              refine A_pc (pc' := 82) rfl ?_
              refine A_bipush d_MD_next_82 rfl ?_
              refine A_icmp_ne (tgt := 138) d_MD_next_84 (by decide) (fun c => ?_) (fun c => ?_)
              · replace H := H.2 c
                refine A_pc (pc' := 138) rfl ?_
                refine A_free (L' := [some (av_R (some 170)), none, none, none]) (And.intro rfl trivial) ?_
                exact b_MD_next_138    hb0 H
              · replace H := H.1 c
                refine A_pc (pc' := 87) rfl ?_
                exact b_MD_next_87  hX2  hb0 H
theorem lp_MD_next_2 {G : cx_T} {s : Nat} {Q : Option av_T → ah_T → Prop} (I : Int → ah_T → Prop) (μ : Int → ah_T → Nat) (hI : ∀ (v1 : Int) (h : ah_T), hb s h → I v1 h → B_MD_next_2 G s v1 h Q (fun v1' h' => I v1' h' ∧ μ v1' h' < μ v1 h)) : ∀ (v1 : Int) (h : ah_T), hb s h → I v1 h → aw G (rm_R 2 0 0) m_MD_next 0 0 2 [some (av_R (some 170)), some (av_I v1), none, none] [] h Q := by
  have key : ∀ (n : Nat) (v1 : Int) (h : ah_T), hb s h → I v1 h → μ v1 h < n → aw G (rm_R 2 0 0) m_MD_next 0 0 2 [some (av_R (some 170)), some (av_I v1), none, none] [] h Q := by
    intro n
    induction n with
    | zero => intro v1 h  hb0 hi hm; omega
    | succ n ih => intro v1 h  hb0 hi hm; exact b_MD_next_2  (fun v1' h'  hb' hx => ih v1' h'  hb' hx.1 (by have := hx.2; omega))  hb0 (hI v1 h  hb0 hi)
  exact fun v1 h  hb0 hi => key _ v1 h  hb0 hi (Nat.lt_succ_self _)
def B_MD_next_0 (G : cx_T) (s : Nat) (h : ah_T) (Q : Option av_T → ah_T → Prop) (X2 : Int → ah_T → Prop) : Prop :=
 X2 (0) h
theorem b_MD_next_0 {G : cx_T} {s : Nat} {h : ah_T} {Q : Option av_T → ah_T → Prop} {X2 : Int → ah_T → Prop} (hX2 : ∀ (v1 : Int) (h : ah_T), hb s h → X2 v1 h → aw G (rm_R 2 0 0) m_MD_next 0 0 2 [some (av_R (some 170)), some (av_I v1), none, none] [] h Q) (hb0 : hb s h) (H : B_MD_next_0 G s h Q X2) : aw G (rm_R 2 0 0) m_MD_next 0 0 0 [some (av_R (some 170)), none, none, none] [] h Q := by
  unfold B_MD_next_0 at H
  have hS : isS s := hb0.2.1
  refine A_iconst d_MD_next_0 rfl ?_
  refine A_istore_n 1 (L' := [some (av_R (some 170)), some (av_I 0), none, none]) d_MD_next_1 rfl (Nat.le_of_ble_eq_true rfl) rfl ?_
  refine A_pc (pc' := 2) rfl ?_
  exact hX2 (0) h  hb0 H
theorem c_MD_next {G : cx_T} {s : Nat} {h : ah_T} {Q : Option av_T → ah_T → Prop} {X2 : Int → ah_T → Prop} (hX2 : ∀ (v1 : Int) (h : ah_T), hb s h → X2 v1 h → aw G (rm_R 2 0 0) m_MD_next 0 0 2 [some (av_R (some 170)), some (av_I v1), none, none] [] h Q) (hb0 : hb s h) (H : B_MD_next_0 G s h Q X2) : con G 2 0 0 m_MD_next [av_R (some 170)] h Q := by
  have hS : isS s := hb0.2.1
  refine con_of (L := [some (av_R (some 170)), none, none, none]) (by decide +kernel) (Nat.le_of_ble_eq_true rfl) rfl ?_
  exact b_MD_next_0  hX2 hb0 (H )
def B_MD_isSign_21 (G : cx_T) (s : Nat) (a1 : Int) (t0 : Int) (h : ah_T) (Q : Option av_T → ah_T → Prop) : Prop :=
 (t0 = 0 ∨ t0 = 1) ∧ Q (some (av_I t0)) h
theorem b_MD_isSign_21 {G : cx_T} {s : Nat} {a1 : Int} {t0 : Int} {h : ah_T} {Q : Option av_T → ah_T → Prop} (hb0 : hb s h) (H : B_MD_isSign_21 G s a1 t0 h Q ) : aw G (rm_R 0 0 0) m_MD_isSign 0 0 21 [none, none] [av_I t0] h Q := by
  unfold B_MD_isSign_21 at H
  have hS : isS s := hb0.2.1
  exact A_zret d_MD_isSign_21 (by decide) rfl H.1 H.2
def B_MD_isSign_20 (G : cx_T) (s : Nat) (a1 : Int) (h : ah_T) (Q : Option av_T → ah_T → Prop) : Prop :=
 B_MD_isSign_21 G s a1 (0) h Q 
theorem b_MD_isSign_20 {G : cx_T} {s : Nat} {a1 : Int} {h : ah_T} {Q : Option av_T → ah_T → Prop} (hb0 : hb s h) (H : B_MD_isSign_20 G s a1 h Q ) : aw G (rm_R 0 0 0) m_MD_isSign 0 0 20 [none, none] [] h Q := by
  unfold B_MD_isSign_20 at H
  have hS : isS s := hb0.2.1
  refine A_iconst d_MD_isSign_20 rfl ?_
  refine A_pc (pc' := 21) rfl ?_
  exact b_MD_isSign_21    hb0 H
def B_MD_isSign_0 (G : cx_T) (s : Nat) (a1 : Int) (h : ah_T) (Q : Option av_T → ah_T → Prop) : Prop :=
 ∀ x1 : Int, x1 = h.2.1 170 4 → -2147483648 ≤ x1 → x1 ≤ 2147483647 → ((x1 = 5 → ∀ x2 : Int, x2 = h.2.1 170 6 → -2147483648 ≤ x2 → x2 ≤ 2147483647 → ((x2 = a1 → B_MD_isSign_21 G s a1 (1) h Q ) ∧ (¬ x2 = a1 → B_MD_isSign_20 G s a1 h Q ))) ∧ (¬ x1 = 5 → B_MD_isSign_20 G s a1 h Q ))
theorem b_MD_isSign_0 {G : cx_T} {s : Nat} {a1 : Int} {h : ah_T} {Q : Option av_T → ah_T → Prop} (hb0 : hb s h) (H : B_MD_isSign_0 G s a1 h Q ) : aw G (rm_R 0 0 0) m_MD_isSign 0 0 0 [some (av_R (some 170)), some (av_I a1)] [] h Q := by
  unfold B_MD_isSign_0 at H
  have hS : isS s := hb0.2.1
  refine A_aload_n 0 d_MD_isSign_0 rfl rfl ?_
  refine A_getIf T_ok d_MD_isSign_1 f_MD_239 (hb_s hb0 sf_170) (fun x1 ex1 lx1 ux1 => ?_)
  replace H := H x1 ex1 lx1 ux1
  refine A_iconst d_MD_isSign_4 rfl ?_
  refine A_icmp_ne (tgt := 20) d_MD_isSign_5 (by decide) (fun c => ?_) (fun c => ?_)
  · replace H := H.2 c
    refine A_pc (pc' := 20) rfl ?_
    refine A_free (L' := [none, none]) trivial ?_
    exact b_MD_isSign_20    hb0 H
  · replace H := H.1 c
    refine A_aload_n 0 d_MD_isSign_8 rfl rfl ?_
    refine A_getIf T_ok d_MD_isSign_9 f_MD_271 (hb_s hb0 sf_170) (fun x2 ex2 lx2 ux2 => ?_)
    replace H := H x2 ex2 lx2 ux2
    refine A_iload_n 1 d_MD_isSign_12 rfl rfl ?_
    refine A_icmp_ne (tgt := 20) d_MD_isSign_13 (by decide) (fun c => ?_) (fun c => ?_)
    · replace H := H.2 c
      refine A_pc (pc' := 20) rfl ?_
      refine A_free (L' := [none, none]) trivial ?_
      exact b_MD_isSign_20    hb0 H
    · replace H := H.1 c
      refine A_iconst d_MD_isSign_16 rfl ?_
      refine A_goto (tgt := 21) d_MD_isSign_17 (by decide) ?_
      refine A_pc (pc' := 21) rfl ?_
      refine A_free (L' := [none, none]) trivial ?_
      exact b_MD_isSign_21    hb0 H
theorem c_MD_isSign {G : cx_T} {s : Nat} {a1 : Int} {h : ah_T} {Q : Option av_T → ah_T → Prop} (hb0 : hb s h) (H : i32 a1 → B_MD_isSign_0 G s a1 h Q ) : con G 0 0 0 m_MD_isSign [av_R (some 170), av_I a1] h Q := by
  have hS : isS s := hb0.2.1
  refine con_of (L := [some (av_R (some 170)), some (av_I a1)]) (by decide +kernel) (Nat.le_of_ble_eq_true rfl) rfl ?_
  refine A_locI 1 rfl (fun ra1 => ?_)
  exact b_MD_isSign_0   hb0 (H ra1)
def B_MD_isWord_21 (G : cx_T) (s : Nat) (a1 : Int) (t0 : Int) (h : ah_T) (Q : Option av_T → ah_T → Prop) : Prop :=
 (t0 = 0 ∨ t0 = 1) ∧ Q (some (av_I t0)) h
theorem b_MD_isWord_21 {G : cx_T} {s : Nat} {a1 : Int} {t0 : Int} {h : ah_T} {Q : Option av_T → ah_T → Prop} (hb0 : hb s h) (H : B_MD_isWord_21 G s a1 t0 h Q ) : aw G (rm_R 0 0 0) m_MD_isWord 0 0 21 [none, none] [av_I t0] h Q := by
  unfold B_MD_isWord_21 at H
  have hS : isS s := hb0.2.1
  exact A_zret d_MD_isWord_21 (by decide) rfl H.1 H.2
def B_MD_isWord_20 (G : cx_T) (s : Nat) (a1 : Int) (h : ah_T) (Q : Option av_T → ah_T → Prop) : Prop :=
 B_MD_isWord_21 G s a1 (0) h Q 
theorem b_MD_isWord_20 {G : cx_T} {s : Nat} {a1 : Int} {h : ah_T} {Q : Option av_T → ah_T → Prop} (hb0 : hb s h) (H : B_MD_isWord_20 G s a1 h Q ) : aw G (rm_R 0 0 0) m_MD_isWord 0 0 20 [none, none] [] h Q := by
  unfold B_MD_isWord_20 at H
  have hS : isS s := hb0.2.1
  refine A_iconst d_MD_isWord_20 rfl ?_
  refine A_pc (pc' := 21) rfl ?_
  exact b_MD_isWord_21    hb0 H
def B_MD_isWord_0 (G : cx_T) (s : Nat) (a1 : Int) (h : ah_T) (Q : Option av_T → ah_T → Prop) : Prop :=
 ∀ x1 : Int, x1 = h.2.1 170 4 → -2147483648 ≤ x1 → x1 ≤ 2147483647 → ((x1 = 4 → ∀ x2 : Int, x2 = h.2.1 170 6 → -2147483648 ≤ x2 → x2 ≤ 2147483647 → ((x2 = a1 → B_MD_isWord_21 G s a1 (1) h Q ) ∧ (¬ x2 = a1 → B_MD_isWord_20 G s a1 h Q ))) ∧ (¬ x1 = 4 → B_MD_isWord_20 G s a1 h Q ))
theorem b_MD_isWord_0 {G : cx_T} {s : Nat} {a1 : Int} {h : ah_T} {Q : Option av_T → ah_T → Prop} (hb0 : hb s h) (H : B_MD_isWord_0 G s a1 h Q ) : aw G (rm_R 0 0 0) m_MD_isWord 0 0 0 [some (av_R (some 170)), some (av_I a1)] [] h Q := by
  unfold B_MD_isWord_0 at H
  have hS : isS s := hb0.2.1
  refine A_aload_n 0 d_MD_isWord_0 rfl rfl ?_
  refine A_getIf T_ok d_MD_isWord_1 f_MD_239 (hb_s hb0 sf_170) (fun x1 ex1 lx1 ux1 => ?_)
  replace H := H x1 ex1 lx1 ux1
  refine A_iconst d_MD_isWord_4 rfl ?_
  refine A_icmp_ne (tgt := 20) d_MD_isWord_5 (by decide) (fun c => ?_) (fun c => ?_)
  · replace H := H.2 c
    refine A_pc (pc' := 20) rfl ?_
    refine A_free (L' := [none, none]) trivial ?_
    exact b_MD_isWord_20    hb0 H
  · replace H := H.1 c
    refine A_aload_n 0 d_MD_isWord_8 rfl rfl ?_
    refine A_getIf T_ok d_MD_isWord_9 f_MD_271 (hb_s hb0 sf_170) (fun x2 ex2 lx2 ux2 => ?_)
    replace H := H x2 ex2 lx2 ux2
    refine A_iload_n 1 d_MD_isWord_12 rfl rfl ?_
    refine A_icmp_ne (tgt := 20) d_MD_isWord_13 (by decide) (fun c => ?_) (fun c => ?_)
    · replace H := H.2 c
      refine A_pc (pc' := 20) rfl ?_
      refine A_free (L' := [none, none]) trivial ?_
      exact b_MD_isWord_20    hb0 H
    · replace H := H.1 c
      refine A_iconst d_MD_isWord_16 rfl ?_
      refine A_goto (tgt := 21) d_MD_isWord_17 (by decide) ?_
      refine A_pc (pc' := 21) rfl ?_
      refine A_free (L' := [none, none]) trivial ?_
      exact b_MD_isWord_21    hb0 H
theorem c_MD_isWord {G : cx_T} {s : Nat} {a1 : Int} {h : ah_T} {Q : Option av_T → ah_T → Prop} (hb0 : hb s h) (H : i32 a1 → B_MD_isWord_0 G s a1 h Q ) : con G 0 0 0 m_MD_isWord [av_R (some 170), av_I a1] h Q := by
  have hS : isS s := hb0.2.1
  refine con_of (L := [some (av_R (some 170)), some (av_I a1)]) (by decide +kernel) (Nat.le_of_ble_eq_true rfl) rfl ?_
  refine A_locI 1 rfl (fun ra1 => ?_)
  exact b_MD_isWord_0   hb0 (H ra1)
def B_MD_want_19 (G : cx_T) (s : Nat) (a1 : Int) (t0 : Int) (h : ah_T) (Q : Option av_T → ah_T → Prop) : Prop :=
 (t0 = 0 ∨ t0 = 1) ∧ Q (some (av_I t0)) h
theorem b_MD_want_19 {G : cx_T} {s : Nat} {a1 : Int} {t0 : Int} {h : ah_T} {Q : Option av_T → ah_T → Prop} (hb0 : hb s h) (H : B_MD_want_19 G s a1 t0 h Q ) : aw G (rm_R 3 0 0) m_MD_want 0 0 19 [none, none] [av_I t0] h Q := by
  unfold B_MD_want_19 at H
  have hS : isS s := hb0.2.1
  exact A_zret d_MD_want_19 (by decide) rfl H.1 H.2
def B_MD_want_0 (G : cx_T) (s : Nat) (a1 : Int) (h : ah_T) (Q : Option av_T → ah_T → Prop) : Prop :=
 con G 0 0 0 m_MD_isSign [av_R (some 170), av_I a1] h (fun r h1 => ∃ z3 : Int, r = some (av_I z3) ∧ hb s h1 ∧ ((z3 = 0 → con G 1 0 0 m_MD_cant [av_R (some 170)] h1 (fun r h4 => ∃ z6 : Int, r = some (av_I z6) ∧ hb s h4 ∧ B_MD_want_19 G s a1 (z6) h4 Q )) ∧ (¬ z3 = 0 → con G 2 0 0 m_MD_next [av_R (some 170)] h1 (fun r h7 => ∃ z9 : Int, r = some (av_I z9) ∧ hb s h7 ∧ B_MD_want_19 G s a1 (z9) h7 Q ))))
theorem b_MD_want_0 {G : cx_T} {s : Nat} {a1 : Int} {h : ah_T} {Q : Option av_T → ah_T → Prop} (hb0 : hb s h) (H : B_MD_want_0 G s a1 h Q ) : aw G (rm_R 3 0 0) m_MD_want 0 0 0 [some (av_R (some 170)), some (av_I a1)] [] h Q := by
  unfold B_MD_want_0 at H
  have hS : isS s := hb0.2.1
  refine A_aload_n 0 d_MD_want_0 rfl rfl ?_
  refine A_iload_n 1 d_MD_want_1 rfl rfl ?_
  refine A_callV1 m_MD_isSign T_ok d_MD_want_2 l_MD_306 k_MD_isSign (hb_s hb0 sf_170) rfl (by decide +kernel) (by decide) (Nat.le_of_ble_eq_true rfl) H (fun r h1 hq => ?_)
  clear H
  obtain ⟨z3, rfl, hb2, H⟩ := hq
  refine A_if_eq (tgt := 15) d_MD_want_5 (by decide) (fun c => ?_) (fun c => ?_)
  · replace H := H.1 c
    refine A_aload_n 0 d_MD_want_15 rfl rfl ?_
    refine A_callV0 m_MD_cant T_ok d_MD_want_16 l_MD_313 k_MD_cant (hb_s hb2 sf_170) rfl (by decide +kernel) (by decide) (Nat.le_of_ble_eq_true rfl) H (fun r h4 hq => ?_)
    clear H
    obtain ⟨z6, rfl, hb5, H⟩ := hq
    refine A_pc (pc' := 19) rfl ?_
    refine A_free (L' := [none, none]) trivial ?_
    exact b_MD_want_19    hb5 H
  · replace H := H.2 c
    refine A_aload_n 0 d_MD_want_8 rfl rfl ?_
    refine A_callV0 m_MD_next T_ok d_MD_want_9 l_MD_309 k_MD_next (hb_s hb2 sf_170) rfl (by decide +kernel) (by decide) (Nat.le_of_ble_eq_true rfl) H (fun r h7 hq => ?_)
    clear H
    obtain ⟨z9, rfl, hb8, H⟩ := hq
    refine A_goto (tgt := 19) d_MD_want_12 (by decide) ?_
    refine A_pc (pc' := 19) rfl ?_
    refine A_free (L' := [none, none]) trivial ?_
    exact b_MD_want_19    hb8 H
theorem c_MD_want {G : cx_T} {s : Nat} {a1 : Int} {h : ah_T} {Q : Option av_T → ah_T → Prop} (hb0 : hb s h) (H : i32 a1 → B_MD_want_0 G s a1 h Q ) : con G 3 0 0 m_MD_want [av_R (some 170), av_I a1] h Q := by
  have hS : isS s := hb0.2.1
  refine con_of (L := [some (av_R (some 170)), some (av_I a1)]) (by decide +kernel) (Nat.le_of_ble_eq_true rfl) rfl ?_
  refine A_locI 1 rfl (fun ra1 => ?_)
  exact b_MD_want_0   hb0 (H ra1)
def B_MD_isPower_23 (G : cx_T) (s : Nat) (a1 : Int) (a2 : Int) (t0 : Int) (h : ah_T) (Q : Option av_T → ah_T → Prop) : Prop :=
 (t0 = 0 ∨ t0 = 1) ∧ Q (some (av_I t0)) h
theorem b_MD_isPower_23 {G : cx_T} {s : Nat} {a1 : Int} {a2 : Int} {t0 : Int} {h : ah_T} {Q : Option av_T → ah_T → Prop} (hb0 : hb s h) (H : B_MD_isPower_23 G s a1 a2 t0 h Q ) : aw G (rm_R 0 0 0) m_MD_isPower 0 0 23 [none, none, none] [av_I t0] h Q := by
  unfold B_MD_isPower_23 at H
  have hS : isS s := hb0.2.1
  exact A_zret d_MD_isPower_23 (by decide) rfl H.1 H.2
def B_MD_isPower_22 (G : cx_T) (s : Nat) (a1 : Int) (a2 : Int) (h : ah_T) (Q : Option av_T → ah_T → Prop) : Prop :=
 B_MD_isPower_23 G s a1 a2 (0) h Q 
theorem b_MD_isPower_22 {G : cx_T} {s : Nat} {a1 : Int} {a2 : Int} {h : ah_T} {Q : Option av_T → ah_T → Prop} (hb0 : hb s h) (H : B_MD_isPower_22 G s a1 a2 h Q ) : aw G (rm_R 0 0 0) m_MD_isPower 0 0 22 [none, none, none] [] h Q := by
  unfold B_MD_isPower_22 at H
  have hS : isS s := hb0.2.1
  refine A_iconst d_MD_isPower_22 rfl ?_
  refine A_pc (pc' := 23) rfl ?_
  exact b_MD_isPower_23    hb0 H
def B_MD_isPower_0 (G : cx_T) (s : Nat) (a1 : Int) (a2 : Int) (h : ah_T) (Q : Option av_T → ah_T → Prop) : Prop :=
 ((a1 < 1 → B_MD_isPower_22 G s a1 a2 h Q ) ∧ (¬ a1 < 1 → ((a2 < a1 → B_MD_isPower_22 G s a1 a2 h Q ) ∧ (¬ a2 < a1 → ((-2147483648) ≤ (a1 - 1) ∧ (a1 - 1) ≤ 2147483647) ∧ ∀ x2 : Int, x2 = ((Int32.ofInt a1) &&& (Int32.ofInt (a1 - 1))).toInt → (-2147483648) ≤ x2 → x2 ≤ 2147483647 → ((x2 = 0 → B_MD_isPower_23 G s a1 a2 (1) h Q ) ∧ (¬ x2 = 0 → B_MD_isPower_22 G s a1 a2 h Q ))))))
theorem b_MD_isPower_0 {G : cx_T} {s : Nat} {a1 : Int} {a2 : Int} {h : ah_T} {Q : Option av_T → ah_T → Prop} (hb0 : hb s h) (H : B_MD_isPower_0 G s a1 a2 h Q ) : aw G (rm_R 0 0 0) m_MD_isPower 0 0 0 [some (av_R (some 170)), some (av_I a1), some (av_I a2)] [] h Q := by
  unfold B_MD_isPower_0 at H
  have hS : isS s := hb0.2.1
  refine A_iload_n 1 d_MD_isPower_0 rfl rfl ?_
  refine A_iconst d_MD_isPower_1 rfl ?_
  refine A_icmp_lt (tgt := 22) d_MD_isPower_2 (by decide) (fun c => ?_) (fun c => ?_)
  · replace H := H.1 c
    refine A_pc (pc' := 22) rfl ?_
    refine A_free (L' := [none, none, none]) trivial ?_
    exact b_MD_isPower_22    hb0 H
  · replace H := H.2 c
    refine A_iload_n 1 d_MD_isPower_5 rfl rfl ?_
    refine A_iload_n 2 d_MD_isPower_6 rfl rfl ?_
    refine A_icmp_gt (tgt := 22) d_MD_isPower_7 (by decide) (fun c => ?_) (fun c => ?_)
    · replace H := H.1 c
      refine A_pc (pc' := 22) rfl ?_
      refine A_free (L' := [none, none, none]) trivial ?_
      exact b_MD_isPower_22    hb0 H
    · replace H := H.2 c
      refine A_iload_n 1 d_MD_isPower_10 rfl rfl ?_
      refine A_iload_n 1 d_MD_isPower_11 rfl rfl ?_
      refine A_iconst d_MD_isPower_12 rfl ?_
      have g1 := H.1
      replace H := H.2
      refine A_isubv (z := (a1 - 1)) d_MD_isPower_13 (w32_to (by omega) (by unfold i32; omega)) ?_
      refine A_iand d_MD_isPower_14 ?_
      refine A_nrI (fun x2 ex2 lx2 ux2 => ?_)
      replace H := H x2 ex2 lx2 ux2
      refine A_pc (pc' := 15) rfl ?_
      refine A_if_ne (tgt := 22) d_MD_isPower_15 (by decide) (fun c => ?_) (fun c => ?_)
      · replace H := H.2 c
        refine A_pc (pc' := 22) rfl ?_
        refine A_free (L' := [none, none, none]) trivial ?_
        exact b_MD_isPower_22    hb0 H
      · replace H := H.1 c
        refine A_iconst d_MD_isPower_18 rfl ?_
        refine A_goto (tgt := 23) d_MD_isPower_19 (by decide) ?_
        refine A_pc (pc' := 23) rfl ?_
        refine A_free (L' := [none, none, none]) trivial ?_
        exact b_MD_isPower_23    hb0 H
theorem c_MD_isPower {G : cx_T} {s : Nat} {a1 : Int} {a2 : Int} {h : ah_T} {Q : Option av_T → ah_T → Prop} (hb0 : hb s h) (H : i32 a1 → i32 a2 → B_MD_isPower_0 G s a1 a2 h Q ) : con G 0 0 0 m_MD_isPower [av_R (some 170), av_I a1, av_I a2] h Q := by
  have hS : isS s := hb0.2.1
  refine con_of (L := [some (av_R (some 170)), some (av_I a1), some (av_I a2)]) (by decide +kernel) (Nat.le_of_ble_eq_true rfl) rfl ?_
  refine A_locI 1 rfl (fun ra1 => ?_)
  refine A_locI 2 rfl (fun ra2 => ?_)
  exact b_MD_isPower_0   hb0 (H ra1 ra2)
def B_MD_timeItem_57 (G : cx_T) (s : Nat) (h : ah_T) (Q : Option av_T → ah_T → Prop) : Prop :=
 ∀ x1 : Int, x1 = h.2.1 170 5 → -2147483648 ≤ x1 → x1 ≤ 2147483647 → con G 0 0 0 m_MD_wrong [av_R (some 170), av_I 5, av_I x1] h (fun r h2 => ∃ z4 : Int, r = some (av_I z4) ∧ hb s h2 ∧ (z4 = 0 ∨ z4 = 1) ∧ Q (some (av_I z4)) h2)
theorem b_MD_timeItem_57 {G : cx_T} {s : Nat} {h : ah_T} {Q : Option av_T → ah_T → Prop} (hb0 : hb s h) (H : B_MD_timeItem_57 G s h Q ) : aw G (rm_R 4 0 0) m_MD_timeItem 0 0 57 [some (av_R (some 170))] [] h Q := by
  unfold B_MD_timeItem_57 at H
  have hS : isS s := hb0.2.1
  refine A_aload_n 0 d_MD_timeItem_57 rfl rfl ?_
  refine A_iconst d_MD_timeItem_58 rfl ?_
  refine A_aload_n 0 d_MD_timeItem_59 rfl rfl ?_
  refine A_getIf T_ok d_MD_timeItem_60 f_MD_242 (hb_s hb0 sf_170) (fun x1 ex1 lx1 ux1 => ?_)
  replace H := H x1 ex1 lx1 ux1
  refine A_callV2 m_MD_wrong T_ok d_MD_timeItem_63 l_MD_245 k_MD_wrong (hb_s hb0 sf_170) rfl (by decide +kernel) (by decide) (Nat.le_of_ble_eq_true rfl) H (fun r h2 hq => ?_)
  clear H
  obtain ⟨z4, rfl, hb3, H⟩ := hq
  exact A_zret d_MD_timeItem_66 (by decide) rfl H.1 H.2
def B_MD_timeItem_0 (G : cx_T) (s : Nat) (h : ah_T) (Q : Option av_T → ah_T → Prop) : Prop :=
 ∀ x1 : Int, x1 = h.2.1 170 59 → (x1 = 0 ∨ x1 = 1) → ((x1 = 0 → ∀ h2 : ah_T, h2 = st_i h 170 59 1 → con G 2 0 0 m_MD_next [av_R (some 170)] h2 (fun r h4 => ∃ z6 : Int, r = some (av_I z6) ∧ hb s h4 ∧ ∀ x7 : Int, x7 = h4.2.1 170 4 → -2147483648 ≤ x7 → x7 ≤ 2147483647 → ((x7 = 3 → ∀ x8 : Int, x8 = h4.2.1 170 6 → -2147483648 ≤ x8 → x8 ≤ 2147483647 → ((x8 < 1 → B_MD_timeItem_57 G s h4 Q ) ∧ (¬ x8 < 1 → ((x8 ≤ 32 → ∀ h12 : ah_T, h12 = st_i h4 173 1 x8 → con G 2 0 0 m_MD_next [av_R (some 170)] h12 (fun r h14 => ∃ z16 : Int, r = some (av_I z16) ∧ hb s h14 ∧ con G 3 0 0 m_MD_want [av_R (some 170), av_I 47] h14 (fun r h17 => ∃ z19 : Int, r = some (av_I z19) ∧ hb s h17 ∧ ((z19 = 0 → Q (some (av_I 0)) h17) ∧ (¬ z19 = 0 → ∀ x20 : Int, x20 = h17.2.1 170 4 → -2147483648 ≤ x20 → x20 ≤ 2147483647 → ((x20 = 3 → ∀ x21 : Int, x21 = h17.2.1 170 6 → -2147483648 ≤ x21 → x21 ≤ 2147483647 → con G 0 0 0 m_MD_isPower [av_R (some 170), av_I x21, av_I 32] h17 (fun r h22 => ∃ z24 : Int, r = some (av_I z24) ∧ hb s h22 ∧ ((z24 = 0 → ∀ x35 : Int, x35 = h22.2.1 170 5 → -2147483648 ≤ x35 → x35 ≤ 2147483647 → con G 0 0 0 m_MD_wrong [av_R (some 170), av_I 5, av_I x35] h22 (fun r h36 => ∃ z38 : Int, r = some (av_I z38) ∧ hb s h36 ∧ (z38 = 0 ∨ z38 = 1) ∧ Q (some (av_I z38)) h36)) ∧ (¬ z24 = 0 → ∀ x26 : Int, x26 = h22.2.1 170 6 → -2147483648 ≤ x26 → x26 ≤ 2147483647 → ∀ h27 : ah_T, h27 = st_i h22 174 1 x26 → con G 2 0 0 m_MD_next [av_R (some 170)] h27 (fun r h29 => ∃ z31 : Int, r = some (av_I z31) ∧ hb s h29 ∧ con G 3 0 0 m_MD_want [av_R (some 170), av_I 59] h29 (fun r h32 => ∃ z34 : Int, r = some (av_I z34) ∧ hb s h32 ∧ (z34 = 0 ∨ z34 = 1) ∧ Q (some (av_I z34)) h32)))))) ∧ (¬ x20 = 3 → con G 1 0 0 m_MD_cant [av_R (some 170)] h17 (fun r h39 => ∃ z41 : Int, r = some (av_I z41) ∧ hb s h39 ∧ (z41 = 0 ∨ z41 = 1) ∧ Q (some (av_I z41)) h39)))))))) ∧ (¬ x8 ≤ 32 → B_MD_timeItem_57 G s h4 Q ))))) ∧ (¬ x7 = 3 → con G 1 0 0 m_MD_cant [av_R (some 170)] h4 (fun r h42 => ∃ z44 : Int, r = some (av_I z44) ∧ hb s h42 ∧ (z44 = 0 ∨ z44 = 1) ∧ Q (some (av_I z44)) h42))))) ∧ (¬ x1 = 0 → ∀ x45 : Int, x45 = h.2.1 170 5 → -2147483648 ≤ x45 → x45 ≤ 2147483647 → con G 0 0 0 m_MD_wrong [av_R (some 170), av_I 4, av_I x45] h (fun r h46 => ∃ z48 : Int, r = some (av_I z48) ∧ hb s h46 ∧ (z48 = 0 ∨ z48 = 1) ∧ Q (some (av_I z48)) h46)))
theorem b_MD_timeItem_0 {G : cx_T} {s : Nat} {h : ah_T} {Q : Option av_T → ah_T → Prop} (hb0 : hb s h) (H : B_MD_timeItem_0 G s h Q ) : aw G (rm_R 4 0 0) m_MD_timeItem 0 0 0 [some (av_R (some 170))] [] h Q := by
  unfold B_MD_timeItem_0 at H
  have hS : isS s := hb0.2.1
  refine A_aload_n 0 d_MD_timeItem_0 rfl rfl ?_
  refine A_getZn T_ok d_MD_timeItem_1 f_MD_316 (hb_s hb0 sf_170) (fun x1 ex1 bx1 => ?_)
  replace H := H x1 ex1 bx1
  refine A_if_eq (tgt := 17) d_MD_timeItem_4 (by decide) (fun c => ?_) (fun c => ?_)
  · replace H := H.1 c
    refine A_aload_n 0 d_MD_timeItem_17 rfl rfl ?_
    refine A_iconst d_MD_timeItem_18 rfl ?_
    refine A_putZ T_ok d_MD_timeItem_19 f_MD_316 (hb_s hb0 sf_170) fin_f (by decide) ?_
    refine A_hn (fun h2 eh2 => ?_)
    have hb3 := hb_i hb0 eh2
    replace H := H h2 eh2
    refine A_aload_n 0 d_MD_timeItem_22 rfl rfl ?_
    refine A_callV0 m_MD_next T_ok d_MD_timeItem_23 l_MD_309 k_MD_next (hb_s hb3 sf_170) rfl (by decide +kernel) (by decide) (Nat.le_of_ble_eq_true rfl) H (fun r h4 hq => ?_)
    clear H
    obtain ⟨z6, rfl, hb5, H⟩ := hq
    refine A_popI d_MD_timeItem_26 ?_
    refine A_aload_n 0 d_MD_timeItem_27 rfl rfl ?_
    refine A_getIf T_ok d_MD_timeItem_28 f_MD_239 (hb_s hb5 sf_170) (fun x7 ex7 lx7 ux7 => ?_)
    replace H := H x7 ex7 lx7 ux7
    refine A_iconst d_MD_timeItem_31 rfl ?_
    refine A_icmp_eq (tgt := 40) d_MD_timeItem_32 (by decide) (fun c => ?_) (fun c => ?_)
    · replace H := H.1 c
      refine A_aload_n 0 d_MD_timeItem_40 rfl rfl ?_
      refine A_getIf T_ok d_MD_timeItem_41 f_MD_271 (hb_s hb5 sf_170) (fun x8 ex8 lx8 ux8 => ?_)
      replace H := H x8 ex8 lx8 ux8
      refine A_iconst d_MD_timeItem_44 rfl ?_
      refine A_icmp_lt (tgt := 57) d_MD_timeItem_45 (by decide) (fun c => ?_) (fun c => ?_)
      · replace H := H.1 c
        refine A_pc (pc' := 57) rfl ?_
        exact b_MD_timeItem_57    hb5 H
      · replace H := H.2 c
        refine A_aload_n 0 d_MD_timeItem_48 rfl rfl ?_
        refine A_getIv (z := x8) T_ok d_MD_timeItem_49 f_MD_271 (hb_s hb5 sf_170) ex8.symm ?_
        refine A_bipush d_MD_timeItem_52 rfl ?_
        refine A_icmp_le (tgt := 67) d_MD_timeItem_54 (by decide) (fun c => ?_) (fun c => ?_)
        · replace H := H.1 c
          refine A_aload_n 0 d_MD_timeItem_67 rfl rfl ?_
          refine A_getAv (z := some 173) T_ok d_MD_timeItem_68 f_MD_20 (hb_s hb5 sf_170) (hb_m hb5 rfm_15) ?_
          refine A_iconst d_MD_timeItem_71 rfl ?_
          refine A_aload_n 0 d_MD_timeItem_72 rfl rfl ?_
          refine A_getIv (z := x8) T_ok d_MD_timeItem_73 f_MD_271 (hb_s hb5 sf_170) ex8.symm ?_
          refine A_pc (pc' := 76) rfl ?_
          refine A_iastoreN d_MD_timeItem_76 (hb_s hb5 sf_173) (by decide) (by decide) ?_
          refine A_hn (fun h12 eh12 => ?_)
          have hb13 := hb_i hb5 eh12
          replace H := H h12 eh12
          refine A_aload_n 0 d_MD_timeItem_77 rfl rfl ?_
          refine A_callV0 m_MD_next T_ok d_MD_timeItem_78 l_MD_309 k_MD_next (hb_s hb13 sf_170) rfl (by decide +kernel) (by decide) (Nat.le_of_ble_eq_true rfl) H (fun r h14 hq => ?_)
          clear H
          obtain ⟨z16, rfl, hb15, H⟩ := hq
          refine A_popI d_MD_timeItem_81 ?_
          refine A_aload_n 0 d_MD_timeItem_82 rfl rfl ?_
          refine A_bipush d_MD_timeItem_83 rfl ?_
          refine A_callV1 m_MD_want T_ok d_MD_timeItem_85 l_MD_344 k_MD_want (hb_s hb15 sf_170) rfl (by decide +kernel) (by decide) (Nat.le_of_ble_eq_true rfl) H (fun r h17 hq => ?_)
          clear H
          obtain ⟨z19, rfl, hb18, H⟩ := hq
          refine A_if_ne (tgt := 93) d_MD_timeItem_88 (by decide) (fun c => ?_) (fun c => ?_)
          · replace H := H.2 c
            refine A_aload_n 0 d_MD_timeItem_93 rfl rfl ?_
            refine A_getIf T_ok d_MD_timeItem_94 f_MD_239 (hb_s hb18 sf_170) (fun x20 ex20 lx20 ux20 => ?_)
            replace H := H x20 ex20 lx20 ux20
            refine A_iconst d_MD_timeItem_97 rfl ?_
            refine A_icmp_eq (tgt := 106) d_MD_timeItem_98 (by decide) (fun c => ?_) (fun c => ?_)
            · replace H := H.1 c
              refine A_aload_n 0 d_MD_timeItem_106 rfl rfl ?_
              refine A_aload_n 0 d_MD_timeItem_107 rfl rfl ?_
              refine A_getIf T_ok d_MD_timeItem_108 f_MD_271 (hb_s hb18 sf_170) (fun x21 ex21 lx21 ux21 => ?_)
              replace H := H x21 ex21 lx21 ux21
              refine A_bipush d_MD_timeItem_111 rfl ?_
              refine A_callV2 m_MD_isPower T_ok d_MD_timeItem_113 l_MD_347 k_MD_isPower (hb_s hb18 sf_170) rfl (by decide +kernel) (by decide) (Nat.le_of_ble_eq_true rfl) H (fun r h22 hq => ?_)
              clear H
              obtain ⟨z24, rfl, hb23, H⟩ := hq
              refine A_if_ne (tgt := 129) d_MD_timeItem_116 (by decide) (fun c => ?_) (fun c => ?_)
              · replace H := H.2 c
                refine A_aload_n 0 d_MD_timeItem_129 rfl rfl ?_
                refine A_getAv (z := some 174) T_ok d_MD_timeItem_130 f_MD_23 (hb_s hb23 sf_170) (hb_m hb23 rfm_16) ?_
                refine A_iconst d_MD_timeItem_133 rfl ?_
                refine A_aload_n 0 d_MD_timeItem_134 rfl rfl ?_
                refine A_getIf T_ok d_MD_timeItem_135 f_MD_271 (hb_s hb23 sf_170) (fun x26 ex26 lx26 ux26 => ?_)
                replace H := H x26 ex26 lx26 ux26
                refine A_pc (pc' := 138) rfl ?_
                refine A_iastoreN d_MD_timeItem_138 (hb_s hb23 sf_174) (by decide) (by decide) ?_
                refine A_hn (fun h27 eh27 => ?_)
                have hb28 := hb_i hb23 eh27
                replace H := H h27 eh27
                refine A_aload_n 0 d_MD_timeItem_139 rfl rfl ?_
                refine A_callV0 m_MD_next T_ok d_MD_timeItem_140 l_MD_309 k_MD_next (hb_s hb28 sf_170) rfl (by decide +kernel) (by decide) (Nat.le_of_ble_eq_true rfl) H (fun r h29 hq => ?_)
                clear H
                obtain ⟨z31, rfl, hb30, H⟩ := hq
                refine A_popI d_MD_timeItem_143 ?_
                refine A_aload_n 0 d_MD_timeItem_144 rfl rfl ?_
                refine A_bipush d_MD_timeItem_145 rfl ?_
                refine A_callV1 m_MD_want T_ok d_MD_timeItem_147 l_MD_344 k_MD_want (hb_s hb30 sf_170) rfl (by decide +kernel) (by decide) (Nat.le_of_ble_eq_true rfl) H (fun r h32 hq => ?_)
                clear H
                obtain ⟨z34, rfl, hb33, H⟩ := hq
                exact A_zret d_MD_timeItem_150 (by decide) rfl H.1 H.2
              · replace H := H.1 c
                refine A_aload_n 0 d_MD_timeItem_119 rfl rfl ?_
                refine A_iconst d_MD_timeItem_120 rfl ?_
                refine A_aload_n 0 d_MD_timeItem_121 rfl rfl ?_
                refine A_getIf T_ok d_MD_timeItem_122 f_MD_242 (hb_s hb23 sf_170) (fun x35 ex35 lx35 ux35 => ?_)
                replace H := H x35 ex35 lx35 ux35
                refine A_callV2 m_MD_wrong T_ok d_MD_timeItem_125 l_MD_245 k_MD_wrong (hb_s hb23 sf_170) rfl (by decide +kernel) (by decide) (Nat.le_of_ble_eq_true rfl) H (fun r h36 hq => ?_)
                clear H
                obtain ⟨z38, rfl, hb37, H⟩ := hq
                exact A_zret d_MD_timeItem_128 (by decide) rfl H.1 H.2
            · replace H := H.2 c
              refine A_aload_n 0 d_MD_timeItem_101 rfl rfl ?_
              refine A_callV0 m_MD_cant T_ok d_MD_timeItem_102 l_MD_313 k_MD_cant (hb_s hb18 sf_170) rfl (by decide +kernel) (by decide) (Nat.le_of_ble_eq_true rfl) H (fun r h39 hq => ?_)
              clear H
              obtain ⟨z41, rfl, hb40, H⟩ := hq
              exact A_zret d_MD_timeItem_105 (by decide) rfl H.1 H.2
          · replace H := H.1 c
            refine A_iconst d_MD_timeItem_91 rfl ?_
            exact A_zret d_MD_timeItem_92 (by decide) rfl (by decide) H
        · replace H := H.2 c
          refine A_pc (pc' := 57) rfl ?_
          exact b_MD_timeItem_57    hb5 H
    · replace H := H.2 c
      refine A_aload_n 0 d_MD_timeItem_35 rfl rfl ?_
      refine A_callV0 m_MD_cant T_ok d_MD_timeItem_36 l_MD_313 k_MD_cant (hb_s hb5 sf_170) rfl (by decide +kernel) (by decide) (Nat.le_of_ble_eq_true rfl) H (fun r h42 hq => ?_)
      clear H
      obtain ⟨z44, rfl, hb43, H⟩ := hq
      exact A_zret d_MD_timeItem_39 (by decide) rfl H.1 H.2
  · replace H := H.2 c
    refine A_aload_n 0 d_MD_timeItem_7 rfl rfl ?_
    refine A_iconst d_MD_timeItem_8 rfl ?_
    refine A_aload_n 0 d_MD_timeItem_9 rfl rfl ?_
    refine A_getIf T_ok d_MD_timeItem_10 f_MD_242 (hb_s hb0 sf_170) (fun x45 ex45 lx45 ux45 => ?_)
    replace H := H x45 ex45 lx45 ux45
    refine A_callV2 m_MD_wrong T_ok d_MD_timeItem_13 l_MD_245 k_MD_wrong (hb_s hb0 sf_170) rfl (by decide +kernel) (by decide) (Nat.le_of_ble_eq_true rfl) H (fun r h46 hq => ?_)
    clear H
    obtain ⟨z48, rfl, hb47, H⟩ := hq
    exact A_zret d_MD_timeItem_16 (by decide) rfl H.1 H.2
theorem c_MD_timeItem {G : cx_T} {s : Nat} {h : ah_T} {Q : Option av_T → ah_T → Prop} (hb0 : hb s h) (H : B_MD_timeItem_0 G s h Q ) : con G 4 0 0 m_MD_timeItem [av_R (some 170)] h Q := by
  have hS : isS s := hb0.2.1
  refine con_of (L := [some (av_R (some 170))]) (by decide +kernel) (Nat.le_of_ble_eq_true rfl) rfl ?_
  exact b_MD_timeItem_0   hb0 (H )
def B_MD_lineItem_27 (G : cx_T) (s : Nat) (h : ah_T) (Q : Option av_T → ah_T → Prop) (X27 : ah_T → Prop) : Prop :=
 ∀ x1 : Int, x1 = h.2.1 170 4 → -2147483648 ≤ x1 → x1 ≤ 2147483647 → ((x1 = 1 → ∀ x3 : Int, x3 = h.2.1 175 1 → -2147483648 ≤ x3 → x3 ≤ 2147483647 → ((x3 = 8 → ∀ x26 : Int, x26 = h.2.1 170 5 → -2147483648 ≤ x26 → x26 ≤ 2147483647 → con G 0 0 0 m_MD_wrong [av_R (some 170), av_I 3, av_I x26] h (fun r h27 => ∃ z29 : Int, r = some (av_I z29) ∧ hb s h27 ∧ (z29 = 0 ∨ z29 = 1) ∧ Q (some (av_I z29)) h27)) ∧ (¬ x3 = 8 → ((-2147483648) ≤ (x3 + 8) ∧ (x3 + 8) ≤ 2147483647) ∧ ∀ x8 : Int, x8 = h.2.1 170 8 → -2147483648 ≤ x8 → x8 ≤ 2147483647 → (0 ≤ (x3 + 8) ∧ (x3 + 8) < 16) ∧ ∀ h10 : ah_T, h10 = st_i h 176 ((x3 + 8)).toNat x8 → ((-2147483648) ≤ (x3 + 1) ∧ (x3 + 1) ≤ 2147483647) ∧ ∀ h15 : ah_T, h15 = st_i h10 175 1 (x3 + 1) → con G 2 0 0 m_MD_next [av_R (some 170)] h15 (fun r h17 => ∃ z19 : Int, r = some (av_I z19) ∧ hb s h17 ∧ con G 0 0 0 m_MD_isSign [av_R (some 170), av_I 59] h17 (fun r h20 => ∃ z22 : Int, r = some (av_I z22) ∧ hb s h20 ∧ ((z22 = 0 → X27 h20) ∧ (¬ z22 = 0 → con G 2 0 0 m_MD_next [av_R (some 170)] h20 (fun r h23 => ∃ z25 : Int, r = some (av_I z25) ∧ hb s h23 ∧ (z25 = 0 ∨ z25 = 1) ∧ Q (some (av_I z25)) h23)))))))) ∧ (¬ x1 = 1 → con G 1 0 0 m_MD_cant [av_R (some 170)] h (fun r h30 => ∃ z32 : Int, r = some (av_I z32) ∧ hb s h30 ∧ (z32 = 0 ∨ z32 = 1) ∧ Q (some (av_I z32)) h30)))
theorem b_MD_lineItem_27 {G : cx_T} {s : Nat} {h : ah_T} {Q : Option av_T → ah_T → Prop} {X27 : ah_T → Prop} (hX27 : ∀ (h : ah_T), hb s h → X27 h → aw G (rm_R 3 0 0) m_MD_lineItem 0 0 27 [some (av_R (some 170))] [] h Q) (hb0 : hb s h) (H : B_MD_lineItem_27 G s h Q X27) : aw G (rm_R 3 0 0) m_MD_lineItem 0 0 27 [some (av_R (some 170))] [] h Q := by
  unfold B_MD_lineItem_27 at H
  have hS : isS s := hb0.2.1
  refine A_aload_n 0 d_MD_lineItem_27 rfl rfl ?_
  refine A_getIf T_ok d_MD_lineItem_28 f_MD_239 (hb_s hb0 sf_170) (fun x1 ex1 lx1 ux1 => ?_)
  replace H := H x1 ex1 lx1 ux1
  refine A_iconst d_MD_lineItem_31 rfl ?_
  refine A_icmp_eq (tgt := 40) d_MD_lineItem_32 (by decide) (fun c => ?_) (fun c => ?_)
  · replace H := H.1 c
    refine A_aload_n 0 d_MD_lineItem_40 rfl rfl ?_
    refine A_getAv (z := some 175) T_ok d_MD_lineItem_41 f_MD_26 (hb_s hb0 sf_170) (hb_m hb0 rfm_17) ?_
    refine A_iconst d_MD_lineItem_44 rfl ?_
    refine A_ialoadf d_MD_lineItem_45 (hb_s hb0 sf_175) (by decide) (by decide) (fun x3 ex3 lx3 ux3 => ?_)
    replace H := H x3 ex3 lx3 ux3
    refine A_bipush d_MD_lineItem_46 rfl ?_
    refine A_pc (pc' := 48) rfl ?_
    refine A_icmp_ne (tgt := 61) d_MD_lineItem_48 (by decide) (fun c => ?_) (fun c => ?_)
    · replace H := H.2 c
      refine A_aload_n 0 d_MD_lineItem_61 rfl rfl ?_
      refine A_getAv (z := some 176) T_ok d_MD_lineItem_62 f_MD_29 (hb_s hb0 sf_170) (hb_m hb0 rfm_18) ?_
      refine A_bipush d_MD_lineItem_65 rfl ?_
      refine A_aload_n 0 d_MD_lineItem_67 rfl rfl ?_
      refine A_getAv (z := some 175) T_ok d_MD_lineItem_68 f_MD_26 (hb_s hb0 sf_170) (hb_m hb0 rfm_17) ?_
      refine A_pc (pc' := 71) rfl ?_
      refine A_iconst d_MD_lineItem_71 rfl ?_
      refine A_ialoadv (z := x3) d_MD_lineItem_72 (hb_s hb0 sf_175) (by decide) (by decide) ex3.symm ?_
      have g7 := H.1
      replace H := H.2
      refine A_iaddv (z := (x3 + 8)) d_MD_lineItem_73 (w32_to (by omega) (by unfold i32; omega)) ?_
      refine A_aload_n 0 d_MD_lineItem_74 rfl rfl ?_
      refine A_getIf T_ok d_MD_lineItem_75 f_MD_284 (hb_s hb0 sf_170) (fun x8 ex8 lx8 ux8 => ?_)
      replace H := H x8 ex8 lx8 ux8
      have g9 := H.1
      replace H := H.2
      refine A_iastoreN d_MD_lineItem_78 (hb_s hb0 sf_176) g9.1 g9.2 ?_
      refine A_hn (fun h10 eh10 => ?_)
      have hb11 := hb_i hb0 eh10
      replace H := H h10 eh10
      refine A_pc (pc' := 79) rfl ?_
      refine A_aload_n 0 d_MD_lineItem_79 rfl rfl ?_
      refine A_getAv (z := some 175) T_ok d_MD_lineItem_80 f_MD_26 (hb_s hb11 sf_170) (hb_m hb11 rfm_17) ?_
      refine A_iconst d_MD_lineItem_83 rfl ?_
      refine A_dup2RI d_MD_lineItem_84 ?_
      refine A_ialoadv (z := x3) d_MD_lineItem_85 (hb_s hb11 sf_175) (by decide) (by decide) ((mm_i eh10 (fun q => absurd q.1 (by decide))).trans ex3.symm) ?_
      refine A_iconst d_MD_lineItem_86 rfl ?_
      refine A_pc (pc' := 87) rfl ?_
      have g14 := H.1
      replace H := H.2
      refine A_iaddv (z := (x3 + 1)) d_MD_lineItem_87 (w32_to (by omega) (by unfold i32; omega)) ?_
      refine A_iastoreN d_MD_lineItem_88 (hb_s hb11 sf_175) (by decide) (by decide) ?_
      refine A_hn (fun h15 eh15 => ?_)
      have hb16 := hb_i hb11 eh15
      replace H := H h15 eh15
      refine A_aload_n 0 d_MD_lineItem_89 rfl rfl ?_
      refine A_callV0 m_MD_next T_ok d_MD_lineItem_90 l_MD_309 k_MD_next (hb_s hb16 sf_170) rfl (by decide +kernel) (by decide) (Nat.le_of_ble_eq_true rfl) H (fun r h17 hq => ?_)
      clear H
      obtain ⟨z19, rfl, hb18, H⟩ := hq
      refine A_popI d_MD_lineItem_93 ?_
      refine A_aload_n 0 d_MD_lineItem_94 rfl rfl ?_
      refine A_bipush d_MD_lineItem_95 rfl ?_
      refine A_callV1 m_MD_isSign T_ok d_MD_lineItem_97 l_MD_306 k_MD_isSign (hb_s hb18 sf_170) rfl (by decide +kernel) (by decide) (Nat.le_of_ble_eq_true rfl) H (fun r h20 hq => ?_)
      clear H
      obtain ⟨z22, rfl, hb21, H⟩ := hq
      refine A_if_eq (tgt := 27) d_MD_lineItem_100 (by decide) (fun c => ?_) (fun c => ?_)
      · replace H := H.1 c
        refine A_pc (pc' := 27) rfl ?_
        exact hX27  h20  hb21 H
      · replace H := H.2 c
        refine A_aload_n 0 d_MD_lineItem_103 rfl rfl ?_
        refine A_callV0 m_MD_next T_ok d_MD_lineItem_104 l_MD_309 k_MD_next (hb_s hb21 sf_170) rfl (by decide +kernel) (by decide) (Nat.le_of_ble_eq_true rfl) H (fun r h23 hq => ?_)
        clear H
        obtain ⟨z25, rfl, hb24, H⟩ := hq
        exact A_zret d_MD_lineItem_107 (by decide) rfl H.1 H.2
    · replace H := H.1 c
      refine A_aload_n 0 d_MD_lineItem_51 rfl rfl ?_
      refine A_iconst d_MD_lineItem_52 rfl ?_
      refine A_aload_n 0 d_MD_lineItem_53 rfl rfl ?_
      refine A_getIf T_ok d_MD_lineItem_54 f_MD_242 (hb_s hb0 sf_170) (fun x26 ex26 lx26 ux26 => ?_)
      replace H := H x26 ex26 lx26 ux26
      refine A_callV2 m_MD_wrong T_ok d_MD_lineItem_57 l_MD_245 k_MD_wrong (hb_s hb0 sf_170) rfl (by decide +kernel) (by decide) (Nat.le_of_ble_eq_true rfl) H (fun r h27 hq => ?_)
      clear H
      obtain ⟨z29, rfl, hb28, H⟩ := hq
      exact A_zret d_MD_lineItem_60 (by decide) rfl H.1 H.2
  · replace H := H.2 c
    refine A_aload_n 0 d_MD_lineItem_35 rfl rfl ?_
    refine A_callV0 m_MD_cant T_ok d_MD_lineItem_36 l_MD_313 k_MD_cant (hb_s hb0 sf_170) rfl (by decide +kernel) (by decide) (Nat.le_of_ble_eq_true rfl) H (fun r h30 hq => ?_)
    clear H
    obtain ⟨z32, rfl, hb31, H⟩ := hq
    exact A_zret d_MD_lineItem_39 (by decide) rfl H.1 H.2
theorem lp_MD_lineItem_27 {G : cx_T} {s : Nat} {Q : Option av_T → ah_T → Prop} (I : ah_T → Prop) (μ : ah_T → Nat) (hI : ∀ (h : ah_T), hb s h → I h → B_MD_lineItem_27 G s h Q (fun h' => I h' ∧ μ h' < μ h)) : ∀ (h : ah_T), hb s h → I h → aw G (rm_R 3 0 0) m_MD_lineItem 0 0 27 [some (av_R (some 170))] [] h Q := by
  have key : ∀ (n : Nat) (h : ah_T), hb s h → I  h → μ  h < n → aw G (rm_R 3 0 0) m_MD_lineItem 0 0 27 [some (av_R (some 170))] [] h Q := by
    intro n
    induction n with
    | zero => intro  h  hb0 hi hm; omega
    | succ n ih => intro  h  hb0 hi hm; exact b_MD_lineItem_27  (fun  h'  hb' hx => ih  h'  hb' hx.1 (by have := hx.2; omega))  hb0 (hI  h  hb0 hi)
  exact fun  h  hb0 hi => key _  h  hb0 hi (Nat.lt_succ_self _)
def B_MD_lineItem_0 (G : cx_T) (s : Nat) (h : ah_T) (Q : Option av_T → ah_T → Prop) (X27 : ah_T → Prop) : Prop :=
 ∀ x1 : Int, x1 = h.2.1 170 60 → (x1 = 0 ∨ x1 = 1) → ((x1 = 0 → ∀ h2 : ah_T, h2 = st_i h 170 60 1 → con G 2 0 0 m_MD_next [av_R (some 170)] h2 (fun r h4 => ∃ z6 : Int, r = some (av_I z6) ∧ hb s h4 ∧ X27 h4)) ∧ (¬ x1 = 0 → ∀ x7 : Int, x7 = h.2.1 170 5 → -2147483648 ≤ x7 → x7 ≤ 2147483647 → con G 0 0 0 m_MD_wrong [av_R (some 170), av_I 4, av_I x7] h (fun r h8 => ∃ z10 : Int, r = some (av_I z10) ∧ hb s h8 ∧ (z10 = 0 ∨ z10 = 1) ∧ Q (some (av_I z10)) h8)))
theorem b_MD_lineItem_0 {G : cx_T} {s : Nat} {h : ah_T} {Q : Option av_T → ah_T → Prop} {X27 : ah_T → Prop} (hX27 : ∀ (h : ah_T), hb s h → X27 h → aw G (rm_R 3 0 0) m_MD_lineItem 0 0 27 [some (av_R (some 170))] [] h Q) (hb0 : hb s h) (H : B_MD_lineItem_0 G s h Q X27) : aw G (rm_R 3 0 0) m_MD_lineItem 0 0 0 [some (av_R (some 170))] [] h Q := by
  unfold B_MD_lineItem_0 at H
  have hS : isS s := hb0.2.1
  refine A_aload_n 0 d_MD_lineItem_0 rfl rfl ?_
  refine A_getZn T_ok d_MD_lineItem_1 f_MD_320 (hb_s hb0 sf_170) (fun x1 ex1 bx1 => ?_)
  replace H := H x1 ex1 bx1
  refine A_if_eq (tgt := 17) d_MD_lineItem_4 (by decide) (fun c => ?_) (fun c => ?_)
  · replace H := H.1 c
    refine A_aload_n 0 d_MD_lineItem_17 rfl rfl ?_
    refine A_iconst d_MD_lineItem_18 rfl ?_
    refine A_putZ T_ok d_MD_lineItem_19 f_MD_320 (hb_s hb0 sf_170) fin_f (by decide) ?_
    refine A_hn (fun h2 eh2 => ?_)
    have hb3 := hb_i hb0 eh2
    replace H := H h2 eh2
    refine A_aload_n 0 d_MD_lineItem_22 rfl rfl ?_
    refine A_callV0 m_MD_next T_ok d_MD_lineItem_23 l_MD_309 k_MD_next (hb_s hb3 sf_170) rfl (by decide +kernel) (by decide) (Nat.le_of_ble_eq_true rfl) H (fun r h4 hq => ?_)
    clear H
    obtain ⟨z6, rfl, hb5, H⟩ := hq
    refine A_popI d_MD_lineItem_26 ?_
    refine A_pc (pc' := 27) rfl ?_
    exact hX27  h4  hb5 H
  · replace H := H.2 c
    refine A_aload_n 0 d_MD_lineItem_7 rfl rfl ?_
    refine A_iconst d_MD_lineItem_8 rfl ?_
    refine A_aload_n 0 d_MD_lineItem_9 rfl rfl ?_
    refine A_getIf T_ok d_MD_lineItem_10 f_MD_242 (hb_s hb0 sf_170) (fun x7 ex7 lx7 ux7 => ?_)
    replace H := H x7 ex7 lx7 ux7
    refine A_callV2 m_MD_wrong T_ok d_MD_lineItem_13 l_MD_245 k_MD_wrong (hb_s hb0 sf_170) rfl (by decide +kernel) (by decide) (Nat.le_of_ble_eq_true rfl) H (fun r h8 hq => ?_)
    clear H
    obtain ⟨z10, rfl, hb9, H⟩ := hq
    exact A_zret d_MD_lineItem_16 (by decide) rfl H.1 H.2
theorem c_MD_lineItem {G : cx_T} {s : Nat} {h : ah_T} {Q : Option av_T → ah_T → Prop} {X27 : ah_T → Prop} (hX27 : ∀ (h : ah_T), hb s h → X27 h → aw G (rm_R 3 0 0) m_MD_lineItem 0 0 27 [some (av_R (some 170))] [] h Q) (hb0 : hb s h) (H : B_MD_lineItem_0 G s h Q X27) : con G 3 0 0 m_MD_lineItem [av_R (some 170)] h Q := by
  have hS : isS s := hb0.2.1
  refine con_of (L := [some (av_R (some 170))]) (by decide +kernel) (Nat.le_of_ble_eq_true rfl) rfl ?_
  exact b_MD_lineItem_0  hX27 hb0 (H )
def B_MD_nameNumber_2 (G : cx_T) (s : Nat) (v1 : Int) (h : ah_T) (Q : Option av_T → ah_T → Prop) (X2 : Int → ah_T → Prop) : Prop :=
 ∀ x2 : Int, x2 = h.2.1 183 1 → -2147483648 ≤ x2 → x2 ≤ 2147483647 → ((x2 ≤ v1 → ((x2 = 16 → ∀ x21 : Int, x21 = h.2.1 170 5 → -2147483648 ≤ x21 → x21 ≤ 2147483647 → con G 0 0 0 m_MD_wrong [av_R (some 170), av_I 3, av_I x21] h (fun r h22 => ∃ z24 : Int, r = some (av_I z24) ∧ hb s h22 ∧ Q (some (av_I (-2))) h22)) ∧ (¬ x2 = 16 → ((-2147483648) ≤ (x2 + 16) ∧ (x2 + 16) ≤ 2147483647) ∧ ∀ x9 : Int, x9 = h.2.2.1 170 7 → -9223372036854775808 ≤ x9 → x9 ≤ 9223372036854775807 → (0 ≤ (x2 + 16) ∧ (x2 + 16) < 32) ∧ ∀ h11 : ah_T, h11 = st_l h 184 ((x2 + 16)).toNat x9 → ((-2147483648) ≤ (x2 + 1) ∧ (x2 + 1) ≤ 2147483647) ∧ ∀ h16 : ah_T, h16 = st_i h11 183 1 (x2 + 1) → ((-2147483648) ≤ x2 ∧ x2 ≤ 2147483647) ∧ Q (some (av_I x2)) h16))) ∧ (¬ x2 ≤ v1 → ((-2147483648) ≤ (v1 + 16) ∧ (v1 + 16) ≤ 2147483647) ∧ (0 ≤ (v1 + 16) ∧ (v1 + 16) < 32) ∧ ∀ x27 : Int, x27 = h.2.2.1 184 ((v1 + 16)).toNat → -9223372036854775808 ≤ x27 → x27 ≤ 9223372036854775807 → ∀ x29 : Int, x29 = h.2.2.1 170 7 → -9223372036854775808 ≤ x29 → x29 ≤ 9223372036854775807 → ((x27 = x29 → Q (some (av_I v1)) h) ∧ (¬ x27 = x29 → ((-2147483648) ≤ (v1 + 1) ∧ (v1 + 1) ≤ 2147483647) ∧ X2 ((v1 + 1)) h))))
theorem b_MD_nameNumber_2 {G : cx_T} {s : Nat} {v1 : Int} {h : ah_T} {Q : Option av_T → ah_T → Prop} {X2 : Int → ah_T → Prop} (hX2 : ∀ (v1 : Int) (h : ah_T), hb s h → X2 v1 h → aw G (rm_R 1 0 0) m_MD_nameNumber 0 0 2 [some (av_R (some 170)), some (av_I v1)] [] h Q) (hb0 : hb s h) (H : B_MD_nameNumber_2 G s v1 h Q X2) : aw G (rm_R 1 0 0) m_MD_nameNumber 0 0 2 [some (av_R (some 170)), some (av_I v1)] [] h Q := by
  unfold B_MD_nameNumber_2 at H
  have hS : isS s := hb0.2.1
  refine A_iload_n 1 d_MD_nameNumber_2 rfl rfl ?_
  refine A_aload_n 0 d_MD_nameNumber_3 rfl rfl ?_
  refine A_getAv (z := some 183) T_ok d_MD_nameNumber_4 f_MD_50 (hb_s hb0 sf_170) (hb_m hb0 rfm_25) ?_
  refine A_iconst d_MD_nameNumber_7 rfl ?_
  refine A_ialoadf d_MD_nameNumber_8 (hb_s hb0 sf_183) (by decide) (by decide) (fun x2 ex2 lx2 ux2 => ?_)
  replace H := H x2 ex2 lx2 ux2
  refine A_pc (pc' := 9) rfl ?_
  refine A_icmp_ge (tgt := 37) d_MD_nameNumber_9 (by decide) (fun c => ?_) (fun c => ?_)
  · replace H := H.1 c
    refine A_aload_n 0 d_MD_nameNumber_37 rfl rfl ?_
    refine A_getAv (z := some 183) T_ok d_MD_nameNumber_38 f_MD_50 (hb_s hb0 sf_170) (hb_m hb0 rfm_25) ?_
    refine A_iconst d_MD_nameNumber_41 rfl ?_
    refine A_ialoadv (z := x2) d_MD_nameNumber_42 (hb_s hb0 sf_183) (by decide) (by decide) ex2.symm ?_
    refine A_bipush d_MD_nameNumber_43 rfl ?_
    refine A_pc (pc' := 45) rfl ?_
    refine A_icmp_ne (tgt := 61) d_MD_nameNumber_45 (by decide) (fun c => ?_) (fun c => ?_)
    · replace H := H.2 c
      refine A_aload_n 0 d_MD_nameNumber_61 rfl rfl ?_
      refine A_getAv (z := some 184) T_ok d_MD_nameNumber_62 f_MD_53 (hb_s hb0 sf_170) (hb_m hb0 rfm_26) ?_
      refine A_bipush d_MD_nameNumber_65 rfl ?_
      refine A_aload_n 0 d_MD_nameNumber_67 rfl rfl ?_
      refine A_getAv (z := some 183) T_ok d_MD_nameNumber_68 f_MD_50 (hb_s hb0 sf_170) (hb_m hb0 rfm_25) ?_
      refine A_pc (pc' := 71) rfl ?_
      refine A_iconst d_MD_nameNumber_71 rfl ?_
      refine A_ialoadv (z := x2) d_MD_nameNumber_72 (hb_s hb0 sf_183) (by decide) (by decide) ex2.symm ?_
      have g8 := H.1
      replace H := H.2
      refine A_iaddv (z := (x2 + 16)) d_MD_nameNumber_73 (w32_to (by omega) (by unfold i32; omega)) ?_
      refine A_aload_n 0 d_MD_nameNumber_74 rfl rfl ?_
      refine A_getLf T_ok d_MD_nameNumber_75 f_MD_290 (hb_s hb0 sf_170) (fun x9 ex9 lx9 ux9 => ?_)
      replace H := H x9 ex9 lx9 ux9
      have g10 := H.1
      replace H := H.2
      refine A_lastoreN d_MD_nameNumber_78 (hb_s hb0 sf_184) g10.1 g10.2 ?_
      refine A_hn (fun h11 eh11 => ?_)
      have hb12 := hb_l hb0 eh11
      replace H := H h11 eh11
      refine A_pc (pc' := 79) rfl ?_
      refine A_aload_n 0 d_MD_nameNumber_79 rfl rfl ?_
      refine A_getAv (z := some 183) T_ok d_MD_nameNumber_80 f_MD_50 (hb_s hb12 sf_170) (hb_m hb12 rfm_25) ?_
      refine A_iconst d_MD_nameNumber_83 rfl ?_
      refine A_dup2RI d_MD_nameNumber_84 ?_
      refine A_ialoadv (z := x2) d_MD_nameNumber_85 (hb_s hb12 sf_183) (by decide) (by decide) ((mm_lo eh11).trans ex2.symm) ?_
      refine A_iconst d_MD_nameNumber_86 rfl ?_
      refine A_pc (pc' := 87) rfl ?_
      have g15 := H.1
      replace H := H.2
      refine A_iaddv (z := (x2 + 1)) d_MD_nameNumber_87 (w32_to (by omega) (by unfold i32; omega)) ?_
      refine A_iastoreN d_MD_nameNumber_88 (hb_s hb12 sf_183) (by decide) (by decide) ?_
      refine A_hn (fun h16 eh16 => ?_)
      have hb17 := hb_i hb12 eh16
      replace H := H h16 eh16
      refine A_aload_n 0 d_MD_nameNumber_89 rfl rfl ?_
      refine A_getAv (z := some 183) T_ok d_MD_nameNumber_90 f_MD_50 (hb_s hb17 sf_170) (hb_m hb17 rfm_25) ?_
      refine A_iconst d_MD_nameNumber_93 rfl ?_
      refine A_ialoadv (z := (x2 + 1)) d_MD_nameNumber_94 (hb_s hb17 sf_183) (by decide) (by decide) (mv_i eh16) ?_
      refine A_pc (pc' := 95) rfl ?_
      refine A_iconst d_MD_nameNumber_95 rfl ?_
      have g20 := H.1
      replace H := H.2
      refine A_isubv (z := x2) d_MD_nameNumber_96 (w32_to (by omega) (by unfold i32; omega)) ?_
      exact A_iret d_MD_nameNumber_97 (by decide) rfl H
    · replace H := H.1 c
      refine A_aload_n 0 d_MD_nameNumber_48 rfl rfl ?_
      refine A_iconst d_MD_nameNumber_49 rfl ?_
      refine A_aload_n 0 d_MD_nameNumber_50 rfl rfl ?_
      refine A_getIf T_ok d_MD_nameNumber_51 f_MD_242 (hb_s hb0 sf_170) (fun x21 ex21 lx21 ux21 => ?_)
      replace H := H x21 ex21 lx21 ux21
      refine A_callV2 m_MD_wrong T_ok d_MD_nameNumber_54 l_MD_245 k_MD_wrong (hb_s hb0 sf_170) rfl (by decide +kernel) (by decide) (Nat.le_of_ble_eq_true rfl) H (fun r h22 hq => ?_)
      clear H
      obtain ⟨z24, rfl, hb23, H⟩ := hq
      refine A_popI d_MD_nameNumber_57 ?_
      refine A_bipush d_MD_nameNumber_58 rfl ?_
      exact A_iret d_MD_nameNumber_60 (by decide) rfl H
  · replace H := H.2 c
    refine A_aload_n 0 d_MD_nameNumber_12 rfl rfl ?_
    refine A_getAv (z := some 184) T_ok d_MD_nameNumber_13 f_MD_53 (hb_s hb0 sf_170) (hb_m hb0 rfm_26) ?_
    refine A_bipush d_MD_nameNumber_16 rfl ?_
    refine A_iload_n 1 d_MD_nameNumber_18 rfl rfl ?_
    have g26 := H.1
    replace H := H.2
    refine A_iaddv (z := (v1 + 16)) d_MD_nameNumber_19 (w32_to (by omega) (by unfold i32; omega)) ?_
    refine A_pc (pc' := 20) rfl ?_
    have g28 := H.1
    replace H := H.2
    refine A_laloadf d_MD_nameNumber_20 (hb_s hb0 sf_184) g28.1 g28.2 (fun x27 ex27 lx27 ux27 => ?_)
    replace H := H x27 ex27 lx27 ux27
    refine A_aload_n 0 d_MD_nameNumber_21 rfl rfl ?_
    refine A_getLf T_ok d_MD_nameNumber_22 f_MD_290 (hb_s hb0 sf_170) (fun x29 ex29 lx29 ux29 => ?_)
    replace H := H x29 ex29 lx29 ux29
    refine A_lcmpn d_MD_nameNumber_25 (fun x30 lx30 ex30 gx30 _ _ => ?_)
    refine A_if_ne (tgt := 31) d_MD_nameNumber_26 (by decide) (fun c => ?_) (fun c => ?_)
    · replace H := H.2 (by omega)
      have g31 := H.1
      replace H := H.2
      refine A_iincv (z := (v1 + 1)) (L' := [some (av_R (some 170)), some (av_I (v1 + 1))]) d_MD_nameNumber_31 rfl (w32_to (by omega) (by unfold i32; omega)) rfl ?_
      refine A_goto (tgt := 2) d_MD_nameNumber_34 (by decide) ?_
      refine A_pc (pc' := 2) rfl ?_
      exact hX2 ((v1 + 1)) h  hb0 H
    · replace H := H.1 (by omega)
      refine A_iload_n 1 d_MD_nameNumber_29 rfl rfl ?_
      exact A_iret d_MD_nameNumber_30 (by decide) rfl H
theorem lp_MD_nameNumber_2 {G : cx_T} {s : Nat} {Q : Option av_T → ah_T → Prop} (I : Int → ah_T → Prop) (μ : Int → ah_T → Nat) (hI : ∀ (v1 : Int) (h : ah_T), hb s h → I v1 h → B_MD_nameNumber_2 G s v1 h Q (fun v1' h' => I v1' h' ∧ μ v1' h' < μ v1 h)) : ∀ (v1 : Int) (h : ah_T), hb s h → I v1 h → aw G (rm_R 1 0 0) m_MD_nameNumber 0 0 2 [some (av_R (some 170)), some (av_I v1)] [] h Q := by
  have key : ∀ (n : Nat) (v1 : Int) (h : ah_T), hb s h → I v1 h → μ v1 h < n → aw G (rm_R 1 0 0) m_MD_nameNumber 0 0 2 [some (av_R (some 170)), some (av_I v1)] [] h Q := by
    intro n
    induction n with
    | zero => intro v1 h  hb0 hi hm; omega
    | succ n ih => intro v1 h  hb0 hi hm; exact b_MD_nameNumber_2  (fun v1' h'  hb' hx => ih v1' h'  hb' hx.1 (by have := hx.2; omega))  hb0 (hI v1 h  hb0 hi)
  exact fun v1 h  hb0 hi => key _ v1 h  hb0 hi (Nat.lt_succ_self _)
def B_MD_nameNumber_0 (G : cx_T) (s : Nat) (h : ah_T) (Q : Option av_T → ah_T → Prop) (X2 : Int → ah_T → Prop) : Prop :=
 X2 (0) h
theorem b_MD_nameNumber_0 {G : cx_T} {s : Nat} {h : ah_T} {Q : Option av_T → ah_T → Prop} {X2 : Int → ah_T → Prop} (hX2 : ∀ (v1 : Int) (h : ah_T), hb s h → X2 v1 h → aw G (rm_R 1 0 0) m_MD_nameNumber 0 0 2 [some (av_R (some 170)), some (av_I v1)] [] h Q) (hb0 : hb s h) (H : B_MD_nameNumber_0 G s h Q X2) : aw G (rm_R 1 0 0) m_MD_nameNumber 0 0 0 [some (av_R (some 170)), none] [] h Q := by
  unfold B_MD_nameNumber_0 at H
  have hS : isS s := hb0.2.1
  refine A_iconst d_MD_nameNumber_0 rfl ?_
  refine A_istore_n 1 (L' := [some (av_R (some 170)), some (av_I 0)]) d_MD_nameNumber_1 rfl (Nat.le_of_ble_eq_true rfl) rfl ?_
  refine A_pc (pc' := 2) rfl ?_
  exact hX2 (0) h  hb0 H
theorem c_MD_nameNumber {G : cx_T} {s : Nat} {h : ah_T} {Q : Option av_T → ah_T → Prop} {X2 : Int → ah_T → Prop} (hX2 : ∀ (v1 : Int) (h : ah_T), hb s h → X2 v1 h → aw G (rm_R 1 0 0) m_MD_nameNumber 0 0 2 [some (av_R (some 170)), some (av_I v1)] [] h Q) (hb0 : hb s h) (H : B_MD_nameNumber_0 G s h Q X2) : con G 1 0 0 m_MD_nameNumber [av_R (some 170)] h Q := by
  have hS : isS s := hb0.2.1
  refine con_of (L := [some (av_R (some 170)), none]) (by decide +kernel) (Nat.le_of_ble_eq_true rfl) rfl ?_
  exact b_MD_nameNumber_0  hX2 hb0 (H )
def B_MD_ruleItem_167 (G : cx_T) (s : Nat) (h : ah_T) (Q : Option av_T → ah_T → Prop) : Prop :=
 ∀ x2 : Int, x2 = h.2.1 177 1 → -2147483648 ≤ x2 → x2 ≤ 2147483647 → ((-2147483648) ≤ (x2 + 1) ∧ (x2 + 1) ≤ 2147483647) ∧ ∀ h4 : ah_T, h4 = st_i h 177 1 (x2 + 1) → con G 3 0 0 m_MD_want [av_R (some 170), av_I 59] h4 (fun r h6 => ∃ z8 : Int, r = some (av_I z8) ∧ hb s h6 ∧ (z8 = 0 ∨ z8 = 1) ∧ Q (some (av_I z8)) h6)
theorem b_MD_ruleItem_167 {G : cx_T} {s : Nat} {h : ah_T} {Q : Option av_T → ah_T → Prop} (hb0 : hb s h) (H : B_MD_ruleItem_167 G s h Q ) : aw G (rm_R 4 0 0) m_MD_ruleItem 0 0 167 [some (av_R (some 170)), none] [] h Q := by
  unfold B_MD_ruleItem_167 at H
  have hS : isS s := hb0.2.1
  refine A_aload_n 0 d_MD_ruleItem_167 rfl rfl ?_
  refine A_getAv (z := some 177) T_ok d_MD_ruleItem_168 f_MD_32 (hb_s hb0 sf_170) (hb_m hb0 rfm_19) ?_
  refine A_iconst d_MD_ruleItem_171 rfl ?_
  refine A_dup2RI d_MD_ruleItem_172 ?_
  refine A_ialoadf d_MD_ruleItem_173 (hb_s hb0 sf_177) (by decide) (by decide) (fun x2 ex2 lx2 ux2 => ?_)
  replace H := H x2 ex2 lx2 ux2
  refine A_pc (pc' := 174) rfl ?_
  refine A_iconst d_MD_ruleItem_174 rfl ?_
  have g3 := H.1
  replace H := H.2
  refine A_iaddv (z := (x2 + 1)) d_MD_ruleItem_175 (w32_to (by omega) (by unfold i32; omega)) ?_
  refine A_iastoreN d_MD_ruleItem_176 (hb_s hb0 sf_177) (by decide) (by decide) ?_
  refine A_hn (fun h4 eh4 => ?_)
  have hb5 := hb_i hb0 eh4
  replace H := H h4 eh4
  refine A_aload_n 0 d_MD_ruleItem_177 rfl rfl ?_
  refine A_bipush d_MD_ruleItem_178 rfl ?_
  refine A_callV1 m_MD_want T_ok d_MD_ruleItem_180 l_MD_344 k_MD_want (hb_s hb5 sf_170) rfl (by decide +kernel) (by decide) (Nat.le_of_ble_eq_true rfl) H (fun r h6 hq => ?_)
  clear H
  obtain ⟨z8, rfl, hb7, H⟩ := hq
  exact A_zret d_MD_ruleItem_183 (by decide) rfl H.1 H.2
def B_MD_ruleItem_0 (G : cx_T) (s : Nat) (h : ah_T) (Q : Option av_T → ah_T → Prop) : Prop :=
 ∀ x2 : Int, x2 = h.2.1 177 1 → -2147483648 ≤ x2 → x2 ≤ 2147483647 → ((x2 = 24 → ∀ x58 : Int, x58 = h.2.1 170 5 → -2147483648 ≤ x58 → x58 ≤ 2147483647 → con G 0 0 0 m_MD_wrong [av_R (some 170), av_I 3, av_I x58] h (fun r h59 => ∃ z61 : Int, r = some (av_I z61) ∧ hb s h59 ∧ (z61 = 0 ∨ z61 = 1) ∧ Q (some (av_I z61)) h59)) ∧ (¬ x2 = 24 → ((-2147483648) ≤ (x2 + 24) ∧ (x2 + 24) ≤ 2147483647) ∧ con G 2 0 0 m_MD_next [av_R (some 170)] h (fun r h6 => ∃ z8 : Int, r = some (av_I z8) ∧ hb s h6 ∧ ∀ x9 : Int, x9 = h6.2.1 170 4 → -2147483648 ≤ x9 → x9 ≤ 2147483647 → ((x9 = 2 → con G 1 0 0 m_MD_nameNumber [av_R (some 170)] h6 (fun r h11 => ∃ z13 : Int, r = some (av_I z13) ∧ hb s h11 ∧ (0 ≤ (x2 + 24) ∧ (x2 + 24) < 48) ∧ ∀ h15 : ah_T, h15 = st_i h11 178 ((x2 + 24)).toNat z13 → ((0 ≤ z13 → con G 2 0 0 m_MD_next [av_R (some 170)] h15 (fun r h19 => ∃ z21 : Int, r = some (av_I z21) ∧ hb s h19 ∧ con G 3 0 0 m_MD_want [av_R (some 170), av_I 61] h19 (fun r h22 => ∃ z24 : Int, r = some (av_I z24) ∧ hb s h22 ∧ ((z24 = 0 → Q (some (av_I 0)) h22) ∧ (¬ z24 = 0 → ∀ x25 : Int, x25 = h22.2.1 170 4 → -2147483648 ≤ x25 → x25 ≤ 2147483647 → ((x25 = 2 → con G 1 0 0 m_MD_nameNumber [av_R (some 170)] h22 (fun r h27 => ∃ z29 : Int, r = some (av_I z29) ∧ hb s h27 ∧ ∀ h30 : ah_T, h30 = st_i h27 179 ((x2 + 24)).toNat z29 → ((0 ≤ z29 → ∀ h35 : ah_T, h35 = st_i h30 180 ((x2 + 24)).toNat (-2) → con G 2 0 0 m_MD_next [av_R (some 170)] h35 (fun r h37 => ∃ z39 : Int, r = some (av_I z39) ∧ hb s h37 ∧ ∀ x40 : Int, x40 = h37.2.1 170 4 → -2147483648 ≤ x40 → x40 ≤ 2147483647 → ((x40 = 2 → con G 1 0 0 m_MD_nameNumber [av_R (some 170)] h37 (fun r h42 => ∃ z44 : Int, r = some (av_I z44) ∧ hb s h42 ∧ ∀ h45 : ah_T, h45 = st_i h42 180 ((x2 + 24)).toNat z44 → ((0 ≤ z44 → con G 2 0 0 m_MD_next [av_R (some 170)] h45 (fun r h49 => ∃ z51 : Int, r = some (av_I z51) ∧ hb s h49 ∧ B_MD_ruleItem_167 G s h49 Q )) ∧ (¬ 0 ≤ z44 → Q (some (av_I 0)) h45)))) ∧ (¬ x40 = 2 → B_MD_ruleItem_167 G s h37 Q )))) ∧ (¬ 0 ≤ z29 → Q (some (av_I 0)) h30)))) ∧ (¬ x25 = 2 → con G 1 0 0 m_MD_cant [av_R (some 170)] h22 (fun r h52 => ∃ z54 : Int, r = some (av_I z54) ∧ hb s h52 ∧ (z54 = 0 ∨ z54 = 1) ∧ Q (some (av_I z54)) h52)))))))) ∧ (¬ 0 ≤ z13 → Q (some (av_I 0)) h15)))) ∧ (¬ x9 = 2 → con G 1 0 0 m_MD_cant [av_R (some 170)] h6 (fun r h55 => ∃ z57 : Int, r = some (av_I z57) ∧ hb s h55 ∧ (z57 = 0 ∨ z57 = 1) ∧ Q (some (av_I z57)) h55))))))
theorem b_MD_ruleItem_0 {G : cx_T} {s : Nat} {h : ah_T} {Q : Option av_T → ah_T → Prop} (hb0 : hb s h) (H : B_MD_ruleItem_0 G s h Q ) : aw G (rm_R 4 0 0) m_MD_ruleItem 0 0 0 [some (av_R (some 170)), none] [] h Q := by
  unfold B_MD_ruleItem_0 at H
  have hS : isS s := hb0.2.1
  refine A_aload_n 0 d_MD_ruleItem_0 rfl rfl ?_
  refine A_getAv (z := some 177) T_ok d_MD_ruleItem_1 f_MD_32 (hb_s hb0 sf_170) (hb_m hb0 rfm_19) ?_
  refine A_iconst d_MD_ruleItem_4 rfl ?_
  refine A_ialoadf d_MD_ruleItem_5 (hb_s hb0 sf_177) (by decide) (by decide) (fun x2 ex2 lx2 ux2 => ?_)
  replace H := H x2 ex2 lx2 ux2
  refine A_bipush d_MD_ruleItem_6 rfl ?_
  refine A_pc (pc' := 8) rfl ?_
  refine A_icmp_ne (tgt := 21) d_MD_ruleItem_8 (by decide) (fun c => ?_) (fun c => ?_)
  · replace H := H.2 c
    refine A_bipush d_MD_ruleItem_21 rfl ?_
    refine A_aload_n 0 d_MD_ruleItem_23 rfl rfl ?_
    refine A_getAv (z := some 177) T_ok d_MD_ruleItem_24 f_MD_32 (hb_s hb0 sf_170) (hb_m hb0 rfm_19) ?_
    refine A_iconst d_MD_ruleItem_27 rfl ?_
    refine A_ialoadv (z := x2) d_MD_ruleItem_28 (hb_s hb0 sf_177) (by decide) (by decide) ex2.symm ?_
    refine A_pc (pc' := 29) rfl ?_
    have g5 := H.1
    replace H := H.2
    refine A_iaddv (z := (x2 + 24)) d_MD_ruleItem_29 (w32_to (by omega) (by unfold i32; omega)) ?_
    refine A_istore_n 1 (L' := [some (av_R (some 170)), some (av_I (x2 + 24))]) d_MD_ruleItem_30 rfl (Nat.le_of_ble_eq_true rfl) rfl ?_
    refine A_aload_n 0 d_MD_ruleItem_31 rfl rfl ?_
    refine A_callV0 m_MD_next T_ok d_MD_ruleItem_32 l_MD_309 k_MD_next (hb_s hb0 sf_170) rfl (by decide +kernel) (by decide) (Nat.le_of_ble_eq_true rfl) H (fun r h6 hq => ?_)
    clear H
    obtain ⟨z8, rfl, hb7, H⟩ := hq
    refine A_popI d_MD_ruleItem_35 ?_
    refine A_aload_n 0 d_MD_ruleItem_36 rfl rfl ?_
    refine A_getIf T_ok d_MD_ruleItem_37 f_MD_239 (hb_s hb7 sf_170) (fun x9 ex9 lx9 ux9 => ?_)
    replace H := H x9 ex9 lx9 ux9
    refine A_iconst d_MD_ruleItem_40 rfl ?_
    refine A_icmp_eq (tgt := 49) d_MD_ruleItem_41 (by decide) (fun c => ?_) (fun c => ?_)
    · replace H := H.1 c
      refine A_aload_n 0 d_MD_ruleItem_49 rfl rfl ?_
      refine A_getAv (z := some 178) T_ok d_MD_ruleItem_50 f_MD_35 (hb_s hb7 sf_170) (hb_m hb7 rfm_20) ?_
      refine A_iload_n 1 d_MD_ruleItem_53 rfl rfl ?_
      refine A_aload_n 0 d_MD_ruleItem_54 rfl rfl ?_
      refine A_callV0 m_MD_nameNumber T_ok d_MD_ruleItem_55 l_MD_350 k_MD_nameNumber (hb_s hb7 sf_170) rfl (by decide +kernel) (by decide) (Nat.le_of_ble_eq_true rfl) H (fun r h11 hq => ?_)
      clear H
      obtain ⟨z13, rfl, hb12, H⟩ := hq
      have g14 := H.1
      replace H := H.2
      refine A_iastoreN d_MD_ruleItem_58 (hb_s hb12 sf_178) g14.1 g14.2 ?_
      refine A_hn (fun h15 eh15 => ?_)
      have hb16 := hb_i hb12 eh15
      replace H := H h15 eh15
      refine A_aload_n 0 d_MD_ruleItem_59 rfl rfl ?_
      refine A_getAv (z := some 178) T_ok d_MD_ruleItem_60 f_MD_35 (hb_s hb16 sf_170) (hb_m hb16 rfm_20) ?_
      refine A_iload_n 1 d_MD_ruleItem_63 rfl rfl ?_
      refine A_ialoadv (z := z13) d_MD_ruleItem_64 (hb_s hb16 sf_178) (by omega) (by omega) (mv_i eh15) ?_
      refine A_pc (pc' := 65) rfl ?_
      refine A_if_ge (tgt := 70) d_MD_ruleItem_65 (by decide) (fun c => ?_) (fun c => ?_)
      · replace H := H.1 c
        refine A_aload_n 0 d_MD_ruleItem_70 rfl rfl ?_
        refine A_callV0 m_MD_next T_ok d_MD_ruleItem_71 l_MD_309 k_MD_next (hb_s hb16 sf_170) rfl (by decide +kernel) (by decide) (Nat.le_of_ble_eq_true rfl) H (fun r h19 hq => ?_)
        clear H
        obtain ⟨z21, rfl, hb20, H⟩ := hq
        refine A_popI d_MD_ruleItem_74 ?_
        refine A_aload_n 0 d_MD_ruleItem_75 rfl rfl ?_
        refine A_bipush d_MD_ruleItem_76 rfl ?_
        refine A_callV1 m_MD_want T_ok d_MD_ruleItem_78 l_MD_344 k_MD_want (hb_s hb20 sf_170) rfl (by decide +kernel) (by decide) (Nat.le_of_ble_eq_true rfl) H (fun r h22 hq => ?_)
        clear H
        obtain ⟨z24, rfl, hb23, H⟩ := hq
        refine A_if_ne (tgt := 86) d_MD_ruleItem_81 (by decide) (fun c => ?_) (fun c => ?_)
        · replace H := H.2 c
          refine A_aload_n 0 d_MD_ruleItem_86 rfl rfl ?_
          refine A_getIf T_ok d_MD_ruleItem_87 f_MD_239 (hb_s hb23 sf_170) (fun x25 ex25 lx25 ux25 => ?_)
          replace H := H x25 ex25 lx25 ux25
          refine A_iconst d_MD_ruleItem_90 rfl ?_
          refine A_icmp_eq (tgt := 99) d_MD_ruleItem_91 (by decide) (fun c => ?_) (fun c => ?_)
          · replace H := H.1 c
            refine A_aload_n 0 d_MD_ruleItem_99 rfl rfl ?_
            refine A_getAv (z := some 179) T_ok d_MD_ruleItem_100 f_MD_38 (hb_s hb23 sf_170) (hb_m hb23 rfm_21) ?_
            refine A_iload_n 1 d_MD_ruleItem_103 rfl rfl ?_
            refine A_aload_n 0 d_MD_ruleItem_104 rfl rfl ?_
            refine A_callV0 m_MD_nameNumber T_ok d_MD_ruleItem_105 l_MD_350 k_MD_nameNumber (hb_s hb23 sf_170) rfl (by decide +kernel) (by decide) (Nat.le_of_ble_eq_true rfl) H (fun r h27 hq => ?_)
            clear H
            obtain ⟨z29, rfl, hb28, H⟩ := hq
            refine A_iastoreN d_MD_ruleItem_108 (hb_s hb28 sf_179) g14.1 g14.2 ?_
            refine A_hn (fun h30 eh30 => ?_)
            have hb31 := hb_i hb28 eh30
            replace H := H h30 eh30
            refine A_aload_n 0 d_MD_ruleItem_109 rfl rfl ?_
            refine A_getAv (z := some 179) T_ok d_MD_ruleItem_110 f_MD_38 (hb_s hb31 sf_170) (hb_m hb31 rfm_21) ?_
            refine A_iload_n 1 d_MD_ruleItem_113 rfl rfl ?_
            refine A_ialoadv (z := z29) d_MD_ruleItem_114 (hb_s hb31 sf_179) (by omega) (by omega) (mv_i eh30) ?_
            refine A_pc (pc' := 115) rfl ?_
            refine A_if_ge (tgt := 120) d_MD_ruleItem_115 (by decide) (fun c => ?_) (fun c => ?_)
            · replace H := H.1 c
              refine A_aload_n 0 d_MD_ruleItem_120 rfl rfl ?_
              refine A_getAv (z := some 180) T_ok d_MD_ruleItem_121 f_MD_41 (hb_s hb31 sf_170) (hb_m hb31 rfm_22) ?_
              refine A_iload_n 1 d_MD_ruleItem_124 rfl rfl ?_
              refine A_bipush d_MD_ruleItem_125 rfl ?_
              refine A_iastoreN d_MD_ruleItem_127 (hb_s hb31 sf_180) g14.1 g14.2 ?_
              refine A_hn (fun h35 eh35 => ?_)
              have hb36 := hb_i hb31 eh35
              replace H := H h35 eh35
              refine A_pc (pc' := 128) rfl ?_
              refine A_aload_n 0 d_MD_ruleItem_128 rfl rfl ?_
              refine A_callV0 m_MD_next T_ok d_MD_ruleItem_129 l_MD_309 k_MD_next (hb_s hb36 sf_170) rfl (by decide +kernel) (by decide) (Nat.le_of_ble_eq_true rfl) H (fun r h37 hq => ?_)
              clear H
              obtain ⟨z39, rfl, hb38, H⟩ := hq
              refine A_popI d_MD_ruleItem_132 ?_
              refine A_aload_n 0 d_MD_ruleItem_133 rfl rfl ?_
              refine A_getIf T_ok d_MD_ruleItem_134 f_MD_239 (hb_s hb38 sf_170) (fun x40 ex40 lx40 ux40 => ?_)
              replace H := H x40 ex40 lx40 ux40
              refine A_iconst d_MD_ruleItem_137 rfl ?_
              refine A_icmp_ne (tgt := 167) d_MD_ruleItem_138 (by decide) (fun c => ?_) (fun c => ?_)
              · replace H := H.2 c
                refine A_pc (pc' := 167) rfl ?_
                refine A_free (L' := [some (av_R (some 170)), none]) (And.intro rfl trivial) ?_
                exact b_MD_ruleItem_167    hb38 H
              · replace H := H.1 c
                refine A_aload_n 0 d_MD_ruleItem_141 rfl rfl ?_
                refine A_getAv (z := some 180) T_ok d_MD_ruleItem_142 f_MD_41 (hb_s hb38 sf_170) (hb_m hb38 rfm_22) ?_
                refine A_iload_n 1 d_MD_ruleItem_145 rfl rfl ?_
                refine A_aload_n 0 d_MD_ruleItem_146 rfl rfl ?_
                refine A_callV0 m_MD_nameNumber T_ok d_MD_ruleItem_147 l_MD_350 k_MD_nameNumber (hb_s hb38 sf_170) rfl (by decide +kernel) (by decide) (Nat.le_of_ble_eq_true rfl) H (fun r h42 hq => ?_)
                clear H
                obtain ⟨z44, rfl, hb43, H⟩ := hq
                refine A_iastoreN d_MD_ruleItem_150 (hb_s hb43 sf_180) g14.1 g14.2 ?_
                refine A_hn (fun h45 eh45 => ?_)
                have hb46 := hb_i hb43 eh45
                replace H := H h45 eh45
                refine A_aload_n 0 d_MD_ruleItem_151 rfl rfl ?_
                refine A_getAv (z := some 180) T_ok d_MD_ruleItem_152 f_MD_41 (hb_s hb46 sf_170) (hb_m hb46 rfm_22) ?_
                refine A_iload_n 1 d_MD_ruleItem_155 rfl rfl ?_
                refine A_ialoadv (z := z44) d_MD_ruleItem_156 (hb_s hb46 sf_180) (by omega) (by omega) (mv_i eh45) ?_
                refine A_pc (pc' := 157) rfl ?_
                refine A_if_ge (tgt := 162) d_MD_ruleItem_157 (by decide) (fun c => ?_) (fun c => ?_)
                · replace H := H.1 c
                  refine A_aload_n 0 d_MD_ruleItem_162 rfl rfl ?_
                  refine A_callV0 m_MD_next T_ok d_MD_ruleItem_163 l_MD_309 k_MD_next (hb_s hb46 sf_170) rfl (by decide +kernel) (by decide) (Nat.le_of_ble_eq_true rfl) H (fun r h49 hq => ?_)
                  clear H
                  obtain ⟨z51, rfl, hb50, H⟩ := hq
                  refine A_popI d_MD_ruleItem_166 ?_
                  refine A_pc (pc' := 167) rfl ?_
                  refine A_free (L' := [some (av_R (some 170)), none]) (And.intro rfl trivial) ?_
                  exact b_MD_ruleItem_167    hb50 H
                · replace H := H.2 c
                  refine A_iconst d_MD_ruleItem_160 rfl ?_
                  exact A_zret d_MD_ruleItem_161 (by decide) rfl (by decide) H
            · replace H := H.2 c
              refine A_iconst d_MD_ruleItem_118 rfl ?_
              exact A_zret d_MD_ruleItem_119 (by decide) rfl (by decide) H
          · replace H := H.2 c
            refine A_aload_n 0 d_MD_ruleItem_94 rfl rfl ?_
            refine A_callV0 m_MD_cant T_ok d_MD_ruleItem_95 l_MD_313 k_MD_cant (hb_s hb23 sf_170) rfl (by decide +kernel) (by decide) (Nat.le_of_ble_eq_true rfl) H (fun r h52 hq => ?_)
            clear H
            obtain ⟨z54, rfl, hb53, H⟩ := hq
            exact A_zret d_MD_ruleItem_98 (by decide) rfl H.1 H.2
        · replace H := H.1 c
          refine A_iconst d_MD_ruleItem_84 rfl ?_
          exact A_zret d_MD_ruleItem_85 (by decide) rfl (by decide) H
      · replace H := H.2 c
        refine A_iconst d_MD_ruleItem_68 rfl ?_
        exact A_zret d_MD_ruleItem_69 (by decide) rfl (by decide) H
    · replace H := H.2 c
      refine A_aload_n 0 d_MD_ruleItem_44 rfl rfl ?_
      refine A_callV0 m_MD_cant T_ok d_MD_ruleItem_45 l_MD_313 k_MD_cant (hb_s hb7 sf_170) rfl (by decide +kernel) (by decide) (Nat.le_of_ble_eq_true rfl) H (fun r h55 hq => ?_)
      clear H
      obtain ⟨z57, rfl, hb56, H⟩ := hq
      exact A_zret d_MD_ruleItem_48 (by decide) rfl H.1 H.2
  · replace H := H.1 c
    refine A_aload_n 0 d_MD_ruleItem_11 rfl rfl ?_
    refine A_iconst d_MD_ruleItem_12 rfl ?_
    refine A_aload_n 0 d_MD_ruleItem_13 rfl rfl ?_
    refine A_getIf T_ok d_MD_ruleItem_14 f_MD_242 (hb_s hb0 sf_170) (fun x58 ex58 lx58 ux58 => ?_)
    replace H := H x58 ex58 lx58 ux58
    refine A_callV2 m_MD_wrong T_ok d_MD_ruleItem_17 l_MD_245 k_MD_wrong (hb_s hb0 sf_170) rfl (by decide +kernel) (by decide) (Nat.le_of_ble_eq_true rfl) H (fun r h59 hq => ?_)
    clear H
    obtain ⟨z61, rfl, hb60, H⟩ := hq
    exact A_zret d_MD_ruleItem_20 (by decide) rfl H.1 H.2
theorem c_MD_ruleItem {G : cx_T} {s : Nat} {h : ah_T} {Q : Option av_T → ah_T → Prop} (hb0 : hb s h) (H : B_MD_ruleItem_0 G s h Q ) : con G 4 0 0 m_MD_ruleItem [av_R (some 170)] h Q := by
  have hS : isS s := hb0.2.1
  refine con_of (L := [some (av_R (some 170)), none]) (by decide +kernel) (Nat.le_of_ble_eq_true rfl) rfl ?_
  exact b_MD_ruleItem_0   hb0 (H )
def B_MD_rowItem_27 (G : cx_T) (s : Nat) (h : ah_T) (Q : Option av_T → ah_T → Prop) (X27 : ah_T → Prop) : Prop :=
 ∀ x1 : Int, x1 = h.2.1 170 4 → -2147483648 ≤ x1 → x1 ≤ 2147483647 → ((x1 = 2 → ∀ x3 : Int, x3 = h.2.1 181 1 → -2147483648 ≤ x3 → x3 ≤ 2147483647 → ((x3 = 12 → ∀ x28 : Int, x28 = h.2.1 170 5 → -2147483648 ≤ x28 → x28 ≤ 2147483647 → con G 0 0 0 m_MD_wrong [av_R (some 170), av_I 3, av_I x28] h (fun r h29 => ∃ z31 : Int, r = some (av_I z31) ∧ hb s h29 ∧ (z31 = 0 ∨ z31 = 1) ∧ Q (some (av_I z31)) h29)) ∧ (¬ x3 = 12 → con G 1 0 0 m_MD_nameNumber [av_R (some 170)] h (fun r h4 => ∃ z6 : Int, r = some (av_I z6) ∧ hb s h4 ∧ ((0 ≤ z6 → ∀ x9 : Int, x9 = h4.2.1 181 1 → -2147483648 ≤ x9 → x9 ≤ 2147483647 → ((-2147483648) ≤ (x9 + 12) ∧ (x9 + 12) ≤ 2147483647) ∧ (0 ≤ (x9 + 12) ∧ (x9 + 12) < 24) ∧ ∀ h12 : ah_T, h12 = st_i h4 182 ((x9 + 12)).toNat z6 → ((-2147483648) ≤ (x9 + 1) ∧ (x9 + 1) ≤ 2147483647) ∧ ∀ h17 : ah_T, h17 = st_i h12 181 1 (x9 + 1) → con G 2 0 0 m_MD_next [av_R (some 170)] h17 (fun r h19 => ∃ z21 : Int, r = some (av_I z21) ∧ hb s h19 ∧ con G 0 0 0 m_MD_isSign [av_R (some 170), av_I 59] h19 (fun r h22 => ∃ z24 : Int, r = some (av_I z24) ∧ hb s h22 ∧ ((z24 = 0 → X27 h22) ∧ (¬ z24 = 0 → con G 2 0 0 m_MD_next [av_R (some 170)] h22 (fun r h25 => ∃ z27 : Int, r = some (av_I z27) ∧ hb s h25 ∧ (z27 = 0 ∨ z27 = 1) ∧ Q (some (av_I z27)) h25)))))) ∧ (¬ 0 ≤ z6 → Q (some (av_I 0)) h4)))))) ∧ (¬ x1 = 2 → con G 1 0 0 m_MD_cant [av_R (some 170)] h (fun r h32 => ∃ z34 : Int, r = some (av_I z34) ∧ hb s h32 ∧ (z34 = 0 ∨ z34 = 1) ∧ Q (some (av_I z34)) h32)))
theorem b_MD_rowItem_27 {G : cx_T} {s : Nat} {h : ah_T} {Q : Option av_T → ah_T → Prop} {X27 : ah_T → Prop} (hX27 : ∀ (h : ah_T), hb s h → X27 h → aw G (rm_R 3 0 0) m_MD_rowItem 0 0 27 [some (av_R (some 170)), none] [] h Q) (hb0 : hb s h) (H : B_MD_rowItem_27 G s h Q X27) : aw G (rm_R 3 0 0) m_MD_rowItem 0 0 27 [some (av_R (some 170)), none] [] h Q := by
  unfold B_MD_rowItem_27 at H
  have hS : isS s := hb0.2.1
  refine A_aload_n 0 d_MD_rowItem_27 rfl rfl ?_
  refine A_getIf T_ok d_MD_rowItem_28 f_MD_239 (hb_s hb0 sf_170) (fun x1 ex1 lx1 ux1 => ?_)
  replace H := H x1 ex1 lx1 ux1
  refine A_iconst d_MD_rowItem_31 rfl ?_
  refine A_icmp_eq (tgt := 40) d_MD_rowItem_32 (by decide) (fun c => ?_) (fun c => ?_)
  · replace H := H.1 c
    refine A_aload_n 0 d_MD_rowItem_40 rfl rfl ?_
    refine A_getAv (z := some 181) T_ok d_MD_rowItem_41 f_MD_44 (hb_s hb0 sf_170) (hb_m hb0 rfm_23) ?_
    refine A_iconst d_MD_rowItem_44 rfl ?_
    refine A_ialoadf d_MD_rowItem_45 (hb_s hb0 sf_181) (by decide) (by decide) (fun x3 ex3 lx3 ux3 => ?_)
    replace H := H x3 ex3 lx3 ux3
    refine A_bipush d_MD_rowItem_46 rfl ?_
    refine A_pc (pc' := 48) rfl ?_
    refine A_icmp_ne (tgt := 61) d_MD_rowItem_48 (by decide) (fun c => ?_) (fun c => ?_)
    · replace H := H.2 c
      refine A_aload_n 0 d_MD_rowItem_61 rfl rfl ?_
      refine A_callV0 m_MD_nameNumber T_ok d_MD_rowItem_62 l_MD_350 k_MD_nameNumber (hb_s hb0 sf_170) rfl (by decide +kernel) (by decide) (Nat.le_of_ble_eq_true rfl) H (fun r h4 hq => ?_)
      clear H
      obtain ⟨z6, rfl, hb5, H⟩ := hq
      refine A_istore_n 1 (L' := [some (av_R (some 170)), some (av_I z6)]) d_MD_rowItem_65 rfl (Nat.le_of_ble_eq_true rfl) rfl ?_
      refine A_iload_n 1 d_MD_rowItem_66 rfl rfl ?_
      refine A_if_ge (tgt := 72) d_MD_rowItem_67 (by decide) (fun c => ?_) (fun c => ?_)
      · replace H := H.1 c
        refine A_aload_n 0 d_MD_rowItem_72 rfl rfl ?_
        refine A_getAv (z := some 182) T_ok d_MD_rowItem_73 f_MD_47 (hb_s hb5 sf_170) (hb_m hb5 rfm_24) ?_
        refine A_bipush d_MD_rowItem_76 rfl ?_
        refine A_aload_n 0 d_MD_rowItem_78 rfl rfl ?_
        refine A_getAv (z := some 181) T_ok d_MD_rowItem_79 f_MD_44 (hb_s hb5 sf_170) (hb_m hb5 rfm_23) ?_
        refine A_pc (pc' := 82) rfl ?_
        refine A_iconst d_MD_rowItem_82 rfl ?_
        refine A_ialoadf d_MD_rowItem_83 (hb_s hb5 sf_181) (by decide) (by decide) (fun x9 ex9 lx9 ux9 => ?_)
        replace H := H x9 ex9 lx9 ux9
        have g10 := H.1
        replace H := H.2
        refine A_iaddv (z := (x9 + 12)) d_MD_rowItem_84 (w32_to (by omega) (by unfold i32; omega)) ?_
        refine A_iload_n 1 d_MD_rowItem_85 rfl rfl ?_
        have g11 := H.1
        replace H := H.2
        refine A_iastoreN d_MD_rowItem_86 (hb_s hb5 sf_182) g11.1 g11.2 ?_
        refine A_hn (fun h12 eh12 => ?_)
        have hb13 := hb_i hb5 eh12
        replace H := H h12 eh12
        refine A_aload_n 0 d_MD_rowItem_87 rfl rfl ?_
        refine A_pc (pc' := 88) rfl ?_
        refine A_getAv (z := some 181) T_ok d_MD_rowItem_88 f_MD_44 (hb_s hb13 sf_170) (hb_m hb13 rfm_23) ?_
        refine A_iconst d_MD_rowItem_91 rfl ?_
        refine A_dup2RI d_MD_rowItem_92 ?_
        refine A_ialoadv (z := x9) d_MD_rowItem_93 (hb_s hb13 sf_181) (by decide) (by decide) ((mm_i eh12 (fun q => absurd q.1 (by decide))).trans ex9.symm) ?_
        refine A_iconst d_MD_rowItem_94 rfl ?_
        have g16 := H.1
        replace H := H.2
        refine A_iaddv (z := (x9 + 1)) d_MD_rowItem_95 (w32_to (by omega) (by unfold i32; omega)) ?_
        refine A_pc (pc' := 96) rfl ?_
        refine A_iastoreN d_MD_rowItem_96 (hb_s hb13 sf_181) (by decide) (by decide) ?_
        refine A_hn (fun h17 eh17 => ?_)
        have hb18 := hb_i hb13 eh17
        replace H := H h17 eh17
        refine A_aload_n 0 d_MD_rowItem_97 rfl rfl ?_
        refine A_callV0 m_MD_next T_ok d_MD_rowItem_98 l_MD_309 k_MD_next (hb_s hb18 sf_170) rfl (by decide +kernel) (by decide) (Nat.le_of_ble_eq_true rfl) H (fun r h19 hq => ?_)
        clear H
        obtain ⟨z21, rfl, hb20, H⟩ := hq
        refine A_popI d_MD_rowItem_101 ?_
        refine A_aload_n 0 d_MD_rowItem_102 rfl rfl ?_
        refine A_bipush d_MD_rowItem_103 rfl ?_
        refine A_callV1 m_MD_isSign T_ok d_MD_rowItem_105 l_MD_306 k_MD_isSign (hb_s hb20 sf_170) rfl (by decide +kernel) (by decide) (Nat.le_of_ble_eq_true rfl) H (fun r h22 hq => ?_)
        clear H
        obtain ⟨z24, rfl, hb23, H⟩ := hq
        refine A_if_eq (tgt := 27) d_MD_rowItem_108 (by decide) (fun c => ?_) (fun c => ?_)
        · replace H := H.1 c
          refine A_pc (pc' := 27) rfl ?_
          refine A_free (L' := [some (av_R (some 170)), none]) (And.intro rfl trivial) ?_
          exact hX27  h22  hb23 H
        · replace H := H.2 c
          refine A_aload_n 0 d_MD_rowItem_111 rfl rfl ?_
          refine A_callV0 m_MD_next T_ok d_MD_rowItem_112 l_MD_309 k_MD_next (hb_s hb23 sf_170) rfl (by decide +kernel) (by decide) (Nat.le_of_ble_eq_true rfl) H (fun r h25 hq => ?_)
          clear H
          obtain ⟨z27, rfl, hb26, H⟩ := hq
          exact A_zret d_MD_rowItem_115 (by decide) rfl H.1 H.2
      · replace H := H.2 c
        refine A_iconst d_MD_rowItem_70 rfl ?_
        exact A_zret d_MD_rowItem_71 (by decide) rfl (by decide) H
    · replace H := H.1 c
      refine A_aload_n 0 d_MD_rowItem_51 rfl rfl ?_
      refine A_iconst d_MD_rowItem_52 rfl ?_
      refine A_aload_n 0 d_MD_rowItem_53 rfl rfl ?_
      refine A_getIf T_ok d_MD_rowItem_54 f_MD_242 (hb_s hb0 sf_170) (fun x28 ex28 lx28 ux28 => ?_)
      replace H := H x28 ex28 lx28 ux28
      refine A_callV2 m_MD_wrong T_ok d_MD_rowItem_57 l_MD_245 k_MD_wrong (hb_s hb0 sf_170) rfl (by decide +kernel) (by decide) (Nat.le_of_ble_eq_true rfl) H (fun r h29 hq => ?_)
      clear H
      obtain ⟨z31, rfl, hb30, H⟩ := hq
      exact A_zret d_MD_rowItem_60 (by decide) rfl H.1 H.2
  · replace H := H.2 c
    refine A_aload_n 0 d_MD_rowItem_35 rfl rfl ?_
    refine A_callV0 m_MD_cant T_ok d_MD_rowItem_36 l_MD_313 k_MD_cant (hb_s hb0 sf_170) rfl (by decide +kernel) (by decide) (Nat.le_of_ble_eq_true rfl) H (fun r h32 hq => ?_)
    clear H
    obtain ⟨z34, rfl, hb33, H⟩ := hq
    exact A_zret d_MD_rowItem_39 (by decide) rfl H.1 H.2
theorem lp_MD_rowItem_27 {G : cx_T} {s : Nat} {Q : Option av_T → ah_T → Prop} (I : ah_T → Prop) (μ : ah_T → Nat) (hI : ∀ (h : ah_T), hb s h → I h → B_MD_rowItem_27 G s h Q (fun h' => I h' ∧ μ h' < μ h)) : ∀ (h : ah_T), hb s h → I h → aw G (rm_R 3 0 0) m_MD_rowItem 0 0 27 [some (av_R (some 170)), none] [] h Q := by
  have key : ∀ (n : Nat) (h : ah_T), hb s h → I  h → μ  h < n → aw G (rm_R 3 0 0) m_MD_rowItem 0 0 27 [some (av_R (some 170)), none] [] h Q := by
    intro n
    induction n with
    | zero => intro  h  hb0 hi hm; omega
    | succ n ih => intro  h  hb0 hi hm; exact b_MD_rowItem_27  (fun  h'  hb' hx => ih  h'  hb' hx.1 (by have := hx.2; omega))  hb0 (hI  h  hb0 hi)
  exact fun  h  hb0 hi => key _  h  hb0 hi (Nat.lt_succ_self _)
def B_MD_rowItem_0 (G : cx_T) (s : Nat) (h : ah_T) (Q : Option av_T → ah_T → Prop) (X27 : ah_T → Prop) : Prop :=
 ∀ x1 : Int, x1 = h.2.1 170 61 → (x1 = 0 ∨ x1 = 1) → ((x1 = 0 → ∀ h2 : ah_T, h2 = st_i h 170 61 1 → con G 2 0 0 m_MD_next [av_R (some 170)] h2 (fun r h4 => ∃ z6 : Int, r = some (av_I z6) ∧ hb s h4 ∧ X27 h4)) ∧ (¬ x1 = 0 → ∀ x7 : Int, x7 = h.2.1 170 5 → -2147483648 ≤ x7 → x7 ≤ 2147483647 → con G 0 0 0 m_MD_wrong [av_R (some 170), av_I 4, av_I x7] h (fun r h8 => ∃ z10 : Int, r = some (av_I z10) ∧ hb s h8 ∧ (z10 = 0 ∨ z10 = 1) ∧ Q (some (av_I z10)) h8)))
theorem b_MD_rowItem_0 {G : cx_T} {s : Nat} {h : ah_T} {Q : Option av_T → ah_T → Prop} {X27 : ah_T → Prop} (hX27 : ∀ (h : ah_T), hb s h → X27 h → aw G (rm_R 3 0 0) m_MD_rowItem 0 0 27 [some (av_R (some 170)), none] [] h Q) (hb0 : hb s h) (H : B_MD_rowItem_0 G s h Q X27) : aw G (rm_R 3 0 0) m_MD_rowItem 0 0 0 [some (av_R (some 170)), none] [] h Q := by
  unfold B_MD_rowItem_0 at H
  have hS : isS s := hb0.2.1
  refine A_aload_n 0 d_MD_rowItem_0 rfl rfl ?_
  refine A_getZn T_ok d_MD_rowItem_1 f_MD_323 (hb_s hb0 sf_170) (fun x1 ex1 bx1 => ?_)
  replace H := H x1 ex1 bx1
  refine A_if_eq (tgt := 17) d_MD_rowItem_4 (by decide) (fun c => ?_) (fun c => ?_)
  · replace H := H.1 c
    refine A_aload_n 0 d_MD_rowItem_17 rfl rfl ?_
    refine A_iconst d_MD_rowItem_18 rfl ?_
    refine A_putZ T_ok d_MD_rowItem_19 f_MD_323 (hb_s hb0 sf_170) fin_f (by decide) ?_
    refine A_hn (fun h2 eh2 => ?_)
    have hb3 := hb_i hb0 eh2
    replace H := H h2 eh2
    refine A_aload_n 0 d_MD_rowItem_22 rfl rfl ?_
    refine A_callV0 m_MD_next T_ok d_MD_rowItem_23 l_MD_309 k_MD_next (hb_s hb3 sf_170) rfl (by decide +kernel) (by decide) (Nat.le_of_ble_eq_true rfl) H (fun r h4 hq => ?_)
    clear H
    obtain ⟨z6, rfl, hb5, H⟩ := hq
    refine A_popI d_MD_rowItem_26 ?_
    refine A_pc (pc' := 27) rfl ?_
    exact hX27  h4  hb5 H
  · replace H := H.2 c
    refine A_aload_n 0 d_MD_rowItem_7 rfl rfl ?_
    refine A_iconst d_MD_rowItem_8 rfl ?_
    refine A_aload_n 0 d_MD_rowItem_9 rfl rfl ?_
    refine A_getIf T_ok d_MD_rowItem_10 f_MD_242 (hb_s hb0 sf_170) (fun x7 ex7 lx7 ux7 => ?_)
    replace H := H x7 ex7 lx7 ux7
    refine A_callV2 m_MD_wrong T_ok d_MD_rowItem_13 l_MD_245 k_MD_wrong (hb_s hb0 sf_170) rfl (by decide +kernel) (by decide) (Nat.le_of_ble_eq_true rfl) H (fun r h8 hq => ?_)
    clear H
    obtain ⟨z10, rfl, hb9, H⟩ := hq
    exact A_zret d_MD_rowItem_16 (by decide) rfl H.1 H.2
theorem c_MD_rowItem {G : cx_T} {s : Nat} {h : ah_T} {Q : Option av_T → ah_T → Prop} {X27 : ah_T → Prop} (hX27 : ∀ (h : ah_T), hb s h → X27 h → aw G (rm_R 3 0 0) m_MD_rowItem 0 0 27 [some (av_R (some 170)), none] [] h Q) (hb0 : hb s h) (H : B_MD_rowItem_0 G s h Q X27) : con G 3 0 0 m_MD_rowItem [av_R (some 170)] h Q := by
  have hS : isS s := hb0.2.1
  refine con_of (L := [some (av_R (some 170)), none]) (by decide +kernel) (Nat.le_of_ble_eq_true rfl) rfl ?_
  exact b_MD_rowItem_0  hX27 hb0 (H )
def B_MD_put_0 (G : cx_T) (s : Nat) (a1 : Int) (h : ah_T) (Q : Option av_T → ah_T → Prop) : Prop :=
 ∀ x2 : Int, x2 = h.2.1 170 43 → -2147483648 ≤ x2 → x2 ≤ 2147483647 → (0 ≤ x2 ∧ x2 < 2100) ∧ ∀ h4 : ah_T, h4 = st_i h 201 (x2).toNat a1 → ((-2147483648) ≤ (x2 + 1) ∧ (x2 + 1) ≤ 2147483647) ∧ ∀ h8 : ah_T, h8 = st_i h4 170 43 (x2 + 1) → Q none h8
theorem b_MD_put_0 {G : cx_T} {s : Nat} {a1 : Int} {h : ah_T} {Q : Option av_T → ah_T → Prop} (hb0 : hb s h) (H : B_MD_put_0 G s a1 h Q ) : aw G (rm_R 0 0 0) m_MD_put 0 0 0 [some (av_R (some 170)), some (av_I a1)] [] h Q := by
  unfold B_MD_put_0 at H
  have hS : isS s := hb0.2.1
  refine A_aload_n 0 d_MD_put_0 rfl rfl ?_
  refine A_getAv (z := some 201) T_ok d_MD_put_1 f_MD_106 (hb_s hb0 sf_170) (hb_m hb0 rfm_44) ?_
  refine A_aload_n 0 d_MD_put_4 rfl rfl ?_
  refine A_getIf T_ok d_MD_put_5 f_MD_354 (hb_s hb0 sf_170) (fun x2 ex2 lx2 ux2 => ?_)
  replace H := H x2 ex2 lx2 ux2
  refine A_iload_n 1 d_MD_put_8 rfl rfl ?_
  refine A_pc (pc' := 9) rfl ?_
  have g3 := H.1
  replace H := H.2
  refine A_iastoreN d_MD_put_9 (hb_s hb0 sf_201) g3.1 g3.2 ?_
  refine A_hn (fun h4 eh4 => ?_)
  have hb5 := hb_i hb0 eh4
  replace H := H h4 eh4
  refine A_aload_n 0 d_MD_put_10 rfl rfl ?_
  refine A_dupR d_MD_put_11 ?_
  refine A_getIv (z := x2) T_ok d_MD_put_12 f_MD_354 (hb_s hb5 sf_170) ((mm_i eh4 (fun q => absurd q.1 (by decide))).trans ex2.symm) ?_
  refine A_iconst d_MD_put_15 rfl ?_
  have g7 := H.1
  replace H := H.2
  refine A_iaddv (z := (x2 + 1)) d_MD_put_16 (w32_to (by omega) (by unfold i32; omega)) ?_
  refine A_pc (pc' := 17) rfl ?_
  refine A_putI T_ok d_MD_put_17 f_MD_354 (hb_s hb5 sf_170) fin_f ?_
  refine A_hn (fun h8 eh8 => ?_)
  have hb9 := hb_i hb5 eh8
  replace H := H h8 eh8
  exact A_vret d_MD_put_20 (by decide) rfl H
theorem c_MD_put {G : cx_T} {s : Nat} {a1 : Int} {h : ah_T} {Q : Option av_T → ah_T → Prop} (hb0 : hb s h) (H : i32 a1 → B_MD_put_0 G s a1 h Q ) : con G 0 0 0 m_MD_put [av_R (some 170), av_I a1] h Q := by
  have hS : isS s := hb0.2.1
  refine con_of (L := [some (av_R (some 170)), some (av_I a1)]) (by decide +kernel) (Nat.le_of_ble_eq_true rfl) rfl ?_
  refine A_locI 1 rfl (fun ra1 => ?_)
  exact b_MD_put_0   hb0 (H ra1)
def B_MD_pitchOf_0 (G : cx_T) (s : Nat) (a1 : Int) (h : ah_T) (Q : Option av_T → ah_T → Prop) : Prop :=
 ∀ x1 : Int, x1 = h.2.1 170 64 → -2147483648 ≤ x1 → x1 ≤ 2147483647 → ((x1 = 300 → ∀ x34 : Int, x34 = h.2.1 170 5 → -2147483648 ≤ x34 → x34 ≤ 2147483647 → con G 0 0 0 m_MD_wrong [av_R (some 170), av_I 3, av_I x34] h (fun r h35 => ∃ z37 : Int, r = some (av_I z37) ∧ hb s h35 ∧ (z37 = 0 ∨ z37 = 1) ∧ Q (some (av_I z37)) h35)) ∧ (¬ x1 = 300 → ((-2147483648) ≤ (x1 + 1) ∧ (x1 + 1) ≤ 2147483647) ∧ ∀ h4 : ah_T, h4 = st_i h 170 64 (x1 + 1) → ((-2147483648) ≤ (4 * a1) ∧ (4 * a1) ≤ 2147483647) ∧ (0 ≤ a1 ∧ a1 < 2100) ∧ ∀ x8 : Int, x8 = h4.2.1 204 (a1).toNat → -2147483648 ≤ x8 → x8 ≤ 2147483647 → ((-2147483648) ≤ (4 * a1 + x8) ∧ (4 * a1 + x8) ≤ 2147483647) ∧ ∀ x12 : Int, x12 = h4.2.1 170 8 → -2147483648 ≤ x12 → x12 ≤ 2147483647 → (0 ≤ (4 * a1 + x8) ∧ (4 * a1 + x8) < 8400) ∧ ∀ h14 : ah_T, h14 = st_i h4 205 ((4 * a1 + x8)).toNat x12 → ∀ x17 : Int, x17 = h14.2.1 170 9 → -2147483648 ≤ x17 → x17 ≤ 2147483647 → ∀ h18 : ah_T, h18 = st_i h14 206 ((4 * a1 + x8)).toNat x17 → ∀ x21 : Int, x21 = h18.2.1 207 (a1).toNat → -2147483648 ≤ x21 → x21 ≤ 2147483647 → ∀ x22 : Int, x22 = h18.2.1 170 10 → -2147483648 ≤ x22 → x22 ≤ 2147483647 → ((-2147483648) ≤ (x21 + x22) ∧ (x21 + x22) ≤ 2147483647) ∧ ∀ h24 : ah_T, h24 = st_i h18 207 (a1).toNat (x21 + x22) → ((-2147483648) ≤ (x8 + 1) ∧ (x8 + 1) ≤ 2147483647) ∧ ∀ h29 : ah_T, h29 = st_i h24 204 (a1).toNat (x8 + 1) → con G 2 0 0 m_MD_next [av_R (some 170)] h29 (fun r h31 => ∃ z33 : Int, r = some (av_I z33) ∧ hb s h31 ∧ (z33 = 0 ∨ z33 = 1) ∧ Q (some (av_I z33)) h31)))
theorem b_MD_pitchOf_0 {G : cx_T} {s : Nat} {a1 : Int} {h : ah_T} {Q : Option av_T → ah_T → Prop} (hb0 : hb s h) (H : B_MD_pitchOf_0 G s a1 h Q ) : aw G (rm_R 3 0 0) m_MD_pitchOf 0 0 0 [some (av_R (some 170)), some (av_I a1), none] [] h Q := by
  unfold B_MD_pitchOf_0 at H
  have hS : isS s := hb0.2.1
  refine A_aload_n 0 d_MD_pitchOf_0 rfl rfl ?_
  refine A_getIf T_ok d_MD_pitchOf_1 f_MD_360 (hb_s hb0 sf_170) (fun x1 ex1 lx1 ux1 => ?_)
  replace H := H x1 ex1 lx1 ux1
  refine A_sipush d_MD_pitchOf_4 rfl ?_
  refine A_icmp_ne (tgt := 20) d_MD_pitchOf_7 (by decide) (fun c => ?_) (fun c => ?_)
  · replace H := H.2 c
    refine A_aload_n 0 d_MD_pitchOf_20 rfl rfl ?_
    refine A_dupR d_MD_pitchOf_21 ?_
    refine A_getIv (z := x1) T_ok d_MD_pitchOf_22 f_MD_360 (hb_s hb0 sf_170) ex1.symm ?_
    refine A_iconst d_MD_pitchOf_25 rfl ?_
    have g3 := H.1
    replace H := H.2
    refine A_iaddv (z := (x1 + 1)) d_MD_pitchOf_26 (w32_to (by omega) (by unfold i32; omega)) ?_
    refine A_pc (pc' := 27) rfl ?_
    refine A_putI T_ok d_MD_pitchOf_27 f_MD_360 (hb_s hb0 sf_170) fin_f ?_
    refine A_hn (fun h4 eh4 => ?_)
    have hb5 := hb_i hb0 eh4
    replace H := H h4 eh4
    refine A_iconst d_MD_pitchOf_30 rfl ?_
    refine A_iload_n 1 d_MD_pitchOf_31 rfl rfl ?_
    have g6 := H.1
    replace H := H.2
    refine A_imulv (z := (4 * a1)) d_MD_pitchOf_32 (w32_to (by omega) (by unfold i32; omega)) ?_
    refine A_aload_n 0 d_MD_pitchOf_33 rfl rfl ?_
    refine A_getAv (z := some 204) T_ok d_MD_pitchOf_34 f_MD_115 (hb_s hb5 sf_170) (hb_m hb5 rfm_47) ?_
    refine A_pc (pc' := 37) rfl ?_
    refine A_iload_n 1 d_MD_pitchOf_37 rfl rfl ?_
    have g9 := H.1
    replace H := H.2
    refine A_ialoadf d_MD_pitchOf_38 (hb_s hb5 sf_204) g9.1 g9.2 (fun x8 ex8 lx8 ux8 => ?_)
    replace H := H x8 ex8 lx8 ux8
    have g10 := H.1
    replace H := H.2
    refine A_iaddv (z := (4 * a1 + x8)) d_MD_pitchOf_39 (w32_to (by omega) (by unfold i32; omega)) ?_
    refine A_istore_n 2 (L' := [some (av_R (some 170)), some (av_I a1), some (av_I (4 * a1 + x8))]) d_MD_pitchOf_40 rfl (Nat.le_of_ble_eq_true rfl) rfl ?_
    refine A_aload_n 0 d_MD_pitchOf_41 rfl rfl ?_
    refine A_getAv (z := some 205) T_ok d_MD_pitchOf_42 f_MD_118 (hb_s hb5 sf_170) (hb_m hb5 rfm_48) ?_
    refine A_pc (pc' := 45) rfl ?_
    refine A_iload_n 2 d_MD_pitchOf_45 rfl rfl ?_
    refine A_aload_n 0 d_MD_pitchOf_46 rfl rfl ?_
    refine A_getIf T_ok d_MD_pitchOf_47 f_MD_284 (hb_s hb5 sf_170) (fun x12 ex12 lx12 ux12 => ?_)
    replace H := H x12 ex12 lx12 ux12
    have g13 := H.1
    replace H := H.2
    refine A_iastoreN d_MD_pitchOf_50 (hb_s hb5 sf_205) g13.1 g13.2 ?_
    refine A_hn (fun h14 eh14 => ?_)
    have hb15 := hb_i hb5 eh14
    replace H := H h14 eh14
    refine A_aload_n 0 d_MD_pitchOf_51 rfl rfl ?_
    refine A_getAv (z := some 206) T_ok d_MD_pitchOf_52 f_MD_121 (hb_s hb15 sf_170) (hb_m hb15 rfm_49) ?_
    refine A_pc (pc' := 55) rfl ?_
    refine A_iload_n 2 d_MD_pitchOf_55 rfl rfl ?_
    refine A_aload_n 0 d_MD_pitchOf_56 rfl rfl ?_
    refine A_getIf T_ok d_MD_pitchOf_57 f_MD_287 (hb_s hb15 sf_170) (fun x17 ex17 lx17 ux17 => ?_)
    replace H := H x17 ex17 lx17 ux17
    refine A_iastoreN d_MD_pitchOf_60 (hb_s hb15 sf_206) g13.1 g13.2 ?_
    refine A_hn (fun h18 eh18 => ?_)
    have hb19 := hb_i hb15 eh18
    replace H := H h18 eh18
    refine A_aload_n 0 d_MD_pitchOf_61 rfl rfl ?_
    refine A_getAv (z := some 207) T_ok d_MD_pitchOf_62 f_MD_124 (hb_s hb19 sf_170) (hb_m hb19 rfm_50) ?_
    refine A_pc (pc' := 65) rfl ?_
    refine A_iload_n 1 d_MD_pitchOf_65 rfl rfl ?_
    refine A_dup2RI d_MD_pitchOf_66 ?_
    refine A_ialoadf d_MD_pitchOf_67 (hb_s hb19 sf_207) g9.1 g9.2 (fun x21 ex21 lx21 ux21 => ?_)
    replace H := H x21 ex21 lx21 ux21
    refine A_aload_n 0 d_MD_pitchOf_68 rfl rfl ?_
    refine A_getIf T_ok d_MD_pitchOf_69 f_MD_278 (hb_s hb19 sf_170) (fun x22 ex22 lx22 ux22 => ?_)
    replace H := H x22 ex22 lx22 ux22
    have g23 := H.1
    replace H := H.2
    refine A_iaddv (z := (x21 + x22)) d_MD_pitchOf_72 (w32_to (by omega) (by unfold i32; omega)) ?_
    refine A_pc (pc' := 73) rfl ?_
    refine A_iastoreN d_MD_pitchOf_73 (hb_s hb19 sf_207) g9.1 g9.2 ?_
    refine A_hn (fun h24 eh24 => ?_)
    have hb25 := hb_i hb19 eh24
    replace H := H h24 eh24
    refine A_aload_n 0 d_MD_pitchOf_74 rfl rfl ?_
    refine A_getAv (z := some 204) T_ok d_MD_pitchOf_75 f_MD_115 (hb_s hb25 sf_170) (hb_m hb25 rfm_47) ?_
    refine A_iload_n 1 d_MD_pitchOf_78 rfl rfl ?_
    refine A_dup2RI d_MD_pitchOf_79 ?_
    refine A_ialoadv (z := x8) d_MD_pitchOf_80 (hb_s hb25 sf_204) (by omega) (by omega) ((mm_i eh24 (fun q => absurd q.1 (by decide))).trans ((mm_i eh18 (fun q => absurd q.1 (by decide))).trans ((mm_i eh14 (fun q => absurd q.1 (by decide))).trans ex8.symm))) ?_
    refine A_pc (pc' := 81) rfl ?_
    refine A_iconst d_MD_pitchOf_81 rfl ?_
    have g28 := H.1
    replace H := H.2
    refine A_iaddv (z := (x8 + 1)) d_MD_pitchOf_82 (w32_to (by omega) (by unfold i32; omega)) ?_
    refine A_iastoreN d_MD_pitchOf_83 (hb_s hb25 sf_204) g9.1 g9.2 ?_
    refine A_hn (fun h29 eh29 => ?_)
    have hb30 := hb_i hb25 eh29
    replace H := H h29 eh29
    refine A_aload_n 0 d_MD_pitchOf_84 rfl rfl ?_
    refine A_callV0 m_MD_next T_ok d_MD_pitchOf_85 l_MD_309 k_MD_next (hb_s hb30 sf_170) rfl (by decide +kernel) (by decide) (Nat.le_of_ble_eq_true rfl) H (fun r h31 hq => ?_)
    clear H
    obtain ⟨z33, rfl, hb32, H⟩ := hq
    exact A_zret d_MD_pitchOf_88 (by decide) rfl H.1 H.2
  · replace H := H.1 c
    refine A_aload_n 0 d_MD_pitchOf_10 rfl rfl ?_
    refine A_iconst d_MD_pitchOf_11 rfl ?_
    refine A_aload_n 0 d_MD_pitchOf_12 rfl rfl ?_
    refine A_getIf T_ok d_MD_pitchOf_13 f_MD_242 (hb_s hb0 sf_170) (fun x34 ex34 lx34 ux34 => ?_)
    replace H := H x34 ex34 lx34 ux34
    refine A_callV2 m_MD_wrong T_ok d_MD_pitchOf_16 l_MD_245 k_MD_wrong (hb_s hb0 sf_170) rfl (by decide +kernel) (by decide) (Nat.le_of_ble_eq_true rfl) H (fun r h35 hq => ?_)
    clear H
    obtain ⟨z37, rfl, hb36, H⟩ := hq
    exact A_zret d_MD_pitchOf_19 (by decide) rfl H.1 H.2
theorem c_MD_pitchOf {G : cx_T} {s : Nat} {a1 : Int} {h : ah_T} {Q : Option av_T → ah_T → Prop} (hb0 : hb s h) (H : i32 a1 → B_MD_pitchOf_0 G s a1 h Q ) : con G 3 0 0 m_MD_pitchOf [av_R (some 170), av_I a1] h Q := by
  have hS : isS s := hb0.2.1
  refine con_of (L := [some (av_R (some 170)), some (av_I a1), none]) (by decide +kernel) (Nat.le_of_ble_eq_true rfl) rfl ?_
  refine A_locI 1 rfl (fun ra1 => ?_)
  exact b_MD_pitchOf_0   hb0 (H ra1)
def B_MD_soundPart_358 (G : cx_T) (s : Nat) (t0 : Int) (h : ah_T) (Q : Option av_T → ah_T → Prop) : Prop :=
 (t0 = 0 ∨ t0 = 1) ∧ Q (some (av_I t0)) h
theorem b_MD_soundPart_358 {G : cx_T} {s : Nat} {t0 : Int} {h : ah_T} {Q : Option av_T → ah_T → Prop} (hb0 : hb s h) (H : B_MD_soundPart_358 G s t0 h Q ) : aw G (rm_R 4 0 0) m_MD_soundPart 0 0 358 [none, none, none] [av_I t0] h Q := by
  unfold B_MD_soundPart_358 at H
  have hS : isS s := hb0.2.1
  exact A_zret d_MD_soundPart_358 (by decide) rfl H.1 H.2
def B_MD_soundPart_267 (G : cx_T) (s : Nat) (v1 : Int) (v2 : Int) (h : ah_T) (Q : Option av_T → ah_T → Prop) (X267 : Int → Int → ah_T → Prop) : Prop :=
 con G 0 0 0 m_MD_isSign [av_R (some 170), av_I 46] h (fun r h1 => ∃ z3 : Int, r = some (av_I z3) ∧ hb s h1 ∧ ((z3 = 0 → con G 0 0 0 m_MD_isSign [av_R (some 170), av_I 126] h1 (fun r h5 => ∃ z7 : Int, r = some (av_I z7) ∧ hb s h5 ∧ (0 ≤ v1 ∧ v1 < 2100) ∧ (z7 = 0 ∨ z7 = 1) ∧ ∀ h9 : ah_T, h9 = st_i h5 208 (v1).toNat z7 → ∀ x12 : Int, x12 = h9.2.1 208 (v1).toNat → (x12 = 0 ∨ x12 = 1) → ((x12 = 0 → Q (some (av_I 1)) h9) ∧ (¬ x12 = 0 → ((v2 = 0 → con G 2 0 0 m_MD_next [av_R (some 170)] h9 (fun r h13 => ∃ z15 : Int, r = some (av_I z15) ∧ hb s h13 ∧ B_MD_soundPart_358 G s (z15) h13 Q )) ∧ (¬ v2 = 0 → ∀ x16 : Int, x16 = h9.2.1 170 5 → -2147483648 ≤ x16 → x16 ≤ 2147483647 → con G 0 0 0 m_MD_wrong [av_R (some 170), av_I 7, av_I x16] h9 (fun r h17 => ∃ z19 : Int, r = some (av_I z19) ∧ hb s h17 ∧ B_MD_soundPart_358 G s (z19) h17 Q ))))))) ∧ (¬ z3 = 0 → (0 ≤ v1 ∧ v1 < 2100) ∧ ∀ x21 : Int, x21 = h1.2.1 209 (v1).toNat → -2147483648 ≤ x21 → x21 ≤ 2147483647 → ((x21 = 3 → ∀ x31 : Int, x31 = h1.2.1 170 5 → -2147483648 ≤ x31 → x31 ≤ 2147483647 → con G 0 0 0 m_MD_wrong [av_R (some 170), av_I 3, av_I x31] h1 (fun r h32 => ∃ z34 : Int, r = some (av_I z34) ∧ hb s h32 ∧ (z34 = 0 ∨ z34 = 1) ∧ Q (some (av_I z34)) h32)) ∧ (¬ x21 = 3 → ((-2147483648) ≤ (x21 + 1) ∧ (x21 + 1) ≤ 2147483647) ∧ ∀ h26 : ah_T, h26 = st_i h1 209 (v1).toNat (x21 + 1) → con G 2 0 0 m_MD_next [av_R (some 170)] h26 (fun r h28 => ∃ z30 : Int, r = some (av_I z30) ∧ hb s h28 ∧ X267 (v1) (v2) h28))))))
theorem b_MD_soundPart_267 {G : cx_T} {s : Nat} {v1 : Int} {v2 : Int} {h : ah_T} {Q : Option av_T → ah_T → Prop} {X267 : Int → Int → ah_T → Prop} (hX267 : ∀ (v1 : Int) (v2 : Int) (h : ah_T), hb s h → X267 v1 v2 h → aw G (rm_R 4 0 0) m_MD_soundPart 0 0 267 [some (av_R (some 170)), some (av_I v1), some (av_I v2)] [] h Q) (hb0 : hb s h) (H : B_MD_soundPart_267 G s v1 v2 h Q X267) : aw G (rm_R 4 0 0) m_MD_soundPart 0 0 267 [some (av_R (some 170)), some (av_I v1), some (av_I v2)] [] h Q := by
  unfold B_MD_soundPart_267 at H
  have hS : isS s := hb0.2.1
  refine A_aload_n 0 d_MD_soundPart_267 rfl rfl ?_
  refine A_bipush d_MD_soundPart_268 rfl ?_
  refine A_callV1 m_MD_isSign T_ok d_MD_soundPart_270 l_MD_306 k_MD_isSign (hb_s hb0 sf_170) rfl (by decide +kernel) (by decide) (Nat.le_of_ble_eq_true rfl) H (fun r h1 hq => ?_)
  clear H
  obtain ⟨z3, rfl, hb2, H⟩ := hq
  refine A_if_eq (tgt := 314) d_MD_soundPart_273 (by decide) (fun c => ?_) (fun c => ?_)
  · replace H := H.1 c
    refine A_aload_n 0 d_MD_soundPart_314 rfl rfl ?_
    refine A_getAv (z := some 208) T_ok d_MD_soundPart_315 f_MD_127 (hb_s hb2 sf_170) (hb_m hb2 rfm_51) ?_
    refine A_iload_n 1 d_MD_soundPart_318 rfl rfl ?_
    refine A_aload_n 0 d_MD_soundPart_319 rfl rfl ?_
    refine A_bipush d_MD_soundPart_320 rfl ?_
    refine A_pc (pc' := 322) rfl ?_
    refine A_callV1 m_MD_isSign T_ok d_MD_soundPart_322 l_MD_306 k_MD_isSign (hb_s hb2 sf_170) rfl (by decide +kernel) (by decide) (Nat.le_of_ble_eq_true rfl) H (fun r h5 hq => ?_)
    clear H
    obtain ⟨z7, rfl, hb6, H⟩ := hq
    have g8 := H.1
    replace H := H.2
    have H1 := H.1
    replace H := H.2
    refine A_zastoreN d_MD_soundPart_325 (hb_s hb6 sf_208) g8.1 g8.2 H1 ?_
    refine A_hn (fun h9 eh9 => ?_)
    have hb10 := hb_i hb6 eh9
    replace H := H h9 eh9
    refine A_aload_n 0 d_MD_soundPart_326 rfl rfl ?_
    refine A_getAv (z := some 208) T_ok d_MD_soundPart_327 f_MD_127 (hb_s hb10 sf_170) (hb_m hb10 rfm_51) ?_
    refine A_iload_n 1 d_MD_soundPart_330 rfl rfl ?_
    refine A_zaloadn d_MD_soundPart_331 (hb_s hb10 sf_208) g8.1 g8.2 (fun x12 ex12 bx12 => ?_)
    replace H := H x12 ex12 bx12
    refine A_pc (pc' := 332) rfl ?_
    refine A_if_ne (tgt := 337) d_MD_soundPart_332 (by decide) (fun c => ?_) (fun c => ?_)
    · replace H := H.2 c
      refine A_iload_n 2 d_MD_soundPart_337 rfl rfl ?_
      refine A_if_eq (tgt := 354) d_MD_soundPart_338 (by decide) (fun c => ?_) (fun c => ?_)
      · replace H := H.1 c
        refine A_aload_n 0 d_MD_soundPart_354 rfl rfl ?_
        refine A_callV0 m_MD_next T_ok d_MD_soundPart_355 l_MD_309 k_MD_next (hb_s hb10 sf_170) rfl (by decide +kernel) (by decide) (Nat.le_of_ble_eq_true rfl) H (fun r h13 hq => ?_)
        clear H
        obtain ⟨z15, rfl, hb14, H⟩ := hq
        refine A_pc (pc' := 358) rfl ?_
        refine A_free (L' := [none, none, none]) trivial ?_
        exact b_MD_soundPart_358    hb14 H
      · replace H := H.2 c
        refine A_aload_n 0 d_MD_soundPart_341 rfl rfl ?_
        refine A_bipush d_MD_soundPart_342 rfl ?_
        refine A_aload_n 0 d_MD_soundPart_344 rfl rfl ?_
        refine A_getIf T_ok d_MD_soundPart_345 f_MD_242 (hb_s hb10 sf_170) (fun x16 ex16 lx16 ux16 => ?_)
        replace H := H x16 ex16 lx16 ux16
        refine A_callV2 m_MD_wrong T_ok d_MD_soundPart_348 l_MD_245 k_MD_wrong (hb_s hb10 sf_170) rfl (by decide +kernel) (by decide) (Nat.le_of_ble_eq_true rfl) H (fun r h17 hq => ?_)
        clear H
        obtain ⟨z19, rfl, hb18, H⟩ := hq
        refine A_goto (tgt := 358) d_MD_soundPart_351 (by decide) ?_
        refine A_pc (pc' := 358) rfl ?_
        refine A_free (L' := [none, none, none]) trivial ?_
        exact b_MD_soundPart_358    hb18 H
    · replace H := H.1 c
      refine A_iconst d_MD_soundPart_335 rfl ?_
      exact A_zret d_MD_soundPart_336 (by decide) rfl (by decide) H
  · replace H := H.2 c
    refine A_aload_n 0 d_MD_soundPart_276 rfl rfl ?_
    refine A_getAv (z := some 209) T_ok d_MD_soundPart_277 f_MD_130 (hb_s hb2 sf_170) (hb_m hb2 rfm_52) ?_
    refine A_iload_n 1 d_MD_soundPart_280 rfl rfl ?_
    have g22 := H.1
    replace H := H.2
    refine A_ialoadf d_MD_soundPart_281 (hb_s hb2 sf_209) g22.1 g22.2 (fun x21 ex21 lx21 ux21 => ?_)
    replace H := H x21 ex21 lx21 ux21
    refine A_iconst d_MD_soundPart_282 rfl ?_
    refine A_pc (pc' := 283) rfl ?_
    refine A_icmp_ne (tgt := 296) d_MD_soundPart_283 (by decide) (fun c => ?_) (fun c => ?_)
    · replace H := H.2 c
      refine A_aload_n 0 d_MD_soundPart_296 rfl rfl ?_
      refine A_getAv (z := some 209) T_ok d_MD_soundPart_297 f_MD_130 (hb_s hb2 sf_170) (hb_m hb2 rfm_52) ?_
      refine A_iload_n 1 d_MD_soundPart_300 rfl rfl ?_
      refine A_dup2RI d_MD_soundPart_301 ?_
      refine A_ialoadv (z := x21) d_MD_soundPart_302 (hb_s hb2 sf_209) (by omega) (by omega) ex21.symm ?_
      refine A_pc (pc' := 303) rfl ?_
      refine A_iconst d_MD_soundPart_303 rfl ?_
      have g25 := H.1
      replace H := H.2
      refine A_iaddv (z := (x21 + 1)) d_MD_soundPart_304 (w32_to (by omega) (by unfold i32; omega)) ?_
      refine A_iastoreN d_MD_soundPart_305 (hb_s hb2 sf_209) g22.1 g22.2 ?_
      refine A_hn (fun h26 eh26 => ?_)
      have hb27 := hb_i hb2 eh26
      replace H := H h26 eh26
      refine A_aload_n 0 d_MD_soundPart_306 rfl rfl ?_
      refine A_callV0 m_MD_next T_ok d_MD_soundPart_307 l_MD_309 k_MD_next (hb_s hb27 sf_170) rfl (by decide +kernel) (by decide) (Nat.le_of_ble_eq_true rfl) H (fun r h28 hq => ?_)
      clear H
      obtain ⟨z30, rfl, hb29, H⟩ := hq
      refine A_popI d_MD_soundPart_310 ?_
      refine A_goto (tgt := 267) d_MD_soundPart_311 (by decide) ?_
      refine A_pc (pc' := 267) rfl ?_
      exact hX267 (v1) (v2) h28  hb29 H
    · replace H := H.1 c
      refine A_aload_n 0 d_MD_soundPart_286 rfl rfl ?_
      refine A_iconst d_MD_soundPart_287 rfl ?_
      refine A_aload_n 0 d_MD_soundPart_288 rfl rfl ?_
      refine A_getIf T_ok d_MD_soundPart_289 f_MD_242 (hb_s hb2 sf_170) (fun x31 ex31 lx31 ux31 => ?_)
      replace H := H x31 ex31 lx31 ux31
      refine A_callV2 m_MD_wrong T_ok d_MD_soundPart_292 l_MD_245 k_MD_wrong (hb_s hb2 sf_170) rfl (by decide +kernel) (by decide) (Nat.le_of_ble_eq_true rfl) H (fun r h32 hq => ?_)
      clear H
      obtain ⟨z34, rfl, hb33, H⟩ := hq
      exact A_zret d_MD_soundPart_295 (by decide) rfl H.1 H.2
theorem lp_MD_soundPart_267 {G : cx_T} {s : Nat} {Q : Option av_T → ah_T → Prop} (I : Int → Int → ah_T → Prop) (μ : Int → Int → ah_T → Nat) (hI : ∀ (v1 : Int) (v2 : Int) (h : ah_T), hb s h → I v1 v2 h → B_MD_soundPart_267 G s v1 v2 h Q (fun v1' v2' h' => I v1' v2' h' ∧ μ v1' v2' h' < μ v1 v2 h)) : ∀ (v1 : Int) (v2 : Int) (h : ah_T), hb s h → I v1 v2 h → aw G (rm_R 4 0 0) m_MD_soundPart 0 0 267 [some (av_R (some 170)), some (av_I v1), some (av_I v2)] [] h Q := by
  have key : ∀ (n : Nat) (v1 : Int) (v2 : Int) (h : ah_T), hb s h → I v1 v2 h → μ v1 v2 h < n → aw G (rm_R 4 0 0) m_MD_soundPart 0 0 267 [some (av_R (some 170)), some (av_I v1), some (av_I v2)] [] h Q := by
    intro n
    induction n with
    | zero => intro v1 v2 h  hb0 hi hm; omega
    | succ n ih => intro v1 v2 h  hb0 hi hm; exact b_MD_soundPart_267  (fun v1' v2' h'  hb' hx => ih v1' v2' h'  hb' hx.1 (by have := hx.2; omega))  hb0 (hI v1 v2 h  hb0 hi)
  exact fun v1 v2 h  hb0 hi => key _ v1 v2 h  hb0 hi (Nat.lt_succ_self _)
def B_MD_soundPart_209 (G : cx_T) (s : Nat) (v1 : Int) (v2 : Int) (h : ah_T) (Q : Option av_T → ah_T → Prop) (X267 : Int → Int → ah_T → Prop) : Prop :=
 ∀ x1 : Int, x1 = h.2.1 170 4 → -2147483648 ≤ x1 → x1 ≤ 2147483647 → ((x1 = 3 → ∀ x2 : Int, x2 = h.2.1 170 6 → -2147483648 ≤ x2 → x2 ≤ 2147483647 → con G 0 0 0 m_MD_isPower [av_R (some 170), av_I x2, av_I 64] h (fun r h3 => ∃ z5 : Int, r = some (av_I z5) ∧ hb s h3 ∧ ((z5 = 0 → ∀ x17 : Int, x17 = h3.2.1 170 5 → -2147483648 ≤ x17 → x17 ≤ 2147483647 → con G 0 0 0 m_MD_wrong [av_R (some 170), av_I 5, av_I x17] h3 (fun r h18 => ∃ z20 : Int, r = some (av_I z20) ∧ hb s h18 ∧ (z20 = 0 ∨ z20 = 1) ∧ Q (some (av_I z20)) h18)) ∧ (¬ z5 = 0 → ∀ x7 : Int, x7 = h3.2.1 170 6 → -2147483648 ≤ x7 → x7 ≤ 2147483647 → (0 ≤ v1 ∧ v1 < 2100) ∧ ∀ h9 : ah_T, h9 = st_i h3 202 (v1).toNat x7 → con G 2 0 0 m_MD_next [av_R (some 170)] h9 (fun r h11 => ∃ z13 : Int, r = some (av_I z13) ∧ hb s h11 ∧ ∀ h15 : ah_T, h15 = st_i h11 209 (v1).toNat 0 → X267 (v1) (v2) h15))))) ∧ (¬ x1 = 3 → con G 1 0 0 m_MD_cant [av_R (some 170)] h (fun r h21 => ∃ z23 : Int, r = some (av_I z23) ∧ hb s h21 ∧ (z23 = 0 ∨ z23 = 1) ∧ Q (some (av_I z23)) h21)))
theorem b_MD_soundPart_209 {G : cx_T} {s : Nat} {v1 : Int} {v2 : Int} {h : ah_T} {Q : Option av_T → ah_T → Prop} {X267 : Int → Int → ah_T → Prop} (hX267 : ∀ (v1 : Int) (v2 : Int) (h : ah_T), hb s h → X267 v1 v2 h → aw G (rm_R 4 0 0) m_MD_soundPart 0 0 267 [some (av_R (some 170)), some (av_I v1), some (av_I v2)] [] h Q) (hb0 : hb s h) (H : B_MD_soundPart_209 G s v1 v2 h Q X267) : aw G (rm_R 4 0 0) m_MD_soundPart 0 0 209 [some (av_R (some 170)), some (av_I v1), some (av_I v2)] [] h Q := by
  unfold B_MD_soundPart_209 at H
  have hS : isS s := hb0.2.1
  refine A_aload_n 0 d_MD_soundPart_209 rfl rfl ?_
  refine A_getIf T_ok d_MD_soundPart_210 f_MD_239 (hb_s hb0 sf_170) (fun x1 ex1 lx1 ux1 => ?_)
  replace H := H x1 ex1 lx1 ux1
  refine A_iconst d_MD_soundPart_213 rfl ?_
  refine A_icmp_eq (tgt := 222) d_MD_soundPart_214 (by decide) (fun c => ?_) (fun c => ?_)
  · replace H := H.1 c
    refine A_aload_n 0 d_MD_soundPart_222 rfl rfl ?_
    refine A_aload_n 0 d_MD_soundPart_223 rfl rfl ?_
    refine A_getIf T_ok d_MD_soundPart_224 f_MD_271 (hb_s hb0 sf_170) (fun x2 ex2 lx2 ux2 => ?_)
    replace H := H x2 ex2 lx2 ux2
    refine A_bipush d_MD_soundPart_227 rfl ?_
    refine A_callV2 m_MD_isPower T_ok d_MD_soundPart_229 l_MD_347 k_MD_isPower (hb_s hb0 sf_170) rfl (by decide +kernel) (by decide) (Nat.le_of_ble_eq_true rfl) H (fun r h3 hq => ?_)
    clear H
    obtain ⟨z5, rfl, hb4, H⟩ := hq
    refine A_if_ne (tgt := 245) d_MD_soundPart_232 (by decide) (fun c => ?_) (fun c => ?_)
    · replace H := H.2 c
      refine A_aload_n 0 d_MD_soundPart_245 rfl rfl ?_
      refine A_getAv (z := some 202) T_ok d_MD_soundPart_246 f_MD_109 (hb_s hb4 sf_170) (hb_m hb4 rfm_45) ?_
      refine A_iload_n 1 d_MD_soundPart_249 rfl rfl ?_
      refine A_aload_n 0 d_MD_soundPart_250 rfl rfl ?_
      refine A_getIf T_ok d_MD_soundPart_251 f_MD_271 (hb_s hb4 sf_170) (fun x7 ex7 lx7 ux7 => ?_)
      replace H := H x7 ex7 lx7 ux7
      refine A_pc (pc' := 254) rfl ?_
      have g8 := H.1
      replace H := H.2
      refine A_iastoreN d_MD_soundPart_254 (hb_s hb4 sf_202) g8.1 g8.2 ?_
      refine A_hn (fun h9 eh9 => ?_)
      have hb10 := hb_i hb4 eh9
      replace H := H h9 eh9
      refine A_aload_n 0 d_MD_soundPart_255 rfl rfl ?_
      refine A_callV0 m_MD_next T_ok d_MD_soundPart_256 l_MD_309 k_MD_next (hb_s hb10 sf_170) rfl (by decide +kernel) (by decide) (Nat.le_of_ble_eq_true rfl) H (fun r h11 hq => ?_)
      clear H
      obtain ⟨z13, rfl, hb12, H⟩ := hq
      refine A_popI d_MD_soundPart_259 ?_
      refine A_aload_n 0 d_MD_soundPart_260 rfl rfl ?_
      refine A_getAv (z := some 209) T_ok d_MD_soundPart_261 f_MD_130 (hb_s hb12 sf_170) (hb_m hb12 rfm_52) ?_
      refine A_iload_n 1 d_MD_soundPart_264 rfl rfl ?_
      refine A_iconst d_MD_soundPart_265 rfl ?_
      refine A_pc (pc' := 266) rfl ?_
      refine A_iastoreN d_MD_soundPart_266 (hb_s hb12 sf_209) g8.1 g8.2 ?_
      refine A_hn (fun h15 eh15 => ?_)
      have hb16 := hb_i hb12 eh15
      replace H := H h15 eh15
      refine A_pc (pc' := 267) rfl ?_
      exact hX267 (v1) (v2) h15  hb16 H
    · replace H := H.1 c
      refine A_aload_n 0 d_MD_soundPart_235 rfl rfl ?_
      refine A_iconst d_MD_soundPart_236 rfl ?_
      refine A_aload_n 0 d_MD_soundPart_237 rfl rfl ?_
      refine A_getIf T_ok d_MD_soundPart_238 f_MD_242 (hb_s hb4 sf_170) (fun x17 ex17 lx17 ux17 => ?_)
      replace H := H x17 ex17 lx17 ux17
      refine A_callV2 m_MD_wrong T_ok d_MD_soundPart_241 l_MD_245 k_MD_wrong (hb_s hb4 sf_170) rfl (by decide +kernel) (by decide) (Nat.le_of_ble_eq_true rfl) H (fun r h18 hq => ?_)
      clear H
      obtain ⟨z20, rfl, hb19, H⟩ := hq
      exact A_zret d_MD_soundPart_244 (by decide) rfl H.1 H.2
  · replace H := H.2 c
    refine A_aload_n 0 d_MD_soundPart_217 rfl rfl ?_
    refine A_callV0 m_MD_cant T_ok d_MD_soundPart_218 l_MD_313 k_MD_cant (hb_s hb0 sf_170) rfl (by decide +kernel) (by decide) (Nat.le_of_ble_eq_true rfl) H (fun r h21 hq => ?_)
    clear H
    obtain ⟨z23, rfl, hb22, H⟩ := hq
    exact A_zret d_MD_soundPart_221 (by decide) rfl H.1 H.2
def B_MD_soundPart_185 (G : cx_T) (s : Nat) (v1 : Int) (v2 : Int) (h : ah_T) (Q : Option av_T → ah_T → Prop) (X95 : Int → Int → ah_T → Prop) (X267 : Int → Int → ah_T → Prop) : Prop :=
 con G 3 0 0 m_MD_pitchOf [av_R (some 170), av_I v1] h (fun r h1 => ∃ z3 : Int, r = some (av_I z3) ∧ hb s h1 ∧ ((z3 = 0 → Q (some (av_I 0)) h1) ∧ (¬ z3 = 0 → con G 0 0 0 m_MD_isSign [av_R (some 170), av_I 62] h1 (fun r h4 => ∃ z6 : Int, r = some (av_I z6) ∧ hb s h4 ∧ ((z6 = 0 → X95 (v1) (v2) h4) ∧ (¬ z6 = 0 → con G 2 0 0 m_MD_next [av_R (some 170)] h4 (fun r h7 => ∃ z9 : Int, r = some (av_I z9) ∧ hb s h7 ∧ B_MD_soundPart_209 G s (v1) (v2) h7 Q X267)))))))
theorem b_MD_soundPart_185 {G : cx_T} {s : Nat} {v1 : Int} {v2 : Int} {h : ah_T} {Q : Option av_T → ah_T → Prop} {X95 : Int → Int → ah_T → Prop} {X267 : Int → Int → ah_T → Prop} (hX95 : ∀ (v1 : Int) (v2 : Int) (h : ah_T), hb s h → X95 v1 v2 h → aw G (rm_R 4 0 0) m_MD_soundPart 0 0 95 [some (av_R (some 170)), some (av_I v1), some (av_I v2)] [] h Q) (hX267 : ∀ (v1 : Int) (v2 : Int) (h : ah_T), hb s h → X267 v1 v2 h → aw G (rm_R 4 0 0) m_MD_soundPart 0 0 267 [some (av_R (some 170)), some (av_I v1), some (av_I v2)] [] h Q) (hb0 : hb s h) (H : B_MD_soundPart_185 G s v1 v2 h Q X95 X267) : aw G (rm_R 4 0 0) m_MD_soundPart 0 0 185 [some (av_R (some 170)), some (av_I v1), some (av_I v2)] [] h Q := by
  unfold B_MD_soundPart_185 at H
  have hS : isS s := hb0.2.1
  refine A_aload_n 0 d_MD_soundPart_185 rfl rfl ?_
  refine A_iload_n 1 d_MD_soundPart_186 rfl rfl ?_
  refine A_callV1 m_MD_pitchOf T_ok d_MD_soundPart_187 l_MD_378 k_MD_pitchOf (hb_s hb0 sf_170) rfl (by decide +kernel) (by decide) (Nat.le_of_ble_eq_true rfl) H (fun r h1 hq => ?_)
  clear H
  obtain ⟨z3, rfl, hb2, H⟩ := hq
  refine A_if_ne (tgt := 195) d_MD_soundPart_190 (by decide) (fun c => ?_) (fun c => ?_)
  · replace H := H.2 c
    refine A_aload_n 0 d_MD_soundPart_195 rfl rfl ?_
    refine A_bipush d_MD_soundPart_196 rfl ?_
    refine A_callV1 m_MD_isSign T_ok d_MD_soundPart_198 l_MD_306 k_MD_isSign (hb_s hb2 sf_170) rfl (by decide +kernel) (by decide) (Nat.le_of_ble_eq_true rfl) H (fun r h4 hq => ?_)
    clear H
    obtain ⟨z6, rfl, hb5, H⟩ := hq
    refine A_if_eq (tgt := 95) d_MD_soundPart_201 (by decide) (fun c => ?_) (fun c => ?_)
    · replace H := H.1 c
      refine A_pc (pc' := 95) rfl ?_
      exact hX95 (v1) (v2) h4  hb5 H
    · replace H := H.2 c
      refine A_aload_n 0 d_MD_soundPart_204 rfl rfl ?_
      refine A_callV0 m_MD_next T_ok d_MD_soundPart_205 l_MD_309 k_MD_next (hb_s hb5 sf_170) rfl (by decide +kernel) (by decide) (Nat.le_of_ble_eq_true rfl) H (fun r h7 hq => ?_)
      clear H
      obtain ⟨z9, rfl, hb8, H⟩ := hq
      refine A_popI d_MD_soundPart_208 ?_
      refine A_pc (pc' := 209) rfl ?_
      exact b_MD_soundPart_209  hX267  hb8 H
  · replace H := H.1 c
    refine A_iconst d_MD_soundPart_193 rfl ?_
    exact A_zret d_MD_soundPart_194 (by decide) rfl (by decide) H
def B_MD_soundPart_177 (G : cx_T) (s : Nat) (t1 : Int) (h : ah_T) (Q : Option av_T → ah_T → Prop) : Prop :=
 ∀ x1 : Int, x1 = h.2.1 170 5 → -2147483648 ≤ x1 → x1 ≤ 2147483647 → con G 0 0 0 m_MD_wrong [av_R (some 170), av_I t1, av_I x1] h (fun r h2 => ∃ z4 : Int, r = some (av_I z4) ∧ hb s h2 ∧ (z4 = 0 ∨ z4 = 1) ∧ Q (some (av_I z4)) h2)
theorem b_MD_soundPart_177 {G : cx_T} {s : Nat} {t1 : Int} {h : ah_T} {Q : Option av_T → ah_T → Prop} (hb0 : hb s h) (H : B_MD_soundPart_177 G s t1 h Q ) : aw G (rm_R 4 0 0) m_MD_soundPart 0 0 177 [some (av_R (some 170)), none, none] [av_I t1, av_R (some 170)] h Q := by
  unfold B_MD_soundPart_177 at H
  have hS : isS s := hb0.2.1
  refine A_aload_n 0 d_MD_soundPart_177 rfl rfl ?_
  refine A_getIf T_ok d_MD_soundPart_178 f_MD_242 (hb_s hb0 sf_170) (fun x1 ex1 lx1 ux1 => ?_)
  replace H := H x1 ex1 lx1 ux1
  refine A_callV2 m_MD_wrong T_ok d_MD_soundPart_181 l_MD_245 k_MD_wrong (hb_s hb0 sf_170) rfl (by decide +kernel) (by decide) (Nat.le_of_ble_eq_true rfl) H (fun r h2 hq => ?_)
  clear H
  obtain ⟨z4, rfl, hb3, H⟩ := hq
  exact A_zret d_MD_soundPart_184 (by decide) rfl H.1 H.2
def B_MD_soundPart_95 (G : cx_T) (s : Nat) (v1 : Int) (v2 : Int) (h : ah_T) (Q : Option av_T → ah_T → Prop) (X95 : Int → Int → ah_T → Prop) (X267 : Int → Int → ah_T → Prop) : Prop :=
 ∀ x1 : Int, x1 = h.2.1 170 4 → -2147483648 ≤ x1 → x1 ≤ 2147483647 → ((x1 = 1 → (0 ≤ v1 ∧ v1 < 2100) ∧ ∀ x3 : Int, x3 = h.2.1 204 (v1).toNat → -2147483648 ≤ x3 → x3 ≤ 2147483647 → ((x3 = 4 → ∀ x17 : Int, x17 = h.2.1 170 5 → -2147483648 ≤ x17 → x17 ≤ 2147483647 → con G 0 0 0 m_MD_wrong [av_R (some 170), av_I 3, av_I x17] h (fun r h18 => ∃ z20 : Int, r = some (av_I z20) ∧ hb s h18 ∧ (z20 = 0 ∨ z20 = 1) ∧ Q (some (av_I z20)) h18)) ∧ (¬ x3 = 4 → ((x3 ≤ 0 → B_MD_soundPart_185 G s (v1) (v2) h Q X95 X267) ∧ (¬ x3 ≤ 0 → ∀ x7 : Int, x7 = h.2.1 170 8 → -2147483648 ≤ x7 → x7 ≤ 2147483647 → ((-2147483648) ≤ (4 * v1) ∧ (4 * v1) ≤ 2147483647) ∧ ((-2147483648) ≤ (4 * v1 + x3) ∧ (4 * v1 + x3) ≤ 2147483647) ∧ ((-2147483648) ≤ (4 * v1 + x3 - 1) ∧ (4 * v1 + x3 - 1) ≤ 2147483647) ∧ (0 ≤ (4 * v1 + x3 - 1) ∧ (4 * v1 + x3 - 1) < 8400) ∧ ∀ x14 : Int, x14 = h.2.1 205 ((4 * v1 + x3 - 1)).toNat → -2147483648 ≤ x14 → x14 ≤ 2147483647 → ((x14 < x7 → B_MD_soundPart_185 G s (v1) (v2) h Q X95 X267) ∧ (¬ x14 < x7 → ∀ x16 : Int, x16 = h.2.1 170 64 → -2147483648 ≤ x16 → x16 ≤ 2147483647 → ((x16 = 300 → B_MD_soundPart_177 G s (3) h Q ) ∧ (¬ x16 = 300 → B_MD_soundPart_177 G s (4) h Q ))))))))) ∧ (¬ x1 = 1 → con G 1 0 0 m_MD_cant [av_R (some 170)] h (fun r h21 => ∃ z23 : Int, r = some (av_I z23) ∧ hb s h21 ∧ (z23 = 0 ∨ z23 = 1) ∧ Q (some (av_I z23)) h21)))
theorem b_MD_soundPart_95 {G : cx_T} {s : Nat} {v1 : Int} {v2 : Int} {h : ah_T} {Q : Option av_T → ah_T → Prop} {X95 : Int → Int → ah_T → Prop} {X267 : Int → Int → ah_T → Prop} (hX95 : ∀ (v1 : Int) (v2 : Int) (h : ah_T), hb s h → X95 v1 v2 h → aw G (rm_R 4 0 0) m_MD_soundPart 0 0 95 [some (av_R (some 170)), some (av_I v1), some (av_I v2)] [] h Q) (hX267 : ∀ (v1 : Int) (v2 : Int) (h : ah_T), hb s h → X267 v1 v2 h → aw G (rm_R 4 0 0) m_MD_soundPart 0 0 267 [some (av_R (some 170)), some (av_I v1), some (av_I v2)] [] h Q) (hb0 : hb s h) (H : B_MD_soundPart_95 G s v1 v2 h Q X95 X267) : aw G (rm_R 4 0 0) m_MD_soundPart 0 0 95 [some (av_R (some 170)), some (av_I v1), some (av_I v2)] [] h Q := by
  unfold B_MD_soundPart_95 at H
  have hS : isS s := hb0.2.1
  refine A_aload_n 0 d_MD_soundPart_95 rfl rfl ?_
  refine A_getIf T_ok d_MD_soundPart_96 f_MD_239 (hb_s hb0 sf_170) (fun x1 ex1 lx1 ux1 => ?_)
  replace H := H x1 ex1 lx1 ux1
  refine A_iconst d_MD_soundPart_99 rfl ?_
  refine A_icmp_eq (tgt := 108) d_MD_soundPart_100 (by decide) (fun c => ?_) (fun c => ?_)
  · replace H := H.1 c
    refine A_aload_n 0 d_MD_soundPart_108 rfl rfl ?_
    refine A_getAv (z := some 204) T_ok d_MD_soundPart_109 f_MD_115 (hb_s hb0 sf_170) (hb_m hb0 rfm_47) ?_
    refine A_iload_n 1 d_MD_soundPart_112 rfl rfl ?_
    have g4 := H.1
    replace H := H.2
    refine A_ialoadf d_MD_soundPart_113 (hb_s hb0 sf_204) g4.1 g4.2 (fun x3 ex3 lx3 ux3 => ?_)
    replace H := H x3 ex3 lx3 ux3
    refine A_iconst d_MD_soundPart_114 rfl ?_
    refine A_pc (pc' := 115) rfl ?_
    refine A_icmp_ne (tgt := 128) d_MD_soundPart_115 (by decide) (fun c => ?_) (fun c => ?_)
    · replace H := H.2 c
      refine A_aload_n 0 d_MD_soundPart_128 rfl rfl ?_
      refine A_getAv (z := some 204) T_ok d_MD_soundPart_129 f_MD_115 (hb_s hb0 sf_170) (hb_m hb0 rfm_47) ?_
      refine A_iload_n 1 d_MD_soundPart_132 rfl rfl ?_
      refine A_ialoadv (z := x3) d_MD_soundPart_133 (hb_s hb0 sf_204) (by omega) (by omega) ex3.symm ?_
      refine A_if_le (tgt := 185) d_MD_soundPart_134 (by decide) (fun c => ?_) (fun c => ?_)
      · replace H := H.1 c
        refine A_pc (pc' := 185) rfl ?_
        exact b_MD_soundPart_185  hX95 hX267  hb0 H
      · replace H := H.2 c
        refine A_aload_n 0 d_MD_soundPart_137 rfl rfl ?_
        refine A_getIf T_ok d_MD_soundPart_138 f_MD_284 (hb_s hb0 sf_170) (fun x7 ex7 lx7 ux7 => ?_)
        replace H := H x7 ex7 lx7 ux7
        refine A_aload_n 0 d_MD_soundPart_141 rfl rfl ?_
        refine A_getAv (z := some 205) T_ok d_MD_soundPart_142 f_MD_118 (hb_s hb0 sf_170) (hb_m hb0 rfm_48) ?_
        refine A_iconst d_MD_soundPart_145 rfl ?_
        refine A_pc (pc' := 146) rfl ?_
        refine A_iload_n 1 d_MD_soundPart_146 rfl rfl ?_
        have g9 := H.1
        replace H := H.2
        refine A_imulv (z := (4 * v1)) d_MD_soundPart_147 (w32_to (by omega) (by unfold i32; omega)) ?_
        refine A_aload_n 0 d_MD_soundPart_148 rfl rfl ?_
        refine A_getAv (z := some 204) T_ok d_MD_soundPart_149 f_MD_115 (hb_s hb0 sf_170) (hb_m hb0 rfm_47) ?_
        refine A_iload_n 1 d_MD_soundPart_152 rfl rfl ?_
        refine A_ialoadv (z := x3) d_MD_soundPart_153 (hb_s hb0 sf_204) (by omega) (by omega) ex3.symm ?_
        refine A_pc (pc' := 154) rfl ?_
        have g12 := H.1
        replace H := H.2
        refine A_iaddv (z := (4 * v1 + x3)) d_MD_soundPart_154 (w32_to (by omega) (by unfold i32; omega)) ?_
        refine A_iconst d_MD_soundPart_155 rfl ?_
        have g13 := H.1
        replace H := H.2
        refine A_isubv (z := (4 * v1 + x3 - 1)) d_MD_soundPart_156 (w32_to (by omega) (by unfold i32; omega)) ?_
        have g15 := H.1
        replace H := H.2
        refine A_ialoadf d_MD_soundPart_157 (hb_s hb0 sf_205) g15.1 g15.2 (fun x14 ex14 lx14 ux14 => ?_)
        replace H := H x14 ex14 lx14 ux14
        refine A_icmp_gt (tgt := 185) d_MD_soundPart_158 (by decide) (fun c => ?_) (fun c => ?_)
        · replace H := H.1 c
          refine A_pc (pc' := 185) rfl ?_
          exact b_MD_soundPart_185  hX95 hX267  hb0 H
        · replace H := H.2 c
          refine A_aload_n 0 d_MD_soundPart_161 rfl rfl ?_
          refine A_aload_n 0 d_MD_soundPart_162 rfl rfl ?_
          refine A_getIf T_ok d_MD_soundPart_163 f_MD_360 (hb_s hb0 sf_170) (fun x16 ex16 lx16 ux16 => ?_)
          replace H := H x16 ex16 lx16 ux16
          refine A_sipush d_MD_soundPart_166 rfl ?_
          refine A_icmp_ne (tgt := 176) d_MD_soundPart_169 (by decide) (fun c => ?_) (fun c => ?_)
          · replace H := H.2 c
            refine A_iconst d_MD_soundPart_176 rfl ?_
            refine A_pc (pc' := 177) rfl ?_
            refine A_free (L' := [some (av_R (some 170)), none, none]) (And.intro rfl trivial) ?_
            exact b_MD_soundPart_177    hb0 H
          · replace H := H.1 c
            refine A_iconst d_MD_soundPart_172 rfl ?_
            refine A_goto (tgt := 177) d_MD_soundPart_173 (by decide) ?_
            refine A_pc (pc' := 177) rfl ?_
            refine A_free (L' := [some (av_R (some 170)), none, none]) (And.intro rfl trivial) ?_
            exact b_MD_soundPart_177    hb0 H
    · replace H := H.1 c
      refine A_aload_n 0 d_MD_soundPart_118 rfl rfl ?_
      refine A_iconst d_MD_soundPart_119 rfl ?_
      refine A_aload_n 0 d_MD_soundPart_120 rfl rfl ?_
      refine A_getIf T_ok d_MD_soundPart_121 f_MD_242 (hb_s hb0 sf_170) (fun x17 ex17 lx17 ux17 => ?_)
      replace H := H x17 ex17 lx17 ux17
      refine A_callV2 m_MD_wrong T_ok d_MD_soundPart_124 l_MD_245 k_MD_wrong (hb_s hb0 sf_170) rfl (by decide +kernel) (by decide) (Nat.le_of_ble_eq_true rfl) H (fun r h18 hq => ?_)
      clear H
      obtain ⟨z20, rfl, hb19, H⟩ := hq
      exact A_zret d_MD_soundPart_127 (by decide) rfl H.1 H.2
  · replace H := H.2 c
    refine A_aload_n 0 d_MD_soundPart_103 rfl rfl ?_
    refine A_callV0 m_MD_cant T_ok d_MD_soundPart_104 l_MD_313 k_MD_cant (hb_s hb0 sf_170) rfl (by decide +kernel) (by decide) (Nat.le_of_ble_eq_true rfl) H (fun r h21 hq => ?_)
    clear H
    obtain ⟨z23, rfl, hb22, H⟩ := hq
    exact A_zret d_MD_soundPart_107 (by decide) rfl H.1 H.2
theorem lp_MD_soundPart_95 {G : cx_T} {s : Nat} {Q : Option av_T → ah_T → Prop} {X267 : Int → Int → ah_T → Prop} (hX267 : ∀ (v1 : Int) (v2 : Int) (h : ah_T), hb s h → X267 v1 v2 h → aw G (rm_R 4 0 0) m_MD_soundPart 0 0 267 [some (av_R (some 170)), some (av_I v1), some (av_I v2)] [] h Q) (I : Int → Int → ah_T → Prop) (μ : Int → Int → ah_T → Nat) (hI : ∀ (v1 : Int) (v2 : Int) (h : ah_T), hb s h → I v1 v2 h → B_MD_soundPart_95 G s v1 v2 h Q (fun v1' v2' h' => I v1' v2' h' ∧ μ v1' v2' h' < μ v1 v2 h) X267) : ∀ (v1 : Int) (v2 : Int) (h : ah_T), hb s h → I v1 v2 h → aw G (rm_R 4 0 0) m_MD_soundPart 0 0 95 [some (av_R (some 170)), some (av_I v1), some (av_I v2)] [] h Q := by
  have key : ∀ (n : Nat) (v1 : Int) (v2 : Int) (h : ah_T), hb s h → I v1 v2 h → μ v1 v2 h < n → aw G (rm_R 4 0 0) m_MD_soundPart 0 0 95 [some (av_R (some 170)), some (av_I v1), some (av_I v2)] [] h Q := by
    intro n
    induction n with
    | zero => intro v1 v2 h  hb0 hi hm; omega
    | succ n ih => intro v1 v2 h  hb0 hi hm; exact b_MD_soundPart_95  (fun v1' v2' h'  hb' hx => ih v1' v2' h'  hb' hx.1 (by have := hx.2; omega)) hX267  hb0 (hI v1 v2 h  hb0 hi)
  exact fun v1 v2 h  hb0 hi => key _ v1 v2 h  hb0 hi (Nat.lt_succ_self _)
def B_MD_soundPart_0 (G : cx_T) (s : Nat) (h : ah_T) (Q : Option av_T → ah_T → Prop) (X95 : Int → Int → ah_T → Prop) (X267 : Int → Int → ah_T → Prop) : Prop :=
 ∀ x1 : Int, x1 = h.2.1 170 43 → -2147483648 ≤ x1 → x1 ≤ 2147483647 → con G 0 0 0 m_MD_put [av_R (some 170), av_I 0] h (fun r h2 => r = none ∧ hb s h2 ∧ (0 ≤ x1 ∧ x1 < 2100) ∧ ∀ h7 : ah_T, h7 = st_i h2 204 (x1).toNat 0 → ∀ h10 : ah_T, h10 = st_i h7 207 (x1).toNat 0 → con G 0 0 0 m_MD_isWord [av_R (some 170), av_I 5] h10 (fun r h12 => ∃ z14 : Int, r = some (av_I z14) ∧ hb s h12 ∧ ((z14 = 0 → ∀ x15 : Int, x15 = h12.2.1 170 4 → -2147483648 ≤ x15 → x15 ≤ 2147483647 → ((x15 = 1 → con G 3 0 0 m_MD_pitchOf [av_R (some 170), av_I x1] h12 (fun r h19 => ∃ z21 : Int, r = some (av_I z21) ∧ hb s h19 ∧ ((z21 = 0 → Q (some (av_I 0)) h19) ∧ (¬ z21 = 0 → B_MD_soundPart_209 G s (x1) (z14) h19 Q X267)))) ∧ (¬ x15 = 1 → con G 2 0 0 m_MD_next [av_R (some 170)] h12 (fun r h16 => ∃ z18 : Int, r = some (av_I z18) ∧ hb s h16 ∧ X95 (x1) (z14) h16)))) ∧ (¬ z14 = 0 → ∀ x22 : Int, x22 = h12.2.1 170 64 → -2147483648 ≤ x22 → x22 ≤ 2147483647 → ((x22 = 300 → ∀ x30 : Int, x30 = h12.2.1 170 5 → -2147483648 ≤ x30 → x30 ≤ 2147483647 → con G 0 0 0 m_MD_wrong [av_R (some 170), av_I 3, av_I x30] h12 (fun r h31 => ∃ z33 : Int, r = some (av_I z33) ∧ hb s h31 ∧ (z33 = 0 ∨ z33 = 1) ∧ Q (some (av_I z33)) h31)) ∧ (¬ x22 = 300 → ((-2147483648) ≤ (x22 + 1) ∧ (x22 + 1) ≤ 2147483647) ∧ ∀ h25 : ah_T, h25 = st_i h12 170 64 (x22 + 1) → con G 2 0 0 m_MD_next [av_R (some 170)] h25 (fun r h27 => ∃ z29 : Int, r = some (av_I z29) ∧ hb s h27 ∧ B_MD_soundPart_209 G s (x1) (z14) h27 Q X267)))))))
theorem b_MD_soundPart_0 {G : cx_T} {s : Nat} {h : ah_T} {Q : Option av_T → ah_T → Prop} {X95 : Int → Int → ah_T → Prop} {X267 : Int → Int → ah_T → Prop} (hX95 : ∀ (v1 : Int) (v2 : Int) (h : ah_T), hb s h → X95 v1 v2 h → aw G (rm_R 4 0 0) m_MD_soundPart 0 0 95 [some (av_R (some 170)), some (av_I v1), some (av_I v2)] [] h Q) (hX267 : ∀ (v1 : Int) (v2 : Int) (h : ah_T), hb s h → X267 v1 v2 h → aw G (rm_R 4 0 0) m_MD_soundPart 0 0 267 [some (av_R (some 170)), some (av_I v1), some (av_I v2)] [] h Q) (hb0 : hb s h) (H : B_MD_soundPart_0 G s h Q X95 X267) : aw G (rm_R 4 0 0) m_MD_soundPart 0 0 0 [some (av_R (some 170)), none, none] [] h Q := by
  unfold B_MD_soundPart_0 at H
  have hS : isS s := hb0.2.1
  refine A_aload_n 0 d_MD_soundPart_0 rfl rfl ?_
  refine A_getIf T_ok d_MD_soundPart_1 f_MD_354 (hb_s hb0 sf_170) (fun x1 ex1 lx1 ux1 => ?_)
  replace H := H x1 ex1 lx1 ux1
  refine A_istore_n 1 (L' := [some (av_R (some 170)), some (av_I x1), none]) d_MD_soundPart_4 rfl (Nat.le_of_ble_eq_true rfl) rfl ?_
  refine A_aload_n 0 d_MD_soundPart_5 rfl rfl ?_
  refine A_iconst d_MD_soundPart_6 rfl ?_
  refine A_pc (pc' := 7) rfl ?_
  refine A_callV1 m_MD_put T_ok d_MD_soundPart_7 l_MD_369 k_MD_put (hb_s hb0 sf_170) rfl (by decide +kernel) (by decide) (Nat.le_of_ble_eq_true rfl) H (fun r h2 hq => ?_)
  clear H
  obtain ⟨rfl, hb3, H⟩ := hq
  refine A_aload_n 0 d_MD_soundPart_10 rfl rfl ?_
  refine A_getAv (z := some 204) T_ok d_MD_soundPart_11 f_MD_115 (hb_s hb3 sf_170) (hb_m hb3 rfm_47) ?_
  refine A_iload_n 1 d_MD_soundPart_14 rfl rfl ?_
  refine A_iconst d_MD_soundPart_15 rfl ?_
  have g6 := H.1
  replace H := H.2
  refine A_iastoreN d_MD_soundPart_16 (hb_s hb3 sf_204) g6.1 g6.2 ?_
  refine A_hn (fun h7 eh7 => ?_)
  have hb8 := hb_i hb3 eh7
  replace H := H h7 eh7
  refine A_pc (pc' := 17) rfl ?_
  refine A_aload_n 0 d_MD_soundPart_17 rfl rfl ?_
  refine A_getAv (z := some 207) T_ok d_MD_soundPart_18 f_MD_124 (hb_s hb8 sf_170) (hb_m hb8 rfm_50) ?_
  refine A_iload_n 1 d_MD_soundPart_21 rfl rfl ?_
  refine A_iconst d_MD_soundPart_22 rfl ?_
  refine A_iastoreN d_MD_soundPart_23 (hb_s hb8 sf_207) g6.1 g6.2 ?_
  refine A_hn (fun h10 eh10 => ?_)
  have hb11 := hb_i hb8 eh10
  replace H := H h10 eh10
  refine A_aload_n 0 d_MD_soundPart_24 rfl rfl ?_
  refine A_pc (pc' := 25) rfl ?_
  refine A_iconst d_MD_soundPart_25 rfl ?_
  refine A_callV1 m_MD_isWord T_ok d_MD_soundPart_26 l_MD_326 k_MD_isWord (hb_s hb11 sf_170) rfl (by decide +kernel) (by decide) (Nat.le_of_ble_eq_true rfl) H (fun r h12 hq => ?_)
  clear H
  obtain ⟨z14, rfl, hb13, H⟩ := hq
  refine A_istore_n 2 (L' := [some (av_R (some 170)), some (av_I x1), some (av_I z14)]) d_MD_soundPart_29 rfl (Nat.le_of_ble_eq_true rfl) rfl ?_
  refine A_iload_n 2 d_MD_soundPart_30 rfl rfl ?_
  refine A_if_eq (tgt := 72) d_MD_soundPart_31 (by decide) (fun c => ?_) (fun c => ?_)
  · replace H := H.1 c
    refine A_aload_n 0 d_MD_soundPart_72 rfl rfl ?_
    refine A_getIf T_ok d_MD_soundPart_73 f_MD_239 (hb_s hb13 sf_170) (fun x15 ex15 lx15 ux15 => ?_)
    replace H := H x15 ex15 lx15 ux15
    refine A_iconst d_MD_soundPart_76 rfl ?_
    refine A_icmp_ne (tgt := 90) d_MD_soundPart_77 (by decide) (fun c => ?_) (fun c => ?_)
    · replace H := H.2 c
      refine A_aload_n 0 d_MD_soundPart_90 rfl rfl ?_
      refine A_callV0 m_MD_next T_ok d_MD_soundPart_91 l_MD_309 k_MD_next (hb_s hb13 sf_170) rfl (by decide +kernel) (by decide) (Nat.le_of_ble_eq_true rfl) H (fun r h16 hq => ?_)
      clear H
      obtain ⟨z18, rfl, hb17, H⟩ := hq
      refine A_popI d_MD_soundPart_94 ?_
      refine A_pc (pc' := 95) rfl ?_
      exact hX95 (x1) (z14) h16  hb17 H
    · replace H := H.1 c
      refine A_aload_n 0 d_MD_soundPart_80 rfl rfl ?_
      refine A_iload_n 1 d_MD_soundPart_81 rfl rfl ?_
      refine A_callV1 m_MD_pitchOf T_ok d_MD_soundPart_82 l_MD_378 k_MD_pitchOf (hb_s hb13 sf_170) rfl (by decide +kernel) (by decide) (Nat.le_of_ble_eq_true rfl) H (fun r h19 hq => ?_)
      clear H
      obtain ⟨z21, rfl, hb20, H⟩ := hq
      refine A_if_ne (tgt := 209) d_MD_soundPart_85 (by decide) (fun c => ?_) (fun c => ?_)
      · replace H := H.2 c
        refine A_pc (pc' := 209) rfl ?_
        exact b_MD_soundPart_209  hX267  hb20 H
      · replace H := H.1 c
        refine A_iconst d_MD_soundPart_88 rfl ?_
        exact A_zret d_MD_soundPart_89 (by decide) rfl (by decide) H
  · replace H := H.2 c
    refine A_aload_n 0 d_MD_soundPart_34 rfl rfl ?_
    refine A_getIf T_ok d_MD_soundPart_35 f_MD_360 (hb_s hb13 sf_170) (fun x22 ex22 lx22 ux22 => ?_)
    replace H := H x22 ex22 lx22 ux22
    refine A_sipush d_MD_soundPart_38 rfl ?_
    refine A_icmp_ne (tgt := 54) d_MD_soundPart_41 (by decide) (fun c => ?_) (fun c => ?_)
    · replace H := H.2 c
      refine A_aload_n 0 d_MD_soundPart_54 rfl rfl ?_
      refine A_dupR d_MD_soundPart_55 ?_
      refine A_getIv (z := x22) T_ok d_MD_soundPart_56 f_MD_360 (hb_s hb13 sf_170) ex22.symm ?_
      refine A_iconst d_MD_soundPart_59 rfl ?_
      have g24 := H.1
      replace H := H.2
      refine A_iaddv (z := (x22 + 1)) d_MD_soundPart_60 (w32_to (by omega) (by unfold i32; omega)) ?_
      refine A_pc (pc' := 61) rfl ?_
      refine A_putI T_ok d_MD_soundPart_61 f_MD_360 (hb_s hb13 sf_170) fin_f ?_
      refine A_hn (fun h25 eh25 => ?_)
      have hb26 := hb_i hb13 eh25
      replace H := H h25 eh25
      refine A_aload_n 0 d_MD_soundPart_64 rfl rfl ?_
      refine A_callV0 m_MD_next T_ok d_MD_soundPart_65 l_MD_309 k_MD_next (hb_s hb26 sf_170) rfl (by decide +kernel) (by decide) (Nat.le_of_ble_eq_true rfl) H (fun r h27 hq => ?_)
      clear H
      obtain ⟨z29, rfl, hb28, H⟩ := hq
      refine A_popI d_MD_soundPart_68 ?_
      refine A_goto (tgt := 209) d_MD_soundPart_69 (by decide) ?_
      refine A_pc (pc' := 209) rfl ?_
      exact b_MD_soundPart_209  hX267  hb28 H
    · replace H := H.1 c
      refine A_aload_n 0 d_MD_soundPart_44 rfl rfl ?_
      refine A_iconst d_MD_soundPart_45 rfl ?_
      refine A_aload_n 0 d_MD_soundPart_46 rfl rfl ?_
      refine A_getIf T_ok d_MD_soundPart_47 f_MD_242 (hb_s hb13 sf_170) (fun x30 ex30 lx30 ux30 => ?_)
      replace H := H x30 ex30 lx30 ux30
      refine A_callV2 m_MD_wrong T_ok d_MD_soundPart_50 l_MD_245 k_MD_wrong (hb_s hb13 sf_170) rfl (by decide +kernel) (by decide) (Nat.le_of_ble_eq_true rfl) H (fun r h31 hq => ?_)
      clear H
      obtain ⟨z33, rfl, hb32, H⟩ := hq
      exact A_zret d_MD_soundPart_53 (by decide) rfl H.1 H.2
theorem c_MD_soundPart {G : cx_T} {s : Nat} {h : ah_T} {Q : Option av_T → ah_T → Prop} {X95 : Int → Int → ah_T → Prop} {X267 : Int → Int → ah_T → Prop} (hX95 : ∀ (v1 : Int) (v2 : Int) (h : ah_T), hb s h → X95 v1 v2 h → aw G (rm_R 4 0 0) m_MD_soundPart 0 0 95 [some (av_R (some 170)), some (av_I v1), some (av_I v2)] [] h Q) (hX267 : ∀ (v1 : Int) (v2 : Int) (h : ah_T), hb s h → X267 v1 v2 h → aw G (rm_R 4 0 0) m_MD_soundPart 0 0 267 [some (av_R (some 170)), some (av_I v1), some (av_I v2)] [] h Q) (hb0 : hb s h) (H : B_MD_soundPart_0 G s h Q X95 X267) : con G 4 0 0 m_MD_soundPart [av_R (some 170)] h Q := by
  have hS : isS s := hb0.2.1
  refine con_of (L := [some (av_R (some 170)), none, none]) (by decide +kernel) (Nat.le_of_ble_eq_true rfl) rfl ?_
  exact b_MD_soundPart_0  hX95 hX267 hb0 (H )
def B_MD_timesPart_144 (G : cx_T) (s : Nat) (h : ah_T) (Q : Option av_T → ah_T → Prop) : Prop :=
 ∀ x1 : Int, x1 = h.2.1 170 5 → -2147483648 ≤ x1 → x1 ≤ 2147483647 → con G 0 0 0 m_MD_wrong [av_R (some 170), av_I 5, av_I x1] h (fun r h2 => ∃ z4 : Int, r = some (av_I z4) ∧ hb s h2 ∧ (z4 = 0 ∨ z4 = 1) ∧ Q (some (av_I z4)) h2)
theorem b_MD_timesPart_144 {G : cx_T} {s : Nat} {h : ah_T} {Q : Option av_T → ah_T → Prop} (hb0 : hb s h) (H : B_MD_timesPart_144 G s h Q ) : aw G (rm_R 4 0 0) m_MD_timesPart 0 0 144 [some (av_R (some 170)), none] [] h Q := by
  unfold B_MD_timesPart_144 at H
  have hS : isS s := hb0.2.1
  refine A_aload_n 0 d_MD_timesPart_144 rfl rfl ?_
  refine A_iconst d_MD_timesPart_145 rfl ?_
  refine A_aload_n 0 d_MD_timesPart_146 rfl rfl ?_
  refine A_getIf T_ok d_MD_timesPart_147 f_MD_242 (hb_s hb0 sf_170) (fun x1 ex1 lx1 ux1 => ?_)
  replace H := H x1 ex1 lx1 ux1
  refine A_callV2 m_MD_wrong T_ok d_MD_timesPart_150 l_MD_245 k_MD_wrong (hb_s hb0 sf_170) rfl (by decide +kernel) (by decide) (Nat.le_of_ble_eq_true rfl) H (fun r h2 hq => ?_)
  clear H
  obtain ⟨z4, rfl, hb3, H⟩ := hq
  exact A_zret d_MD_timesPart_153 (by decide) rfl H.1 H.2
def B_MD_timesPart_78 (G : cx_T) (s : Nat) (h : ah_T) (Q : Option av_T → ah_T → Prop) : Prop :=
 ∀ x1 : Int, x1 = h.2.1 170 5 → -2147483648 ≤ x1 → x1 ≤ 2147483647 → con G 0 0 0 m_MD_wrong [av_R (some 170), av_I 5, av_I x1] h (fun r h2 => ∃ z4 : Int, r = some (av_I z4) ∧ hb s h2 ∧ (z4 = 0 ∨ z4 = 1) ∧ Q (some (av_I z4)) h2)
theorem b_MD_timesPart_78 {G : cx_T} {s : Nat} {h : ah_T} {Q : Option av_T → ah_T → Prop} (hb0 : hb s h) (H : B_MD_timesPart_78 G s h Q ) : aw G (rm_R 4 0 0) m_MD_timesPart 0 0 78 [some (av_R (some 170)), none] [] h Q := by
  unfold B_MD_timesPart_78 at H
  have hS : isS s := hb0.2.1
  refine A_aload_n 0 d_MD_timesPart_78 rfl rfl ?_
  refine A_iconst d_MD_timesPart_79 rfl ?_
  refine A_aload_n 0 d_MD_timesPart_80 rfl rfl ?_
  refine A_getIf T_ok d_MD_timesPart_81 f_MD_242 (hb_s hb0 sf_170) (fun x1 ex1 lx1 ux1 => ?_)
  replace H := H x1 ex1 lx1 ux1
  refine A_callV2 m_MD_wrong T_ok d_MD_timesPart_84 l_MD_245 k_MD_wrong (hb_s hb0 sf_170) rfl (by decide +kernel) (by decide) (Nat.le_of_ble_eq_true rfl) H (fun r h2 hq => ?_)
  clear H
  obtain ⟨z4, rfl, hb3, H⟩ := hq
  exact A_zret d_MD_timesPart_87 (by decide) rfl H.1 H.2
def B_MD_timesPart_0 (G : cx_T) (s : Nat) (h : ah_T) (Q : Option av_T → ah_T → Prop) : Prop :=
 ∀ x1 : Int, x1 = h.2.1 170 43 → -2147483648 ≤ x1 → x1 ≤ 2147483647 → ∀ x3 : Int, x3 = h.2.1 170 63 → -2147483648 ≤ x3 → x3 ≤ 2147483647 → (0 ≤ x3 ∧ x3 < 8) ∧ ∀ h6 : ah_T, h6 = st_i h 215 (x3).toNat x1 → con G 0 0 0 m_MD_put [av_R (some 170), av_I 5] h6 (fun r h8 => r = none ∧ hb s h8 ∧ ∀ x12 : Int, x12 = h8.2.1 170 63 → -2147483648 ≤ x12 → x12 ≤ 2147483647 → (0 ≤ x12 ∧ x12 < 8) ∧ ∀ h14 : ah_T, h14 = st_i h8 216 (x12).toNat 5 → ((-2147483648) ≤ (x12 + 1) ∧ (x12 + 1) ≤ 2147483647) ∧ ∀ h18 : ah_T, h18 = st_i h14 170 63 (x12 + 1) → con G 2 0 0 m_MD_next [av_R (some 170)] h18 (fun r h20 => ∃ z22 : Int, r = some (av_I z22) ∧ hb s h20 ∧ ∀ x23 : Int, x23 = h20.2.1 170 4 → -2147483648 ≤ x23 → x23 ≤ 2147483647 → ((x23 = 3 → ∀ x24 : Int, x24 = h20.2.1 170 6 → -2147483648 ≤ x24 → x24 ≤ 2147483647 → ((x24 < 1 → B_MD_timesPart_78 G s h20 Q ) ∧ (¬ x24 < 1 → ((x24 ≤ 16 → (0 ≤ x1 ∧ x1 < 2100) ∧ ∀ h29 : ah_T, h29 = st_i h20 202 (x1).toNat x24 → con G 2 0 0 m_MD_next [av_R (some 170)] h29 (fun r h31 => ∃ z33 : Int, r = some (av_I z33) ∧ hb s h31 ∧ con G 3 0 0 m_MD_want [av_R (some 170), av_I 47] h31 (fun r h34 => ∃ z36 : Int, r = some (av_I z36) ∧ hb s h34 ∧ ((z36 = 0 → Q (some (av_I 0)) h34) ∧ (¬ z36 = 0 → ∀ x37 : Int, x37 = h34.2.1 170 4 → -2147483648 ≤ x37 → x37 ≤ 2147483647 → ((x37 = 3 → ∀ x38 : Int, x38 = h34.2.1 170 6 → -2147483648 ≤ x38 → x38 ≤ 2147483647 → ((x38 < 1 → B_MD_timesPart_144 G s h34 Q ) ∧ (¬ x38 < 1 → ((x38 ≤ 16 → ∀ h42 : ah_T, h42 = st_i h34 203 (x1).toNat x38 → con G 2 0 0 m_MD_next [av_R (some 170)] h42 (fun r h44 => ∃ z46 : Int, r = some (av_I z46) ∧ hb s h44 ∧ con G 3 0 0 m_MD_want [av_R (some 170), av_I 58] h44 (fun r h47 => ∃ z49 : Int, r = some (av_I z49) ∧ hb s h47 ∧ (z49 = 0 ∨ z49 = 1) ∧ Q (some (av_I z49)) h47))) ∧ (¬ x38 ≤ 16 → B_MD_timesPart_144 G s h34 Q ))))) ∧ (¬ x37 = 3 → con G 1 0 0 m_MD_cant [av_R (some 170)] h34 (fun r h50 => ∃ z52 : Int, r = some (av_I z52) ∧ hb s h50 ∧ (z52 = 0 ∨ z52 = 1) ∧ Q (some (av_I z52)) h50)))))))) ∧ (¬ x24 ≤ 16 → B_MD_timesPart_78 G s h20 Q ))))) ∧ (¬ x23 = 3 → con G 1 0 0 m_MD_cant [av_R (some 170)] h20 (fun r h53 => ∃ z55 : Int, r = some (av_I z55) ∧ hb s h53 ∧ (z55 = 0 ∨ z55 = 1) ∧ Q (some (av_I z55)) h53)))))
theorem b_MD_timesPart_0 {G : cx_T} {s : Nat} {h : ah_T} {Q : Option av_T → ah_T → Prop} (hb0 : hb s h) (H : B_MD_timesPart_0 G s h Q ) : aw G (rm_R 4 0 0) m_MD_timesPart 0 0 0 [some (av_R (some 170)), none] [] h Q := by
  unfold B_MD_timesPart_0 at H
  have hS : isS s := hb0.2.1
  refine A_aload_n 0 d_MD_timesPart_0 rfl rfl ?_
  refine A_getIf T_ok d_MD_timesPart_1 f_MD_354 (hb_s hb0 sf_170) (fun x1 ex1 lx1 ux1 => ?_)
  replace H := H x1 ex1 lx1 ux1
  refine A_istore_n 1 (L' := [some (av_R (some 170)), some (av_I x1)]) d_MD_timesPart_4 rfl (Nat.le_of_ble_eq_true rfl) rfl ?_
  refine A_aload_n 0 d_MD_timesPart_5 rfl rfl ?_
  refine A_getAv (z := some 215) T_ok d_MD_timesPart_6 f_MD_148 (hb_s hb0 sf_170) (hb_m hb0 rfm_58) ?_
  refine A_pc (pc' := 9) rfl ?_
  refine A_aload_n 0 d_MD_timesPart_9 rfl rfl ?_
  refine A_getIf T_ok d_MD_timesPart_10 f_MD_357 (hb_s hb0 sf_170) (fun x3 ex3 lx3 ux3 => ?_)
  replace H := H x3 ex3 lx3 ux3
  refine A_aload_n 0 d_MD_timesPart_13 rfl rfl ?_
  refine A_getIv (z := x1) T_ok d_MD_timesPart_14 f_MD_354 (hb_s hb0 sf_170) ex1.symm ?_
  have g5 := H.1
  replace H := H.2
  refine A_iastoreN d_MD_timesPart_17 (hb_s hb0 sf_215) g5.1 g5.2 ?_
  refine A_hn (fun h6 eh6 => ?_)
  have hb7 := hb_i hb0 eh6
  replace H := H h6 eh6
  refine A_aload_n 0 d_MD_timesPart_18 rfl rfl ?_
  refine A_pc (pc' := 19) rfl ?_
  refine A_iconst d_MD_timesPart_19 rfl ?_
  refine A_callV1 m_MD_put T_ok d_MD_timesPart_20 l_MD_369 k_MD_put (hb_s hb7 sf_170) rfl (by decide +kernel) (by decide) (Nat.le_of_ble_eq_true rfl) H (fun r h8 hq => ?_)
  clear H
  obtain ⟨rfl, hb9, H⟩ := hq
  refine A_aload_n 0 d_MD_timesPart_23 rfl rfl ?_
  refine A_getAv (z := some 216) T_ok d_MD_timesPart_24 f_MD_151 (hb_s hb9 sf_170) (hb_m hb9 rfm_62) ?_
  refine A_aload_n 0 d_MD_timesPart_27 rfl rfl ?_
  refine A_getIf T_ok d_MD_timesPart_28 f_MD_357 (hb_s hb9 sf_170) (fun x12 ex12 lx12 ux12 => ?_)
  replace H := H x12 ex12 lx12 ux12
  refine A_iconst d_MD_timesPart_31 rfl ?_
  refine A_pc (pc' := 32) rfl ?_
  have g13 := H.1
  replace H := H.2
  refine A_iastoreN d_MD_timesPart_32 (hb_s hb9 sf_216) g13.1 g13.2 ?_
  refine A_hn (fun h14 eh14 => ?_)
  have hb15 := hb_i hb9 eh14
  replace H := H h14 eh14
  refine A_aload_n 0 d_MD_timesPart_33 rfl rfl ?_
  refine A_dupR d_MD_timesPart_34 ?_
  refine A_getIv (z := x12) T_ok d_MD_timesPart_35 f_MD_357 (hb_s hb15 sf_170) ((mm_i eh14 (fun q => absurd q.1 (by decide))).trans ex12.symm) ?_
  refine A_iconst d_MD_timesPart_38 rfl ?_
  have g17 := H.1
  replace H := H.2
  refine A_iaddv (z := (x12 + 1)) d_MD_timesPart_39 (w32_to (by omega) (by unfold i32; omega)) ?_
  refine A_pc (pc' := 40) rfl ?_
  refine A_putI T_ok d_MD_timesPart_40 f_MD_357 (hb_s hb15 sf_170) fin_f ?_
  refine A_hn (fun h18 eh18 => ?_)
  have hb19 := hb_i hb15 eh18
  replace H := H h18 eh18
  refine A_aload_n 0 d_MD_timesPart_43 rfl rfl ?_
  refine A_callV0 m_MD_next T_ok d_MD_timesPart_44 l_MD_309 k_MD_next (hb_s hb19 sf_170) rfl (by decide +kernel) (by decide) (Nat.le_of_ble_eq_true rfl) H (fun r h20 hq => ?_)
  clear H
  obtain ⟨z22, rfl, hb21, H⟩ := hq
  refine A_popI d_MD_timesPart_47 ?_
  refine A_aload_n 0 d_MD_timesPart_48 rfl rfl ?_
  refine A_getIf T_ok d_MD_timesPart_49 f_MD_239 (hb_s hb21 sf_170) (fun x23 ex23 lx23 ux23 => ?_)
  replace H := H x23 ex23 lx23 ux23
  refine A_iconst d_MD_timesPart_52 rfl ?_
  refine A_icmp_eq (tgt := 61) d_MD_timesPart_53 (by decide) (fun c => ?_) (fun c => ?_)
  · replace H := H.1 c
    refine A_aload_n 0 d_MD_timesPart_61 rfl rfl ?_
    refine A_getIf T_ok d_MD_timesPart_62 f_MD_271 (hb_s hb21 sf_170) (fun x24 ex24 lx24 ux24 => ?_)
    replace H := H x24 ex24 lx24 ux24
    refine A_iconst d_MD_timesPart_65 rfl ?_
    refine A_icmp_lt (tgt := 78) d_MD_timesPart_66 (by decide) (fun c => ?_) (fun c => ?_)
    · replace H := H.1 c
      refine A_pc (pc' := 78) rfl ?_
      refine A_free (L' := [some (av_R (some 170)), none]) (And.intro rfl trivial) ?_
      exact b_MD_timesPart_78    hb21 H
    · replace H := H.2 c
      refine A_aload_n 0 d_MD_timesPart_69 rfl rfl ?_
      refine A_getIv (z := x24) T_ok d_MD_timesPart_70 f_MD_271 (hb_s hb21 sf_170) ex24.symm ?_
      refine A_bipush d_MD_timesPart_73 rfl ?_
      refine A_icmp_le (tgt := 88) d_MD_timesPart_75 (by decide) (fun c => ?_) (fun c => ?_)
      · replace H := H.1 c
        refine A_aload_n 0 d_MD_timesPart_88 rfl rfl ?_
        refine A_getAv (z := some 202) T_ok d_MD_timesPart_89 f_MD_109 (hb_s hb21 sf_170) (hb_m hb21 rfm_45) ?_
        refine A_iload_n 1 d_MD_timesPart_92 rfl rfl ?_
        refine A_aload_n 0 d_MD_timesPart_93 rfl rfl ?_
        refine A_getIv (z := x24) T_ok d_MD_timesPart_94 f_MD_271 (hb_s hb21 sf_170) ex24.symm ?_
        refine A_pc (pc' := 97) rfl ?_
        have g28 := H.1
        replace H := H.2
        refine A_iastoreN d_MD_timesPart_97 (hb_s hb21 sf_202) g28.1 g28.2 ?_
        refine A_hn (fun h29 eh29 => ?_)
        have hb30 := hb_i hb21 eh29
        replace H := H h29 eh29
        refine A_aload_n 0 d_MD_timesPart_98 rfl rfl ?_
        refine A_callV0 m_MD_next T_ok d_MD_timesPart_99 l_MD_309 k_MD_next (hb_s hb30 sf_170) rfl (by decide +kernel) (by decide) (Nat.le_of_ble_eq_true rfl) H (fun r h31 hq => ?_)
        clear H
        obtain ⟨z33, rfl, hb32, H⟩ := hq
        refine A_popI d_MD_timesPart_102 ?_
        refine A_aload_n 0 d_MD_timesPart_103 rfl rfl ?_
        refine A_bipush d_MD_timesPart_104 rfl ?_
        refine A_callV1 m_MD_want T_ok d_MD_timesPart_106 l_MD_344 k_MD_want (hb_s hb32 sf_170) rfl (by decide +kernel) (by decide) (Nat.le_of_ble_eq_true rfl) H (fun r h34 hq => ?_)
        clear H
        obtain ⟨z36, rfl, hb35, H⟩ := hq
        refine A_if_ne (tgt := 114) d_MD_timesPart_109 (by decide) (fun c => ?_) (fun c => ?_)
        · replace H := H.2 c
          refine A_aload_n 0 d_MD_timesPart_114 rfl rfl ?_
          refine A_getIf T_ok d_MD_timesPart_115 f_MD_239 (hb_s hb35 sf_170) (fun x37 ex37 lx37 ux37 => ?_)
          replace H := H x37 ex37 lx37 ux37
          refine A_iconst d_MD_timesPart_118 rfl ?_
          refine A_icmp_eq (tgt := 127) d_MD_timesPart_119 (by decide) (fun c => ?_) (fun c => ?_)
          · replace H := H.1 c
            refine A_aload_n 0 d_MD_timesPart_127 rfl rfl ?_
            refine A_getIf T_ok d_MD_timesPart_128 f_MD_271 (hb_s hb35 sf_170) (fun x38 ex38 lx38 ux38 => ?_)
            replace H := H x38 ex38 lx38 ux38
            refine A_iconst d_MD_timesPart_131 rfl ?_
            refine A_icmp_lt (tgt := 144) d_MD_timesPart_132 (by decide) (fun c => ?_) (fun c => ?_)
            · replace H := H.1 c
              refine A_pc (pc' := 144) rfl ?_
              refine A_free (L' := [some (av_R (some 170)), none]) (And.intro rfl trivial) ?_
              exact b_MD_timesPart_144    hb35 H
            · replace H := H.2 c
              refine A_aload_n 0 d_MD_timesPart_135 rfl rfl ?_
              refine A_getIv (z := x38) T_ok d_MD_timesPart_136 f_MD_271 (hb_s hb35 sf_170) ex38.symm ?_
              refine A_bipush d_MD_timesPart_139 rfl ?_
              refine A_icmp_le (tgt := 154) d_MD_timesPart_141 (by decide) (fun c => ?_) (fun c => ?_)
              · replace H := H.1 c
                refine A_aload_n 0 d_MD_timesPart_154 rfl rfl ?_
                refine A_getAv (z := some 203) T_ok d_MD_timesPart_155 f_MD_112 (hb_s hb35 sf_170) (hb_m hb35 rfm_46) ?_
                refine A_iload_n 1 d_MD_timesPart_158 rfl rfl ?_
                refine A_aload_n 0 d_MD_timesPart_159 rfl rfl ?_
                refine A_getIv (z := x38) T_ok d_MD_timesPart_160 f_MD_271 (hb_s hb35 sf_170) ex38.symm ?_
                refine A_pc (pc' := 163) rfl ?_
                refine A_iastoreN d_MD_timesPart_163 (hb_s hb35 sf_203) g28.1 g28.2 ?_
                refine A_hn (fun h42 eh42 => ?_)
                have hb43 := hb_i hb35 eh42
                replace H := H h42 eh42
                refine A_aload_n 0 d_MD_timesPart_164 rfl rfl ?_
                refine A_callV0 m_MD_next T_ok d_MD_timesPart_165 l_MD_309 k_MD_next (hb_s hb43 sf_170) rfl (by decide +kernel) (by decide) (Nat.le_of_ble_eq_true rfl) H (fun r h44 hq => ?_)
                clear H
                obtain ⟨z46, rfl, hb45, H⟩ := hq
                refine A_popI d_MD_timesPart_168 ?_
                refine A_aload_n 0 d_MD_timesPart_169 rfl rfl ?_
                refine A_bipush d_MD_timesPart_170 rfl ?_
                refine A_callV1 m_MD_want T_ok d_MD_timesPart_172 l_MD_344 k_MD_want (hb_s hb45 sf_170) rfl (by decide +kernel) (by decide) (Nat.le_of_ble_eq_true rfl) H (fun r h47 hq => ?_)
                clear H
                obtain ⟨z49, rfl, hb48, H⟩ := hq
                exact A_zret d_MD_timesPart_175 (by decide) rfl H.1 H.2
              · replace H := H.2 c
                refine A_pc (pc' := 144) rfl ?_
                refine A_free (L' := [some (av_R (some 170)), none]) (And.intro rfl trivial) ?_
                exact b_MD_timesPart_144    hb35 H
          · replace H := H.2 c
            refine A_aload_n 0 d_MD_timesPart_122 rfl rfl ?_
            refine A_callV0 m_MD_cant T_ok d_MD_timesPart_123 l_MD_313 k_MD_cant (hb_s hb35 sf_170) rfl (by decide +kernel) (by decide) (Nat.le_of_ble_eq_true rfl) H (fun r h50 hq => ?_)
            clear H
            obtain ⟨z52, rfl, hb51, H⟩ := hq
            exact A_zret d_MD_timesPart_126 (by decide) rfl H.1 H.2
        · replace H := H.1 c
          refine A_iconst d_MD_timesPart_112 rfl ?_
          exact A_zret d_MD_timesPart_113 (by decide) rfl (by decide) H
      · replace H := H.2 c
        refine A_pc (pc' := 78) rfl ?_
        refine A_free (L' := [some (av_R (some 170)), none]) (And.intro rfl trivial) ?_
        exact b_MD_timesPart_78    hb21 H
  · replace H := H.2 c
    refine A_aload_n 0 d_MD_timesPart_56 rfl rfl ?_
    refine A_callV0 m_MD_cant T_ok d_MD_timesPart_57 l_MD_313 k_MD_cant (hb_s hb21 sf_170) rfl (by decide +kernel) (by decide) (Nat.le_of_ble_eq_true rfl) H (fun r h53 hq => ?_)
    clear H
    obtain ⟨z55, rfl, hb54, H⟩ := hq
    exact A_zret d_MD_timesPart_60 (by decide) rfl H.1 H.2
theorem c_MD_timesPart {G : cx_T} {s : Nat} {h : ah_T} {Q : Option av_T → ah_T → Prop} (hb0 : hb s h) (H : B_MD_timesPart_0 G s h Q ) : con G 4 0 0 m_MD_timesPart [av_R (some 170)] h Q := by
  have hS : isS s := hb0.2.1
  refine con_of (L := [some (av_R (some 170)), none]) (by decide +kernel) (Nat.le_of_ble_eq_true rfl) rfl ?_
  exact b_MD_timesPart_0   hb0 (H )
def B_MD_voicePart_264 (G : cx_T) (s : Nat) (t0 : Int) (h : ah_T) (Q : Option av_T → ah_T → Prop) : Prop :=
 ((t0 = 0 → con G 1 0 0 m_MD_cant [av_R (some 170)] h (fun r h53 => ∃ z55 : Int, r = some (av_I z55) ∧ hb s h53 ∧ (z55 = 0 ∨ z55 = 1) ∧ Q (some (av_I z55)) h53)) ∧ (¬ t0 = 0 → ∀ x1 : Int, x1 = h.2.1 170 63 → -2147483648 ≤ x1 → x1 ≤ 2147483647 → ((x1 ≤ 6 → con G 0 0 0 m_MD_isSign [av_R (some 170), av_I 124] h (fun r h2 => ∃ z4 : Int, r = some (av_I z4) ∧ hb s h2 ∧ ((z4 = 0 → con G 0 0 0 m_MD_isSign [av_R (some 170), av_I 91] h2 (fun r h5 => ∃ z7 : Int, r = some (av_I z7) ∧ hb s h5 ∧ ((z7 = 0 → con G 0 0 0 m_MD_isSign [av_R (some 170), av_I 123] h5 (fun r h8 => ∃ z10 : Int, r = some (av_I z10) ∧ hb s h8 ∧ ((z10 = 0 → con G 4 0 0 m_MD_soundPart [av_R (some 170)] h8 (fun r h11 => ∃ z13 : Int, r = some (av_I z13) ∧ hb s h11 ∧ (z13 = 0 ∨ z13 = 1) ∧ Q (some (av_I z13)) h11)) ∧ (¬ z10 = 0 → con G 4 0 0 m_MD_timesPart [av_R (some 170)] h8 (fun r h14 => ∃ z16 : Int, r = some (av_I z16) ∧ hb s h14 ∧ (z16 = 0 ∨ z16 = 1) ∧ Q (some (av_I z16)) h14))))) ∧ (¬ z7 = 0 → ∀ x18 : Int, x18 = h5.2.1 170 63 → -2147483648 ≤ x18 → x18 ≤ 2147483647 → ∀ x19 : Int, x19 = h5.2.1 170 43 → -2147483648 ≤ x19 → x19 ≤ 2147483647 → (0 ≤ x18 ∧ x18 < 8) ∧ ∀ h21 : ah_T, h21 = st_i h5 215 (x18).toNat x19 → (0 ≤ x19 ∧ x19 < 2100) ∧ ∀ h26 : ah_T, h26 = st_i h21 214 (x19).toNat 0 → con G 0 0 0 m_MD_put [av_R (some 170), av_I 2] h26 (fun r h28 => r = none ∧ hb s h28 ∧ ∀ x32 : Int, x32 = h28.2.1 170 63 → -2147483648 ≤ x32 → x32 ≤ 2147483647 → (0 ≤ x32 ∧ x32 < 8) ∧ ∀ h34 : ah_T, h34 = st_i h28 216 (x32).toNat 2 → ((-2147483648) ≤ (x32 + 1) ∧ (x32 + 1) ≤ 2147483647) ∧ ∀ h38 : ah_T, h38 = st_i h34 170 63 (x32 + 1) → con G 2 0 0 m_MD_next [av_R (some 170)] h38 (fun r h40 => ∃ z42 : Int, r = some (av_I z42) ∧ hb s h40 ∧ (z42 = 0 ∨ z42 = 1) ∧ Q (some (av_I z42)) h40)))))) ∧ (¬ z4 = 0 → con G 0 0 0 m_MD_put [av_R (some 170), av_I 1] h2 (fun r h43 => r = none ∧ hb s h43 ∧ con G 2 0 0 m_MD_next [av_R (some 170)] h43 (fun r h46 => ∃ z48 : Int, r = some (av_I z48) ∧ hb s h46 ∧ (z48 = 0 ∨ z48 = 1) ∧ Q (some (av_I z48)) h46)))))) ∧ (¬ x1 ≤ 6 → ∀ x49 : Int, x49 = h.2.1 170 5 → -2147483648 ≤ x49 → x49 ≤ 2147483647 → con G 0 0 0 m_MD_wrong [av_R (some 170), av_I 3, av_I x49] h (fun r h50 => ∃ z52 : Int, r = some (av_I z52) ∧ hb s h50 ∧ (z52 = 0 ∨ z52 = 1) ∧ Q (some (av_I z52)) h50)))))
theorem b_MD_voicePart_264 {G : cx_T} {s : Nat} {t0 : Int} {h : ah_T} {Q : Option av_T → ah_T → Prop} (hb0 : hb s h) (H : B_MD_voicePart_264 G s t0 h Q ) : aw G (rm_R 5 0 0) m_MD_voicePart 0 0 264 [some (av_R (some 170)), none, none] [av_I t0] h Q := by
  unfold B_MD_voicePart_264 at H
  have hS : isS s := hb0.2.1
  refine A_istore_n 1 (L' := [some (av_R (some 170)), some (av_I t0), none]) d_MD_voicePart_264 rfl (Nat.le_of_ble_eq_true rfl) rfl ?_
  refine A_iload_n 1 d_MD_voicePart_265 rfl rfl ?_
  refine A_if_ne (tgt := 274) d_MD_voicePart_266 (by decide) (fun c => ?_) (fun c => ?_)
  · replace H := H.2 c
    refine A_aload_n 0 d_MD_voicePart_274 rfl rfl ?_
    refine A_getIf T_ok d_MD_voicePart_275 f_MD_357 (hb_s hb0 sf_170) (fun x1 ex1 lx1 ux1 => ?_)
    replace H := H x1 ex1 lx1 ux1
    refine A_bipush d_MD_voicePart_278 rfl ?_
    refine A_icmp_le (tgt := 293) d_MD_voicePart_280 (by decide) (fun c => ?_) (fun c => ?_)
    · replace H := H.1 c
      refine A_aload_n 0 d_MD_voicePart_293 rfl rfl ?_
      refine A_bipush d_MD_voicePart_294 rfl ?_
      refine A_callV1 m_MD_isSign T_ok d_MD_voicePart_296 l_MD_306 k_MD_isSign (hb_s hb0 sf_170) rfl (by decide +kernel) (by decide) (Nat.le_of_ble_eq_true rfl) H (fun r h2 hq => ?_)
      clear H
      obtain ⟨z4, rfl, hb3, H⟩ := hq
      refine A_if_eq (tgt := 312) d_MD_voicePart_299 (by decide) (fun c => ?_) (fun c => ?_)
      · replace H := H.1 c
        refine A_aload_n 0 d_MD_voicePart_312 rfl rfl ?_
        refine A_bipush d_MD_voicePart_313 rfl ?_
        refine A_callV1 m_MD_isSign T_ok d_MD_voicePart_315 l_MD_306 k_MD_isSign (hb_s hb3 sf_170) rfl (by decide +kernel) (by decide) (Nat.le_of_ble_eq_true rfl) H (fun r h5 hq => ?_)
        clear H
        obtain ⟨z7, rfl, hb6, H⟩ := hq
        refine A_if_eq (tgt := 374) d_MD_voicePart_318 (by decide) (fun c => ?_) (fun c => ?_)
        · replace H := H.1 c
          refine A_aload_n 0 d_MD_voicePart_374 rfl rfl ?_
          refine A_bipush d_MD_voicePart_375 rfl ?_
          refine A_callV1 m_MD_isSign T_ok d_MD_voicePart_377 l_MD_306 k_MD_isSign (hb_s hb6 sf_170) rfl (by decide +kernel) (by decide) (Nat.le_of_ble_eq_true rfl) H (fun r h8 hq => ?_)
          clear H
          obtain ⟨z10, rfl, hb9, H⟩ := hq
          refine A_if_eq (tgt := 388) d_MD_voicePart_380 (by decide) (fun c => ?_) (fun c => ?_)
          · replace H := H.1 c
            refine A_aload_n 0 d_MD_voicePart_388 rfl rfl ?_
            refine A_callV0 m_MD_soundPart T_ok d_MD_voicePart_389 l_MD_375 k_MD_soundPart (hb_s hb9 sf_170) rfl (by decide +kernel) (by decide) (Nat.le_of_ble_eq_true rfl) H (fun r h11 hq => ?_)
            clear H
            obtain ⟨z13, rfl, hb12, H⟩ := hq
            exact A_zret d_MD_voicePart_392 (by decide) rfl H.1 H.2
          · replace H := H.2 c
            refine A_aload_n 0 d_MD_voicePart_383 rfl rfl ?_
            refine A_callV0 m_MD_timesPart T_ok d_MD_voicePart_384 l_MD_372 k_MD_timesPart (hb_s hb9 sf_170) rfl (by decide +kernel) (by decide) (Nat.le_of_ble_eq_true rfl) H (fun r h14 hq => ?_)
            clear H
            obtain ⟨z16, rfl, hb15, H⟩ := hq
            exact A_zret d_MD_voicePart_387 (by decide) rfl H.1 H.2
        · replace H := H.2 c
          refine A_aload_n 0 d_MD_voicePart_321 rfl rfl ?_
          refine A_getAv (z := some 215) T_ok d_MD_voicePart_322 f_MD_148 (hb_s hb6 sf_170) (hb_m hb6 rfm_58) ?_
          refine A_aload_n 0 d_MD_voicePart_325 rfl rfl ?_
          refine A_getIf T_ok d_MD_voicePart_326 f_MD_357 (hb_s hb6 sf_170) (fun x18 ex18 lx18 ux18 => ?_)
          replace H := H x18 ex18 lx18 ux18
          refine A_aload_n 0 d_MD_voicePart_329 rfl rfl ?_
          refine A_pc (pc' := 330) rfl ?_
          refine A_getIf T_ok d_MD_voicePart_330 f_MD_354 (hb_s hb6 sf_170) (fun x19 ex19 lx19 ux19 => ?_)
          replace H := H x19 ex19 lx19 ux19
          have g20 := H.1
          replace H := H.2
          refine A_iastoreN d_MD_voicePart_333 (hb_s hb6 sf_215) g20.1 g20.2 ?_
          refine A_hn (fun h21 eh21 => ?_)
          have hb22 := hb_i hb6 eh21
          replace H := H h21 eh21
          refine A_aload_n 0 d_MD_voicePart_334 rfl rfl ?_
          refine A_getAv (z := some 214) T_ok d_MD_voicePart_335 f_MD_145 (hb_s hb22 sf_170) (hb_m hb22 rfm_57) ?_
          refine A_aload_n 0 d_MD_voicePart_338 rfl rfl ?_
          refine A_getIv (z := x19) T_ok d_MD_voicePart_339 f_MD_354 (hb_s hb22 sf_170) ((mm_i eh21 (fun q => absurd q.1 (by decide))).trans ex19.symm) ?_
          refine A_pc (pc' := 342) rfl ?_
          refine A_iconst d_MD_voicePart_342 rfl ?_
          have g25 := H.1
          replace H := H.2
          refine A_iastoreN d_MD_voicePart_343 (hb_s hb22 sf_214) g25.1 g25.2 ?_
          refine A_hn (fun h26 eh26 => ?_)
          have hb27 := hb_i hb22 eh26
          replace H := H h26 eh26
          refine A_aload_n 0 d_MD_voicePart_344 rfl rfl ?_
          refine A_iconst d_MD_voicePart_345 rfl ?_
          refine A_callV1 m_MD_put T_ok d_MD_voicePart_346 l_MD_369 k_MD_put (hb_s hb27 sf_170) rfl (by decide +kernel) (by decide) (Nat.le_of_ble_eq_true rfl) H (fun r h28 hq => ?_)
          clear H
          obtain ⟨rfl, hb29, H⟩ := hq
          refine A_aload_n 0 d_MD_voicePart_349 rfl rfl ?_
          refine A_getAv (z := some 216) T_ok d_MD_voicePart_350 f_MD_151 (hb_s hb29 sf_170) (hb_m hb29 rfm_62) ?_
          refine A_aload_n 0 d_MD_voicePart_353 rfl rfl ?_
          refine A_getIf T_ok d_MD_voicePart_354 f_MD_357 (hb_s hb29 sf_170) (fun x32 ex32 lx32 ux32 => ?_)
          replace H := H x32 ex32 lx32 ux32
          refine A_iconst d_MD_voicePart_357 rfl ?_
          refine A_pc (pc' := 358) rfl ?_
          have g33 := H.1
          replace H := H.2
          refine A_iastoreN d_MD_voicePart_358 (hb_s hb29 sf_216) g33.1 g33.2 ?_
          refine A_hn (fun h34 eh34 => ?_)
          have hb35 := hb_i hb29 eh34
          replace H := H h34 eh34
          refine A_aload_n 0 d_MD_voicePart_359 rfl rfl ?_
          refine A_dupR d_MD_voicePart_360 ?_
          refine A_getIv (z := x32) T_ok d_MD_voicePart_361 f_MD_357 (hb_s hb35 sf_170) ((mm_i eh34 (fun q => absurd q.1 (by decide))).trans ex32.symm) ?_
          refine A_iconst d_MD_voicePart_364 rfl ?_
          have g37 := H.1
          replace H := H.2
          refine A_iaddv (z := (x32 + 1)) d_MD_voicePart_365 (w32_to (by omega) (by unfold i32; omega)) ?_
          refine A_pc (pc' := 366) rfl ?_
          refine A_putI T_ok d_MD_voicePart_366 f_MD_357 (hb_s hb35 sf_170) fin_f ?_
          refine A_hn (fun h38 eh38 => ?_)
          have hb39 := hb_i hb35 eh38
          replace H := H h38 eh38
          refine A_aload_n 0 d_MD_voicePart_369 rfl rfl ?_
          refine A_callV0 m_MD_next T_ok d_MD_voicePart_370 l_MD_309 k_MD_next (hb_s hb39 sf_170) rfl (by decide +kernel) (by decide) (Nat.le_of_ble_eq_true rfl) H (fun r h40 hq => ?_)
          clear H
          obtain ⟨z42, rfl, hb41, H⟩ := hq
          exact A_zret d_MD_voicePart_373 (by decide) rfl H.1 H.2
      · replace H := H.2 c
        refine A_aload_n 0 d_MD_voicePart_302 rfl rfl ?_
        refine A_iconst d_MD_voicePart_303 rfl ?_
        refine A_callV1 m_MD_put T_ok d_MD_voicePart_304 l_MD_369 k_MD_put (hb_s hb3 sf_170) rfl (by decide +kernel) (by decide) (Nat.le_of_ble_eq_true rfl) H (fun r h43 hq => ?_)
        clear H
        obtain ⟨rfl, hb44, H⟩ := hq
        refine A_aload_n 0 d_MD_voicePart_307 rfl rfl ?_
        refine A_callV0 m_MD_next T_ok d_MD_voicePart_308 l_MD_309 k_MD_next (hb_s hb44 sf_170) rfl (by decide +kernel) (by decide) (Nat.le_of_ble_eq_true rfl) H (fun r h46 hq => ?_)
        clear H
        obtain ⟨z48, rfl, hb47, H⟩ := hq
        exact A_zret d_MD_voicePart_311 (by decide) rfl H.1 H.2
    · replace H := H.2 c
      refine A_aload_n 0 d_MD_voicePart_283 rfl rfl ?_
      refine A_iconst d_MD_voicePart_284 rfl ?_
      refine A_aload_n 0 d_MD_voicePart_285 rfl rfl ?_
      refine A_getIf T_ok d_MD_voicePart_286 f_MD_242 (hb_s hb0 sf_170) (fun x49 ex49 lx49 ux49 => ?_)
      replace H := H x49 ex49 lx49 ux49
      refine A_callV2 m_MD_wrong T_ok d_MD_voicePart_289 l_MD_245 k_MD_wrong (hb_s hb0 sf_170) rfl (by decide +kernel) (by decide) (Nat.le_of_ble_eq_true rfl) H (fun r h50 hq => ?_)
      clear H
      obtain ⟨z52, rfl, hb51, H⟩ := hq
      exact A_zret d_MD_voicePart_292 (by decide) rfl H.1 H.2
  · replace H := H.1 c
    refine A_aload_n 0 d_MD_voicePart_269 rfl rfl ?_
    refine A_callV0 m_MD_cant T_ok d_MD_voicePart_270 l_MD_313 k_MD_cant (hb_s hb0 sf_170) rfl (by decide +kernel) (by decide) (Nat.le_of_ble_eq_true rfl) H (fun r h53 hq => ?_)
    clear H
    obtain ⟨z55, rfl, hb54, H⟩ := hq
    exact A_zret d_MD_voicePart_273 (by decide) rfl H.1 H.2
def B_MD_voicePart_259 (G : cx_T) (s : Nat) (h : ah_T) (Q : Option av_T → ah_T → Prop) : Prop :=
 B_MD_voicePart_264 G s (1) h Q 
theorem b_MD_voicePart_259 {G : cx_T} {s : Nat} {h : ah_T} {Q : Option av_T → ah_T → Prop} (hb0 : hb s h) (H : B_MD_voicePart_259 G s h Q ) : aw G (rm_R 5 0 0) m_MD_voicePart 0 0 259 [some (av_R (some 170)), none, none] [] h Q := by
  unfold B_MD_voicePart_259 at H
  have hS : isS s := hb0.2.1
  refine A_iconst d_MD_voicePart_259 rfl ?_
  refine A_goto (tgt := 264) d_MD_voicePart_260 (by decide) ?_
  refine A_pc (pc' := 264) rfl ?_
  exact b_MD_voicePart_264    hb0 H
def B_MD_voicePart_207 (G : cx_T) (s : Nat) (h : ah_T) (Q : Option av_T → ah_T → Prop) : Prop :=
 ∀ x1 : Int, x1 = h.2.1 170 4 → -2147483648 ≤ x1 → x1 ≤ 2147483647 → ((x1 = 1 → B_MD_voicePart_259 G s h Q ) ∧ (¬ x1 = 1 → con G 0 0 0 m_MD_isWord [av_R (some 170), av_I 5] h (fun r h2 => ∃ z4 : Int, r = some (av_I z4) ∧ hb s h2 ∧ ((z4 = 0 → con G 0 0 0 m_MD_isSign [av_R (some 170), av_I 60] h2 (fun r h5 => ∃ z7 : Int, r = some (av_I z7) ∧ hb s h5 ∧ ((z7 = 0 → con G 0 0 0 m_MD_isSign [av_R (some 170), av_I 124] h5 (fun r h8 => ∃ z10 : Int, r = some (av_I z10) ∧ hb s h8 ∧ ((z10 = 0 → con G 0 0 0 m_MD_isSign [av_R (some 170), av_I 91] h8 (fun r h11 => ∃ z13 : Int, r = some (av_I z13) ∧ hb s h11 ∧ ((z13 = 0 → con G 0 0 0 m_MD_isSign [av_R (some 170), av_I 123] h11 (fun r h14 => ∃ z16 : Int, r = some (av_I z16) ∧ hb s h14 ∧ ((z16 = 0 → B_MD_voicePart_264 G s (0) h14 Q ) ∧ (¬ z16 = 0 → B_MD_voicePart_259 G s h14 Q )))) ∧ (¬ z13 = 0 → B_MD_voicePart_259 G s h11 Q )))) ∧ (¬ z10 = 0 → B_MD_voicePart_259 G s h8 Q )))) ∧ (¬ z7 = 0 → B_MD_voicePart_259 G s h5 Q )))) ∧ (¬ z4 = 0 → B_MD_voicePart_259 G s h2 Q )))))
theorem b_MD_voicePart_207 {G : cx_T} {s : Nat} {h : ah_T} {Q : Option av_T → ah_T → Prop} (hb0 : hb s h) (H : B_MD_voicePart_207 G s h Q ) : aw G (rm_R 5 0 0) m_MD_voicePart 0 0 207 [some (av_R (some 170)), none, none] [] h Q := by
  unfold B_MD_voicePart_207 at H
  have hS : isS s := hb0.2.1
  refine A_aload_n 0 d_MD_voicePart_207 rfl rfl ?_
  refine A_getIf T_ok d_MD_voicePart_208 f_MD_239 (hb_s hb0 sf_170) (fun x1 ex1 lx1 ux1 => ?_)
  replace H := H x1 ex1 lx1 ux1
  refine A_iconst d_MD_voicePart_211 rfl ?_
  refine A_icmp_eq (tgt := 259) d_MD_voicePart_212 (by decide) (fun c => ?_) (fun c => ?_)
  · replace H := H.1 c
    refine A_pc (pc' := 259) rfl ?_
    exact b_MD_voicePart_259    hb0 H
  · replace H := H.2 c
    refine A_aload_n 0 d_MD_voicePart_215 rfl rfl ?_
    refine A_iconst d_MD_voicePart_216 rfl ?_
    refine A_callV1 m_MD_isWord T_ok d_MD_voicePart_217 l_MD_326 k_MD_isWord (hb_s hb0 sf_170) rfl (by decide +kernel) (by decide) (Nat.le_of_ble_eq_true rfl) H (fun r h2 hq => ?_)
    clear H
    obtain ⟨z4, rfl, hb3, H⟩ := hq
    refine A_if_ne (tgt := 259) d_MD_voicePart_220 (by decide) (fun c => ?_) (fun c => ?_)
    · replace H := H.2 c
      refine A_pc (pc' := 259) rfl ?_
      exact b_MD_voicePart_259    hb3 H
    · replace H := H.1 c
      refine A_aload_n 0 d_MD_voicePart_223 rfl rfl ?_
      refine A_bipush d_MD_voicePart_224 rfl ?_
      refine A_callV1 m_MD_isSign T_ok d_MD_voicePart_226 l_MD_306 k_MD_isSign (hb_s hb3 sf_170) rfl (by decide +kernel) (by decide) (Nat.le_of_ble_eq_true rfl) H (fun r h5 hq => ?_)
      clear H
      obtain ⟨z7, rfl, hb6, H⟩ := hq
      refine A_if_ne (tgt := 259) d_MD_voicePart_229 (by decide) (fun c => ?_) (fun c => ?_)
      · replace H := H.2 c
        refine A_pc (pc' := 259) rfl ?_
        exact b_MD_voicePart_259    hb6 H
      · replace H := H.1 c
        refine A_aload_n 0 d_MD_voicePart_232 rfl rfl ?_
        refine A_bipush d_MD_voicePart_233 rfl ?_
        refine A_callV1 m_MD_isSign T_ok d_MD_voicePart_235 l_MD_306 k_MD_isSign (hb_s hb6 sf_170) rfl (by decide +kernel) (by decide) (Nat.le_of_ble_eq_true rfl) H (fun r h8 hq => ?_)
        clear H
        obtain ⟨z10, rfl, hb9, H⟩ := hq
        refine A_if_ne (tgt := 259) d_MD_voicePart_238 (by decide) (fun c => ?_) (fun c => ?_)
        · replace H := H.2 c
          refine A_pc (pc' := 259) rfl ?_
          exact b_MD_voicePart_259    hb9 H
        · replace H := H.1 c
          refine A_aload_n 0 d_MD_voicePart_241 rfl rfl ?_
          refine A_bipush d_MD_voicePart_242 rfl ?_
          refine A_callV1 m_MD_isSign T_ok d_MD_voicePart_244 l_MD_306 k_MD_isSign (hb_s hb9 sf_170) rfl (by decide +kernel) (by decide) (Nat.le_of_ble_eq_true rfl) H (fun r h11 hq => ?_)
          clear H
          obtain ⟨z13, rfl, hb12, H⟩ := hq
          refine A_if_ne (tgt := 259) d_MD_voicePart_247 (by decide) (fun c => ?_) (fun c => ?_)
          · replace H := H.2 c
            refine A_pc (pc' := 259) rfl ?_
            exact b_MD_voicePart_259    hb12 H
          · replace H := H.1 c
            refine A_aload_n 0 d_MD_voicePart_250 rfl rfl ?_
            refine A_bipush d_MD_voicePart_251 rfl ?_
            refine A_callV1 m_MD_isSign T_ok d_MD_voicePart_253 l_MD_306 k_MD_isSign (hb_s hb12 sf_170) rfl (by decide +kernel) (by decide) (Nat.le_of_ble_eq_true rfl) H (fun r h14 hq => ?_)
            clear H
            obtain ⟨z16, rfl, hb15, H⟩ := hq
            refine A_if_eq (tgt := 263) d_MD_voicePart_256 (by decide) (fun c => ?_) (fun c => ?_)
            · replace H := H.1 c
              refine A_iconst d_MD_voicePart_263 rfl ?_
              refine A_pc (pc' := 264) rfl ?_
              exact b_MD_voicePart_264    hb15 H
            · replace H := H.2 c
              refine A_pc (pc' := 259) rfl ?_
              exact b_MD_voicePart_259    hb15 H
def B_MD_voicePart_189 (G : cx_T) (s : Nat) (t1 : Int) (h : ah_T) (Q : Option av_T → ah_T → Prop) : Prop :=
 con G 0 0 0 m_MD_put [av_R (some 170), av_I t1] h (fun r h1 => r = none ∧ hb s h1 ∧ ∀ x4 : Int, x4 = h1.2.1 170 63 → -2147483648 ≤ x4 → x4 ≤ 2147483647 → ((-2147483648) ≤ (x4 - 1) ∧ (x4 - 1) ≤ 2147483647) ∧ ∀ h6 : ah_T, h6 = st_i h1 170 63 (x4 - 1) → con G 2 0 0 m_MD_next [av_R (some 170)] h6 (fun r h8 => ∃ z10 : Int, r = some (av_I z10) ∧ hb s h8 ∧ (z10 = 0 ∨ z10 = 1) ∧ Q (some (av_I z10)) h8))
theorem b_MD_voicePart_189 {G : cx_T} {s : Nat} {t1 : Int} {h : ah_T} {Q : Option av_T → ah_T → Prop} (hb0 : hb s h) (H : B_MD_voicePart_189 G s t1 h Q ) : aw G (rm_R 5 0 0) m_MD_voicePart 0 0 189 [some (av_R (some 170)), none, none] [av_I t1, av_R (some 170)] h Q := by
  unfold B_MD_voicePart_189 at H
  have hS : isS s := hb0.2.1
  refine A_callV1 m_MD_put T_ok d_MD_voicePart_189 l_MD_369 k_MD_put (hb_s hb0 sf_170) rfl (by decide +kernel) (by decide) (Nat.le_of_ble_eq_true rfl) H (fun r h1 hq => ?_)
  clear H
  obtain ⟨rfl, hb2, H⟩ := hq
  refine A_aload_n 0 d_MD_voicePart_192 rfl rfl ?_
  refine A_dupR d_MD_voicePart_193 ?_
  refine A_getIf T_ok d_MD_voicePart_194 f_MD_357 (hb_s hb2 sf_170) (fun x4 ex4 lx4 ux4 => ?_)
  replace H := H x4 ex4 lx4 ux4
  refine A_iconst d_MD_voicePart_197 rfl ?_
  have g5 := H.1
  replace H := H.2
  refine A_isubv (z := (x4 - 1)) d_MD_voicePart_198 (w32_to (by omega) (by unfold i32; omega)) ?_
  refine A_pc (pc' := 199) rfl ?_
  refine A_putI T_ok d_MD_voicePart_199 f_MD_357 (hb_s hb2 sf_170) fin_f ?_
  refine A_hn (fun h6 eh6 => ?_)
  have hb7 := hb_i hb2 eh6
  replace H := H h6 eh6
  refine A_aload_n 0 d_MD_voicePart_202 rfl rfl ?_
  refine A_callV0 m_MD_next T_ok d_MD_voicePart_203 l_MD_309 k_MD_next (hb_s hb7 sf_170) rfl (by decide +kernel) (by decide) (Nat.le_of_ble_eq_true rfl) H (fun r h8 hq => ?_)
  clear H
  obtain ⟨z10, rfl, hb9, H⟩ := hq
  exact A_zret d_MD_voicePart_206 (by decide) rfl H.1 H.2
def B_MD_voicePart_132 (G : cx_T) (s : Nat) (v1 : Int) (t1 : Int) (h : ah_T) (Q : Option av_T → ah_T → Prop) : Prop :=
 con G 0 0 0 m_MD_isSign [av_R (some 170), av_I t1] h (fun r h1 => ∃ z3 : Int, r = some (av_I z3) ∧ hb s h1 ∧ ((z3 = 0 → B_MD_voicePart_207 G s h1 Q ) ∧ (¬ z3 = 0 → ∀ x5 : Int, x5 = h1.2.1 170 43 → -2147483648 ≤ x5 → x5 ≤ 2147483647 → ∀ x7 : Int, x7 = h1.2.1 170 63 → -2147483648 ≤ x7 → x7 ≤ 2147483647 → ((-2147483648) ≤ (x7 - 1) ∧ (x7 - 1) ≤ 2147483647) ∧ (0 ≤ (x7 - 1) ∧ (x7 - 1) < 8) ∧ ∀ x9 : Int, x9 = h1.2.1 215 ((x7 - 1)).toNat → -2147483648 ≤ x9 → x9 ≤ 2147483647 → (0 ≤ x5 ∧ x5 < 2100) ∧ ∀ h12 : ah_T, h12 = st_i h1 210 (x5).toNat x9 → (0 ≤ x9 ∧ x9 < 2100) ∧ ∀ h20 : ah_T, h20 = st_i h12 210 (x9).toNat x5 → ((v1 = 0 → B_MD_voicePart_189 G s (6) h20 Q ) ∧ (¬ v1 = 0 → B_MD_voicePart_189 G s (4) h20 Q )))))
theorem b_MD_voicePart_132 {G : cx_T} {s : Nat} {v1 : Int} {t1 : Int} {h : ah_T} {Q : Option av_T → ah_T → Prop} (hb0 : hb s h) (H : B_MD_voicePart_132 G s v1 t1 h Q ) : aw G (rm_R 5 0 0) m_MD_voicePart 0 0 132 [some (av_R (some 170)), some (av_I v1), none] [av_I t1, av_R (some 170)] h Q := by
  unfold B_MD_voicePart_132 at H
  have hS : isS s := hb0.2.1
  refine A_callV1 m_MD_isSign T_ok d_MD_voicePart_132 l_MD_306 k_MD_isSign (hb_s hb0 sf_170) rfl (by decide +kernel) (by decide) (Nat.le_of_ble_eq_true rfl) H (fun r h1 hq => ?_)
  clear H
  obtain ⟨z3, rfl, hb2, H⟩ := hq
  refine A_if_eq (tgt := 207) d_MD_voicePart_135 (by decide) (fun c => ?_) (fun c => ?_)
  · replace H := H.1 c
    refine A_pc (pc' := 207) rfl ?_
    refine A_free (L' := [some (av_R (some 170)), none, none]) (And.intro rfl trivial) ?_
    exact b_MD_voicePart_207    hb2 H
  · replace H := H.2 c
    refine A_aload_n 0 d_MD_voicePart_138 rfl rfl ?_
    refine A_getAv (z := some 210) T_ok d_MD_voicePart_139 f_MD_133 (hb_s hb2 sf_170) (hb_m hb2 rfm_53) ?_
    refine A_aload_n 0 d_MD_voicePart_142 rfl rfl ?_
    refine A_getIf T_ok d_MD_voicePart_143 f_MD_354 (hb_s hb2 sf_170) (fun x5 ex5 lx5 ux5 => ?_)
    replace H := H x5 ex5 lx5 ux5
    refine A_aload_n 0 d_MD_voicePart_146 rfl rfl ?_
    refine A_pc (pc' := 147) rfl ?_
    refine A_getAv (z := some 215) T_ok d_MD_voicePart_147 f_MD_148 (hb_s hb2 sf_170) (hb_m hb2 rfm_58) ?_
    refine A_aload_n 0 d_MD_voicePart_150 rfl rfl ?_
    refine A_getIf T_ok d_MD_voicePart_151 f_MD_357 (hb_s hb2 sf_170) (fun x7 ex7 lx7 ux7 => ?_)
    replace H := H x7 ex7 lx7 ux7
    refine A_iconst d_MD_voicePart_154 rfl ?_
    have g8 := H.1
    replace H := H.2
    refine A_isubv (z := (x7 - 1)) d_MD_voicePart_155 (w32_to (by omega) (by unfold i32; omega)) ?_
    have g10 := H.1
    replace H := H.2
    refine A_ialoadf d_MD_voicePart_156 (hb_s hb2 sf_215) g10.1 g10.2 (fun x9 ex9 lx9 ux9 => ?_)
    replace H := H x9 ex9 lx9 ux9
    refine A_pc (pc' := 157) rfl ?_
    have g11 := H.1
    replace H := H.2
    refine A_iastoreN d_MD_voicePart_157 (hb_s hb2 sf_210) g11.1 g11.2 ?_
    refine A_hn (fun h12 eh12 => ?_)
    have hb13 := hb_i hb2 eh12
    replace H := H h12 eh12
    refine A_aload_n 0 d_MD_voicePart_158 rfl rfl ?_
    refine A_getAv (z := some 210) T_ok d_MD_voicePart_159 f_MD_133 (hb_s hb13 sf_170) (hb_m hb13 rfm_53) ?_
    refine A_aload_n 0 d_MD_voicePart_162 rfl rfl ?_
    refine A_getAv (z := some 215) T_ok d_MD_voicePart_163 f_MD_148 (hb_s hb13 sf_170) (hb_m hb13 rfm_58) ?_
    refine A_aload_n 0 d_MD_voicePart_166 rfl rfl ?_
    refine A_pc (pc' := 167) rfl ?_
    refine A_getIv (z := x7) T_ok d_MD_voicePart_167 f_MD_357 (hb_s hb13 sf_170) ((mm_i eh12 (fun q => absurd q.1 (by decide))).trans ex7.symm) ?_
    refine A_iconst d_MD_voicePart_170 rfl ?_
    refine A_isubv (z := (x7 - 1)) d_MD_voicePart_171 (w32_to (by omega) (by unfold i32; omega)) ?_
    refine A_ialoadv (z := x9) d_MD_voicePart_172 (hb_s hb13 sf_215) (by omega) (by omega) ((mm_i eh12 (fun q => absurd q.1 (by decide))).trans ex9.symm) ?_
    refine A_aload_n 0 d_MD_voicePart_173 rfl rfl ?_
    refine A_getIv (z := x5) T_ok d_MD_voicePart_174 f_MD_354 (hb_s hb13 sf_170) ((mm_i eh12 (fun q => absurd q.1 (by decide))).trans ex5.symm) ?_
    refine A_pc (pc' := 177) rfl ?_
    have g19 := H.1
    replace H := H.2
    refine A_iastoreN d_MD_voicePart_177 (hb_s hb13 sf_210) g19.1 g19.2 ?_
    refine A_hn (fun h20 eh20 => ?_)
    have hb21 := hb_i hb13 eh20
    replace H := H h20 eh20
    refine A_aload_n 0 d_MD_voicePart_178 rfl rfl ?_
    refine A_iload_n 1 d_MD_voicePart_179 rfl rfl ?_
    refine A_if_eq (tgt := 187) d_MD_voicePart_180 (by decide) (fun c => ?_) (fun c => ?_)
    · replace H := H.1 c
      refine A_bipush d_MD_voicePart_187 rfl ?_
      refine A_pc (pc' := 189) rfl ?_
      refine A_free (L' := [some (av_R (some 170)), none, none]) (And.intro rfl trivial) ?_
      exact b_MD_voicePart_189    hb21 H
    · replace H := H.2 c
      refine A_iconst d_MD_voicePart_183 rfl ?_
      refine A_goto (tgt := 189) d_MD_voicePart_184 (by decide) ?_
      refine A_pc (pc' := 189) rfl ?_
      refine A_free (L' := [some (av_R (some 170)), none, none]) (And.intro rfl trivial) ?_
      exact b_MD_voicePart_189    hb21 H
def B_MD_voicePart_120 (G : cx_T) (s : Nat) (v1 : Int) (h : ah_T) (Q : Option av_T → ah_T → Prop) : Prop :=
 ((v1 = 0 → B_MD_voicePart_132 G s (v1) (125) h Q ) ∧ (¬ v1 = 0 → B_MD_voicePart_132 G s (v1) (93) h Q ))
theorem b_MD_voicePart_120 {G : cx_T} {s : Nat} {v1 : Int} {h : ah_T} {Q : Option av_T → ah_T → Prop} (hb0 : hb s h) (H : B_MD_voicePart_120 G s v1 h Q ) : aw G (rm_R 5 0 0) m_MD_voicePart 0 0 120 [some (av_R (some 170)), some (av_I v1), none] [] h Q := by
  unfold B_MD_voicePart_120 at H
  have hS : isS s := hb0.2.1
  refine A_aload_n 0 d_MD_voicePart_120 rfl rfl ?_
  refine A_iload_n 1 d_MD_voicePart_121 rfl rfl ?_
  refine A_if_eq (tgt := 130) d_MD_voicePart_122 (by decide) (fun c => ?_) (fun c => ?_)
  · replace H := H.1 c
    refine A_bipush d_MD_voicePart_130 rfl ?_
    refine A_pc (pc' := 132) rfl ?_
    exact b_MD_voicePart_132    hb0 H
  · replace H := H.2 c
    refine A_bipush d_MD_voicePart_125 rfl ?_
    refine A_goto (tgt := 132) d_MD_voicePart_127 (by decide) ?_
    refine A_pc (pc' := 132) rfl ?_
    exact b_MD_voicePart_132    hb0 H
def B_MD_voicePart_90 (G : cx_T) (s : Nat) (v2 : Int) (h : ah_T) (Q : Option av_T → ah_T → Prop) : Prop :=
 ∀ x2 : Int, x2 = h.2.1 170 43 → -2147483648 ≤ x2 → x2 ≤ 2147483647 → (0 ≤ v2 ∧ v2 < 2100) ∧ ∀ h4 : ah_T, h4 = st_i h 213 (v2).toNat x2 → ∀ x7 : Int, x7 = h4.2.1 214 (v2).toNat → -2147483648 ≤ x7 → x7 ≤ 2147483647 → ((-2147483648) ≤ (x7 + 1) ∧ (x7 + 1) ≤ 2147483647) ∧ ∀ h9 : ah_T, h9 = st_i h4 214 (v2).toNat (x7 + 1) → con G 0 0 0 m_MD_put [av_R (some 170), av_I 3] h9 (fun r h11 => r = none ∧ hb s h11 ∧ con G 2 0 0 m_MD_next [av_R (some 170)] h11 (fun r h14 => ∃ z16 : Int, r = some (av_I z16) ∧ hb s h14 ∧ (z16 = 0 ∨ z16 = 1) ∧ Q (some (av_I z16)) h14))
theorem b_MD_voicePart_90 {G : cx_T} {s : Nat} {v2 : Int} {h : ah_T} {Q : Option av_T → ah_T → Prop} (hb0 : hb s h) (H : B_MD_voicePart_90 G s v2 h Q ) : aw G (rm_R 5 0 0) m_MD_voicePart 0 0 90 [some (av_R (some 170)), none, some (av_I v2)] [] h Q := by
  unfold B_MD_voicePart_90 at H
  have hS : isS s := hb0.2.1
  refine A_aload_n 0 d_MD_voicePart_90 rfl rfl ?_
  refine A_getAv (z := some 213) T_ok d_MD_voicePart_91 f_MD_142 (hb_s hb0 sf_170) (hb_m hb0 rfm_56) ?_
  refine A_iload_n 2 d_MD_voicePart_94 rfl rfl ?_
  refine A_aload_n 0 d_MD_voicePart_95 rfl rfl ?_
  refine A_getIf T_ok d_MD_voicePart_96 f_MD_354 (hb_s hb0 sf_170) (fun x2 ex2 lx2 ux2 => ?_)
  replace H := H x2 ex2 lx2 ux2
  refine A_pc (pc' := 99) rfl ?_
  have g3 := H.1
  replace H := H.2
  refine A_iastoreN d_MD_voicePart_99 (hb_s hb0 sf_213) g3.1 g3.2 ?_
  refine A_hn (fun h4 eh4 => ?_)
  have hb5 := hb_i hb0 eh4
  replace H := H h4 eh4
  refine A_aload_n 0 d_MD_voicePart_100 rfl rfl ?_
  refine A_getAv (z := some 214) T_ok d_MD_voicePart_101 f_MD_145 (hb_s hb5 sf_170) (hb_m hb5 rfm_57) ?_
  refine A_iload_n 2 d_MD_voicePart_104 rfl rfl ?_
  refine A_dup2RI d_MD_voicePart_105 ?_
  refine A_ialoadf d_MD_voicePart_106 (hb_s hb5 sf_214) g3.1 g3.2 (fun x7 ex7 lx7 ux7 => ?_)
  replace H := H x7 ex7 lx7 ux7
  refine A_pc (pc' := 107) rfl ?_
  refine A_iconst d_MD_voicePart_107 rfl ?_
  have g8 := H.1
  replace H := H.2
  refine A_iaddv (z := (x7 + 1)) d_MD_voicePart_108 (w32_to (by omega) (by unfold i32; omega)) ?_
  refine A_iastoreN d_MD_voicePart_109 (hb_s hb5 sf_214) g3.1 g3.2 ?_
  refine A_hn (fun h9 eh9 => ?_)
  have hb10 := hb_i hb5 eh9
  replace H := H h9 eh9
  refine A_aload_n 0 d_MD_voicePart_110 rfl rfl ?_
  refine A_iconst d_MD_voicePart_111 rfl ?_
  refine A_callV1 m_MD_put T_ok d_MD_voicePart_112 l_MD_369 k_MD_put (hb_s hb10 sf_170) rfl (by decide +kernel) (by decide) (Nat.le_of_ble_eq_true rfl) H (fun r h11 hq => ?_)
  clear H
  obtain ⟨rfl, hb12, H⟩ := hq
  refine A_aload_n 0 d_MD_voicePart_115 rfl rfl ?_
  refine A_callV0 m_MD_next T_ok d_MD_voicePart_116 l_MD_309 k_MD_next (hb_s hb12 sf_170) rfl (by decide +kernel) (by decide) (Nat.le_of_ble_eq_true rfl) H (fun r h14 hq => ?_)
  clear H
  obtain ⟨z16, rfl, hb15, H⟩ := hq
  exact A_zret d_MD_voicePart_119 (by decide) rfl H.1 H.2
def B_MD_voicePart_27 (G : cx_T) (s : Nat) (t0 : Int) (h : ah_T) (Q : Option av_T → ah_T → Prop) : Prop :=
 ((t0 = 0 → B_MD_voicePart_120 G s (t0) h Q ) ∧ (¬ t0 = 0 → con G 0 0 0 m_MD_isSign [av_R (some 170), av_I 58] h (fun r h1 => ∃ z3 : Int, r = some (av_I z3) ∧ hb s h1 ∧ ((z3 = 0 → B_MD_voicePart_120 G s (t0) h1 Q ) ∧ (¬ z3 = 0 → ∀ x5 : Int, x5 = h1.2.1 170 63 → -2147483648 ≤ x5 → x5 ≤ 2147483647 → ((-2147483648) ≤ (x5 - 1) ∧ (x5 - 1) ≤ 2147483647) ∧ (0 ≤ (x5 - 1) ∧ (x5 - 1) < 8) ∧ ∀ x7 : Int, x7 = h1.2.1 215 ((x5 - 1)).toNat → -2147483648 ≤ x7 → x7 ≤ 2147483647 → (0 ≤ x7 ∧ x7 < 2100) ∧ ∀ x10 : Int, x10 = h1.2.1 214 (x7).toNat → -2147483648 ≤ x10 → x10 ≤ 2147483647 → ((x10 = 0 → ∀ x20 : Int, x20 = h1.2.1 170 43 → -2147483648 ≤ x20 → x20 ≤ 2147483647 → ∀ h21 : ah_T, h21 = st_i h1 211 (x7).toNat x20 → B_MD_voicePart_90 G s (x7) h21 Q ) ∧ (¬ x10 = 0 → ∀ x14 : Int, x14 = h1.2.1 213 (x7).toNat → -2147483648 ≤ x14 → x14 ≤ 2147483647 → ∀ x15 : Int, x15 = h1.2.1 170 43 → -2147483648 ≤ x15 → x15 ≤ 2147483647 → (0 ≤ x14 ∧ x14 < 2100) ∧ ∀ h17 : ah_T, h17 = st_i h1 212 (x14).toNat x15 → B_MD_voicePart_90 G s (x7) h17 Q )))))))
theorem b_MD_voicePart_27 {G : cx_T} {s : Nat} {t0 : Int} {h : ah_T} {Q : Option av_T → ah_T → Prop} (hb0 : hb s h) (H : B_MD_voicePart_27 G s t0 h Q ) : aw G (rm_R 5 0 0) m_MD_voicePart 0 0 27 [some (av_R (some 170)), none, none] [av_I t0] h Q := by
  unfold B_MD_voicePart_27 at H
  have hS : isS s := hb0.2.1
  refine A_istore_n 1 (L' := [some (av_R (some 170)), some (av_I t0), none]) d_MD_voicePart_27 rfl (Nat.le_of_ble_eq_true rfl) rfl ?_
  refine A_iload_n 1 d_MD_voicePart_28 rfl rfl ?_
  refine A_if_eq (tgt := 120) d_MD_voicePart_29 (by decide) (fun c => ?_) (fun c => ?_)
  · replace H := H.1 c
    refine A_pc (pc' := 120) rfl ?_
    exact b_MD_voicePart_120    hb0 H
  · replace H := H.2 c
    refine A_aload_n 0 d_MD_voicePart_32 rfl rfl ?_
    refine A_bipush d_MD_voicePart_33 rfl ?_
    refine A_callV1 m_MD_isSign T_ok d_MD_voicePart_35 l_MD_306 k_MD_isSign (hb_s hb0 sf_170) rfl (by decide +kernel) (by decide) (Nat.le_of_ble_eq_true rfl) H (fun r h1 hq => ?_)
    clear H
    obtain ⟨z3, rfl, hb2, H⟩ := hq
    refine A_if_eq (tgt := 120) d_MD_voicePart_38 (by decide) (fun c => ?_) (fun c => ?_)
    · replace H := H.1 c
      refine A_pc (pc' := 120) rfl ?_
      exact b_MD_voicePart_120    hb2 H
    · replace H := H.2 c
      refine A_aload_n 0 d_MD_voicePart_41 rfl rfl ?_
      refine A_getAv (z := some 215) T_ok d_MD_voicePart_42 f_MD_148 (hb_s hb2 sf_170) (hb_m hb2 rfm_58) ?_
      refine A_aload_n 0 d_MD_voicePart_45 rfl rfl ?_
      refine A_getIf T_ok d_MD_voicePart_46 f_MD_357 (hb_s hb2 sf_170) (fun x5 ex5 lx5 ux5 => ?_)
      replace H := H x5 ex5 lx5 ux5
      refine A_iconst d_MD_voicePart_49 rfl ?_
      refine A_pc (pc' := 50) rfl ?_
      have g6 := H.1
      replace H := H.2
      refine A_isubv (z := (x5 - 1)) d_MD_voicePart_50 (w32_to (by omega) (by unfold i32; omega)) ?_
      have g8 := H.1
      replace H := H.2
      refine A_ialoadf d_MD_voicePart_51 (hb_s hb2 sf_215) g8.1 g8.2 (fun x7 ex7 lx7 ux7 => ?_)
      replace H := H x7 ex7 lx7 ux7
      refine A_istore_n 2 (L' := [some (av_R (some 170)), some (av_I t0), some (av_I x7)]) d_MD_voicePart_52 rfl (Nat.le_of_ble_eq_true rfl) rfl ?_
      refine A_aload_n 0 d_MD_voicePart_53 rfl rfl ?_
      refine A_getAv (z := some 214) T_ok d_MD_voicePart_54 f_MD_145 (hb_s hb2 sf_170) (hb_m hb2 rfm_57) ?_
      refine A_iload_n 2 d_MD_voicePart_57 rfl rfl ?_
      refine A_pc (pc' := 58) rfl ?_
      have g11 := H.1
      replace H := H.2
      refine A_ialoadf d_MD_voicePart_58 (hb_s hb2 sf_214) g11.1 g11.2 (fun x10 ex10 lx10 ux10 => ?_)
      replace H := H x10 ex10 lx10 ux10
      refine A_if_ne (tgt := 75) d_MD_voicePart_59 (by decide) (fun c => ?_) (fun c => ?_)
      · replace H := H.2 c
        refine A_aload_n 0 d_MD_voicePart_75 rfl rfl ?_
        refine A_getAv (z := some 212) T_ok d_MD_voicePart_76 f_MD_139 (hb_s hb2 sf_170) (hb_m hb2 rfm_55) ?_
        refine A_aload_n 0 d_MD_voicePart_79 rfl rfl ?_
        refine A_getAv (z := some 213) T_ok d_MD_voicePart_80 f_MD_142 (hb_s hb2 sf_170) (hb_m hb2 rfm_56) ?_
        refine A_iload_n 2 d_MD_voicePart_83 rfl rfl ?_
        refine A_pc (pc' := 84) rfl ?_
        refine A_ialoadf d_MD_voicePart_84 (hb_s hb2 sf_213) g11.1 g11.2 (fun x14 ex14 lx14 ux14 => ?_)
        replace H := H x14 ex14 lx14 ux14
        refine A_aload_n 0 d_MD_voicePart_85 rfl rfl ?_
        refine A_getIf T_ok d_MD_voicePart_86 f_MD_354 (hb_s hb2 sf_170) (fun x15 ex15 lx15 ux15 => ?_)
        replace H := H x15 ex15 lx15 ux15
        have g16 := H.1
        replace H := H.2
        refine A_iastoreN d_MD_voicePart_89 (hb_s hb2 sf_212) g16.1 g16.2 ?_
        refine A_hn (fun h17 eh17 => ?_)
        have hb18 := hb_i hb2 eh17
        replace H := H h17 eh17
        refine A_pc (pc' := 90) rfl ?_
        refine A_free (L' := [some (av_R (some 170)), none, some (av_I x7)]) (And.intro rfl (And.intro rfl trivial)) ?_
        exact b_MD_voicePart_90    hb18 H
      · replace H := H.1 c
        refine A_aload_n 0 d_MD_voicePart_62 rfl rfl ?_
        refine A_getAv (z := some 211) T_ok d_MD_voicePart_63 f_MD_136 (hb_s hb2 sf_170) (hb_m hb2 rfm_54) ?_
        refine A_iload_n 2 d_MD_voicePart_66 rfl rfl ?_
        refine A_aload_n 0 d_MD_voicePart_67 rfl rfl ?_
        refine A_getIf T_ok d_MD_voicePart_68 f_MD_354 (hb_s hb2 sf_170) (fun x20 ex20 lx20 ux20 => ?_)
        replace H := H x20 ex20 lx20 ux20
        refine A_pc (pc' := 71) rfl ?_
        refine A_iastoreN d_MD_voicePart_71 (hb_s hb2 sf_211) g11.1 g11.2 ?_
        refine A_hn (fun h21 eh21 => ?_)
        have hb22 := hb_i hb2 eh21
        replace H := H h21 eh21
        refine A_goto (tgt := 90) d_MD_voicePart_72 (by decide) ?_
        refine A_pc (pc' := 90) rfl ?_
        refine A_free (L' := [some (av_R (some 170)), none, some (av_I x7)]) (And.intro rfl (And.intro rfl trivial)) ?_
        exact b_MD_voicePart_90    hb22 H
def B_MD_voicePart_0 (G : cx_T) (s : Nat) (h : ah_T) (Q : Option av_T → ah_T → Prop) : Prop :=
 ∀ x1 : Int, x1 = h.2.1 170 63 → -2147483648 ≤ x1 → x1 ≤ 2147483647 → ((x1 ≤ 0 → B_MD_voicePart_207 G s h Q ) ∧ (¬ x1 ≤ 0 → ((-2147483648) ≤ (x1 - 1) ∧ (x1 - 1) ≤ 2147483647) ∧ (0 ≤ (x1 - 1) ∧ (x1 - 1) < 8) ∧ ∀ x5 : Int, x5 = h.2.1 216 ((x1 - 1)).toNat → -2147483648 ≤ x5 → x5 ≤ 2147483647 → ((x5 = 2 → B_MD_voicePart_27 G s (1) h Q ) ∧ (¬ x5 = 2 → B_MD_voicePart_27 G s (0) h Q ))))
theorem b_MD_voicePart_0 {G : cx_T} {s : Nat} {h : ah_T} {Q : Option av_T → ah_T → Prop} (hb0 : hb s h) (H : B_MD_voicePart_0 G s h Q ) : aw G (rm_R 5 0 0) m_MD_voicePart 0 0 0 [some (av_R (some 170)), none, none] [] h Q := by
  unfold B_MD_voicePart_0 at H
  have hS : isS s := hb0.2.1
  refine A_aload_n 0 d_MD_voicePart_0 rfl rfl ?_
  refine A_getIf T_ok d_MD_voicePart_1 f_MD_357 (hb_s hb0 sf_170) (fun x1 ex1 lx1 ux1 => ?_)
  replace H := H x1 ex1 lx1 ux1
  refine A_if_le (tgt := 207) d_MD_voicePart_4 (by decide) (fun c => ?_) (fun c => ?_)
  · replace H := H.1 c
    refine A_pc (pc' := 207) rfl ?_
    exact b_MD_voicePart_207    hb0 H
  · replace H := H.2 c
    refine A_aload_n 0 d_MD_voicePart_7 rfl rfl ?_
    refine A_getAv (z := some 216) T_ok d_MD_voicePart_8 f_MD_151 (hb_s hb0 sf_170) (hb_m hb0 rfm_62) ?_
    refine A_aload_n 0 d_MD_voicePart_11 rfl rfl ?_
    refine A_getIv (z := x1) T_ok d_MD_voicePart_12 f_MD_357 (hb_s hb0 sf_170) ex1.symm ?_
    refine A_iconst d_MD_voicePart_15 rfl ?_
    refine A_pc (pc' := 16) rfl ?_
    have g4 := H.1
    replace H := H.2
    refine A_isubv (z := (x1 - 1)) d_MD_voicePart_16 (w32_to (by omega) (by unfold i32; omega)) ?_
    have g6 := H.1
    replace H := H.2
    refine A_ialoadf d_MD_voicePart_17 (hb_s hb0 sf_216) g6.1 g6.2 (fun x5 ex5 lx5 ux5 => ?_)
    replace H := H x5 ex5 lx5 ux5
    refine A_iconst d_MD_voicePart_18 rfl ?_
    refine A_icmp_ne (tgt := 26) d_MD_voicePart_19 (by decide) (fun c => ?_) (fun c => ?_)
    · replace H := H.2 c
      refine A_iconst d_MD_voicePart_26 rfl ?_
      refine A_pc (pc' := 27) rfl ?_
      exact b_MD_voicePart_27    hb0 H
    · replace H := H.1 c
      refine A_iconst d_MD_voicePart_22 rfl ?_
      refine A_goto (tgt := 27) d_MD_voicePart_23 (by decide) ?_
      refine A_pc (pc' := 27) rfl ?_
      exact b_MD_voicePart_27    hb0 H
theorem c_MD_voicePart {G : cx_T} {s : Nat} {h : ah_T} {Q : Option av_T → ah_T → Prop} (hb0 : hb s h) (H : B_MD_voicePart_0 G s h Q ) : con G 5 0 0 m_MD_voicePart [av_R (some 170)] h Q := by
  have hS : isS s := hb0.2.1
  refine con_of (L := [some (av_R (some 170)), none, none]) (by decide +kernel) (Nat.le_of_ble_eq_true rfl) rfl ?_
  exact b_MD_voicePart_0   hb0 (H )
def B_MD_voiceItem_61 (G : cx_T) (s : Nat) (v1 : Int) (h : ah_T) (Q : Option av_T → ah_T → Prop) (X45 : Int → ah_T → Prop) : Prop :=
 con G 5 0 0 m_MD_voicePart [av_R (some 170)] h (fun r h1 => ∃ z3 : Int, r = some (av_I z3) ∧ hb s h1 ∧ ((z3 = 0 → Q (some (av_I 0)) h1) ∧ (¬ z3 = 0 → X45 (v1) h1)))
theorem b_MD_voiceItem_61 {G : cx_T} {s : Nat} {v1 : Int} {h : ah_T} {Q : Option av_T → ah_T → Prop} {X45 : Int → ah_T → Prop} (hX45 : ∀ (v1 : Int) (h : ah_T), hb s h → X45 v1 h → aw G (rm_R 6 0 0) m_MD_voiceItem 0 0 45 [some (av_R (some 170)), some (av_I v1)] [] h Q) (hb0 : hb s h) (H : B_MD_voiceItem_61 G s v1 h Q X45) : aw G (rm_R 6 0 0) m_MD_voiceItem 0 0 61 [some (av_R (some 170)), some (av_I v1)] [] h Q := by
  unfold B_MD_voiceItem_61 at H
  have hS : isS s := hb0.2.1
  refine A_aload_n 0 d_MD_voiceItem_61 rfl rfl ?_
  refine A_callV0 m_MD_voicePart T_ok d_MD_voiceItem_62 l_MD_363 k_MD_voicePart (hb_s hb0 sf_170) rfl (by decide +kernel) (by decide) (Nat.le_of_ble_eq_true rfl) H (fun r h1 hq => ?_)
  clear H
  obtain ⟨z3, rfl, hb2, H⟩ := hq
  refine A_if_ne (tgt := 45) d_MD_voiceItem_65 (by decide) (fun c => ?_) (fun c => ?_)
  · replace H := H.2 c
    refine A_pc (pc' := 45) rfl ?_
    exact hX45 (v1) h1  hb2 H
  · replace H := H.1 c
    refine A_iconst d_MD_voiceItem_68 rfl ?_
    exact A_zret d_MD_voiceItem_69 (by decide) rfl (by decide) H
def B_MD_voiceItem_45 (G : cx_T) (s : Nat) (v1 : Int) (h : ah_T) (Q : Option av_T → ah_T → Prop) (X45 : Int → ah_T → Prop) : Prop :=
 ∀ x1 : Int, x1 = h.2.1 170 63 → -2147483648 ≤ x1 → x1 ≤ 2147483647 → ((0 < x1 → B_MD_voiceItem_61 G s (v1) h Q X45) ∧ (¬ 0 < x1 → con G 0 0 0 m_MD_isSign [av_R (some 170), av_I 59] h (fun r h2 => ∃ z4 : Int, r = some (av_I z4) ∧ hb s h2 ∧ ((z4 = 0 → B_MD_voiceItem_61 G s (v1) h2 Q X45) ∧ (¬ z4 = 0 → con G 4 0 0 m_MD_walk [av_R (some 170), av_I v1] h2 (fun r h5 => ∃ z7 : Int, r = some (av_I z7) ∧ hb s h5 ∧ ((z7 = 0 → Q (some (av_I 0)) h5) ∧ (¬ z7 = 0 → ∀ x9 : Int, x9 = h5.2.1 172 1 → -2147483648 ≤ x9 → x9 ≤ 2147483647 → ((-2147483648) ≤ (x9 + 1) ∧ (x9 + 1) ≤ 2147483647) ∧ ∀ h11 : ah_T, h11 = st_i h5 172 1 (x9 + 1) → con G 2 0 0 m_MD_next [av_R (some 170)] h11 (fun r h13 => ∃ z15 : Int, r = some (av_I z15) ∧ hb s h13 ∧ (z15 = 0 ∨ z15 = 1) ∧ Q (some (av_I z15)) h13)))))))))
theorem b_MD_voiceItem_45 {G : cx_T} {s : Nat} {v1 : Int} {h : ah_T} {Q : Option av_T → ah_T → Prop} {X45 : Int → ah_T → Prop} (hX45 : ∀ (v1 : Int) (h : ah_T), hb s h → X45 v1 h → aw G (rm_R 6 0 0) m_MD_voiceItem 0 0 45 [some (av_R (some 170)), some (av_I v1)] [] h Q) (hb0 : hb s h) (H : B_MD_voiceItem_45 G s v1 h Q X45) : aw G (rm_R 6 0 0) m_MD_voiceItem 0 0 45 [some (av_R (some 170)), some (av_I v1)] [] h Q := by
  unfold B_MD_voiceItem_45 at H
  have hS : isS s := hb0.2.1
  refine A_aload_n 0 d_MD_voiceItem_45 rfl rfl ?_
  refine A_getIf T_ok d_MD_voiceItem_46 f_MD_357 (hb_s hb0 sf_170) (fun x1 ex1 lx1 ux1 => ?_)
  replace H := H x1 ex1 lx1 ux1
  refine A_if_gt (tgt := 61) d_MD_voiceItem_49 (by decide) (fun c => ?_) (fun c => ?_)
  · replace H := H.1 c
    refine A_pc (pc' := 61) rfl ?_
    exact b_MD_voiceItem_61  hX45  hb0 H
  · replace H := H.2 c
    refine A_aload_n 0 d_MD_voiceItem_52 rfl rfl ?_
    refine A_bipush d_MD_voiceItem_53 rfl ?_
    refine A_callV1 m_MD_isSign T_ok d_MD_voiceItem_55 l_MD_306 k_MD_isSign (hb_s hb0 sf_170) rfl (by decide +kernel) (by decide) (Nat.le_of_ble_eq_true rfl) H (fun r h2 hq => ?_)
    clear H
    obtain ⟨z4, rfl, hb3, H⟩ := hq
    refine A_if_ne (tgt := 70) d_MD_voiceItem_58 (by decide) (fun c => ?_) (fun c => ?_)
    · replace H := H.2 c
      refine A_aload_n 0 d_MD_voiceItem_70 rfl rfl ?_
      refine A_iload_n 1 d_MD_voiceItem_71 rfl rfl ?_
      refine A_callV1 m_MD_walk T_ok d_MD_voiceItem_72 l_MD_366 k_MD_walk (hb_s hb3 sf_170) rfl (by decide +kernel) (by decide) (Nat.le_of_ble_eq_true rfl) H (fun r h5 hq => ?_)
      clear H
      obtain ⟨z7, rfl, hb6, H⟩ := hq
      refine A_if_ne (tgt := 80) d_MD_voiceItem_75 (by decide) (fun c => ?_) (fun c => ?_)
      · replace H := H.2 c
        refine A_aload_n 0 d_MD_voiceItem_80 rfl rfl ?_
        refine A_getAv (z := some 172) T_ok d_MD_voiceItem_81 f_MD_17 (hb_s hb6 sf_170) (hb_m hb6 rfm_14) ?_
        refine A_iconst d_MD_voiceItem_84 rfl ?_
        refine A_dup2RI d_MD_voiceItem_85 ?_
        refine A_ialoadf d_MD_voiceItem_86 (hb_s hb6 sf_172) (by decide) (by decide) (fun x9 ex9 lx9 ux9 => ?_)
        replace H := H x9 ex9 lx9 ux9
        refine A_pc (pc' := 87) rfl ?_
        refine A_iconst d_MD_voiceItem_87 rfl ?_
        have g10 := H.1
        replace H := H.2
        refine A_iaddv (z := (x9 + 1)) d_MD_voiceItem_88 (w32_to (by omega) (by unfold i32; omega)) ?_
        refine A_iastoreN d_MD_voiceItem_89 (hb_s hb6 sf_172) (by decide) (by decide) ?_
        refine A_hn (fun h11 eh11 => ?_)
        have hb12 := hb_i hb6 eh11
        replace H := H h11 eh11
        refine A_aload_n 0 d_MD_voiceItem_90 rfl rfl ?_
        refine A_callV0 m_MD_next T_ok d_MD_voiceItem_91 l_MD_309 k_MD_next (hb_s hb12 sf_170) rfl (by decide +kernel) (by decide) (Nat.le_of_ble_eq_true rfl) H (fun r h13 hq => ?_)
        clear H
        obtain ⟨z15, rfl, hb14, H⟩ := hq
        exact A_zret d_MD_voiceItem_94 (by decide) rfl H.1 H.2
      · replace H := H.1 c
        refine A_iconst d_MD_voiceItem_78 rfl ?_
        exact A_zret d_MD_voiceItem_79 (by decide) rfl (by decide) H
    · replace H := H.1 c
      refine A_pc (pc' := 61) rfl ?_
      exact b_MD_voiceItem_61  hX45  hb3 H
theorem lp_MD_voiceItem_45 {G : cx_T} {s : Nat} {Q : Option av_T → ah_T → Prop} (I : Int → ah_T → Prop) (μ : Int → ah_T → Nat) (hI : ∀ (v1 : Int) (h : ah_T), hb s h → I v1 h → B_MD_voiceItem_45 G s v1 h Q (fun v1' h' => I v1' h' ∧ μ v1' h' < μ v1 h)) : ∀ (v1 : Int) (h : ah_T), hb s h → I v1 h → aw G (rm_R 6 0 0) m_MD_voiceItem 0 0 45 [some (av_R (some 170)), some (av_I v1)] [] h Q := by
  have key : ∀ (n : Nat) (v1 : Int) (h : ah_T), hb s h → I v1 h → μ v1 h < n → aw G (rm_R 6 0 0) m_MD_voiceItem 0 0 45 [some (av_R (some 170)), some (av_I v1)] [] h Q := by
    intro n
    induction n with
    | zero => intro v1 h  hb0 hi hm; omega
    | succ n ih => intro v1 h  hb0 hi hm; exact b_MD_voiceItem_45  (fun v1' h'  hb' hx => ih v1' h'  hb' hx.1 (by have := hx.2; omega))  hb0 (hI v1 h  hb0 hi)
  exact fun v1 h  hb0 hi => key _ v1 h  hb0 hi (Nat.lt_succ_self _)
def B_MD_voiceItem_0 (G : cx_T) (s : Nat) (h : ah_T) (Q : Option av_T → ah_T → Prop) (X45 : Int → ah_T → Prop) : Prop :=
 ∀ x1 : Int, x1 = h.2.1 170 5 → -2147483648 ≤ x1 → x1 ≤ 2147483647 → ∀ x3 : Int, x3 = h.2.1 172 1 → -2147483648 ≤ x3 → x3 ≤ 2147483647 → ((x3 = 4 → con G 0 0 0 m_MD_wrong [av_R (some 170), av_I 3, av_I x1] h (fun r h14 => ∃ z16 : Int, r = some (av_I z16) ∧ hb s h14 ∧ (z16 = 0 ∨ z16 = 1) ∧ Q (some (av_I z16)) h14)) ∧ (¬ x3 = 4 → con G 2 0 0 m_MD_next [av_R (some 170)] h (fun r h4 => ∃ z6 : Int, r = some (av_I z6) ∧ hb s h4 ∧ ∀ h7 : ah_T, h7 = st_i h4 170 43 0 → ∀ h9 : ah_T, h9 = st_i h7 170 63 0 → ∀ h11 : ah_T, h11 = st_i h9 170 64 0 → X45 (x1) h11)))
theorem b_MD_voiceItem_0 {G : cx_T} {s : Nat} {h : ah_T} {Q : Option av_T → ah_T → Prop} {X45 : Int → ah_T → Prop} (hX45 : ∀ (v1 : Int) (h : ah_T), hb s h → X45 v1 h → aw G (rm_R 6 0 0) m_MD_voiceItem 0 0 45 [some (av_R (some 170)), some (av_I v1)] [] h Q) (hb0 : hb s h) (H : B_MD_voiceItem_0 G s h Q X45) : aw G (rm_R 6 0 0) m_MD_voiceItem 0 0 0 [some (av_R (some 170)), none] [] h Q := by
  unfold B_MD_voiceItem_0 at H
  have hS : isS s := hb0.2.1
  refine A_aload_n 0 d_MD_voiceItem_0 rfl rfl ?_
  refine A_getIf T_ok d_MD_voiceItem_1 f_MD_242 (hb_s hb0 sf_170) (fun x1 ex1 lx1 ux1 => ?_)
  replace H := H x1 ex1 lx1 ux1
  refine A_istore_n 1 (L' := [some (av_R (some 170)), some (av_I x1)]) d_MD_voiceItem_4 rfl (Nat.le_of_ble_eq_true rfl) rfl ?_
  refine A_aload_n 0 d_MD_voiceItem_5 rfl rfl ?_
  refine A_getAv (z := some 172) T_ok d_MD_voiceItem_6 f_MD_17 (hb_s hb0 sf_170) (hb_m hb0 rfm_14) ?_
  refine A_pc (pc' := 9) rfl ?_
  refine A_iconst d_MD_voiceItem_9 rfl ?_
  refine A_ialoadf d_MD_voiceItem_10 (hb_s hb0 sf_172) (by decide) (by decide) (fun x3 ex3 lx3 ux3 => ?_)
  replace H := H x3 ex3 lx3 ux3
  refine A_iconst d_MD_voiceItem_11 rfl ?_
  refine A_icmp_ne (tgt := 25) d_MD_voiceItem_12 (by decide) (fun c => ?_) (fun c => ?_)
  · replace H := H.2 c
    refine A_aload_n 0 d_MD_voiceItem_25 rfl rfl ?_
    refine A_callV0 m_MD_next T_ok d_MD_voiceItem_26 l_MD_309 k_MD_next (hb_s hb0 sf_170) rfl (by decide +kernel) (by decide) (Nat.le_of_ble_eq_true rfl) H (fun r h4 hq => ?_)
    clear H
    obtain ⟨z6, rfl, hb5, H⟩ := hq
    refine A_popI d_MD_voiceItem_29 ?_
    refine A_aload_n 0 d_MD_voiceItem_30 rfl rfl ?_
    refine A_iconst d_MD_voiceItem_31 rfl ?_
    refine A_putI T_ok d_MD_voiceItem_32 f_MD_354 (hb_s hb5 sf_170) fin_f ?_
    refine A_hn (fun h7 eh7 => ?_)
    have hb8 := hb_i hb5 eh7
    replace H := H h7 eh7
    refine A_aload_n 0 d_MD_voiceItem_35 rfl rfl ?_
    refine A_pc (pc' := 36) rfl ?_
    refine A_iconst d_MD_voiceItem_36 rfl ?_
    refine A_putI T_ok d_MD_voiceItem_37 f_MD_357 (hb_s hb8 sf_170) fin_f ?_
    refine A_hn (fun h9 eh9 => ?_)
    have hb10 := hb_i hb8 eh9
    replace H := H h9 eh9
    refine A_aload_n 0 d_MD_voiceItem_40 rfl rfl ?_
    refine A_iconst d_MD_voiceItem_41 rfl ?_
    refine A_putI T_ok d_MD_voiceItem_42 f_MD_360 (hb_s hb10 sf_170) fin_f ?_
    refine A_hn (fun h11 eh11 => ?_)
    have hb12 := hb_i hb10 eh11
    replace H := H h11 eh11
    refine A_pc (pc' := 45) rfl ?_
    exact hX45 (x1) h11  hb12 H
  · replace H := H.1 c
    refine A_aload_n 0 d_MD_voiceItem_15 rfl rfl ?_
    refine A_iconst d_MD_voiceItem_16 rfl ?_
    refine A_aload_n 0 d_MD_voiceItem_17 rfl rfl ?_
    refine A_getIv (z := x1) T_ok d_MD_voiceItem_18 f_MD_242 (hb_s hb0 sf_170) ex1.symm ?_
    refine A_callV2 m_MD_wrong T_ok d_MD_voiceItem_21 l_MD_245 k_MD_wrong (hb_s hb0 sf_170) rfl (by decide +kernel) (by decide) (Nat.le_of_ble_eq_true rfl) H (fun r h14 hq => ?_)
    clear H
    obtain ⟨z16, rfl, hb15, H⟩ := hq
    exact A_zret d_MD_voiceItem_24 (by decide) rfl H.1 H.2
theorem c_MD_voiceItem {G : cx_T} {s : Nat} {h : ah_T} {Q : Option av_T → ah_T → Prop} {X45 : Int → ah_T → Prop} (hX45 : ∀ (v1 : Int) (h : ah_T), hb s h → X45 v1 h → aw G (rm_R 6 0 0) m_MD_voiceItem 0 0 45 [some (av_R (some 170)), some (av_I v1)] [] h Q) (hb0 : hb s h) (H : B_MD_voiceItem_0 G s h Q X45) : con G 6 0 0 m_MD_voiceItem [av_R (some 170)] h Q := by
  have hS : isS s := hb0.2.1
  refine con_of (L := [some (av_R (some 170)), none]) (by decide +kernel) (Nat.le_of_ble_eq_true rfl) rfl ?_
  exact b_MD_voiceItem_0  hX45 hb0 (H )
def B_MD_parse_161 (G : cx_T) (s : Nat) (v1 : Int) (h : ah_T) (Q : Option av_T → ah_T → Prop) (X69 : ah_T → Prop) : Prop :=
 ((v1 = 0 → Q (some (av_I 0)) h) ∧ (¬ v1 = 0 → X69 h))
theorem b_MD_parse_161 {G : cx_T} {s : Nat} {v1 : Int} {h : ah_T} {Q : Option av_T → ah_T → Prop} {X69 : ah_T → Prop} (hX69 : ∀ (h : ah_T), hb s h → X69 h → aw G (rm_R 7 0 0) m_MD_parse 0 0 69 [some (av_R (some 170)), none] [] h Q) (hb0 : hb s h) (H : B_MD_parse_161 G s v1 h Q X69) : aw G (rm_R 7 0 0) m_MD_parse 0 0 161 [some (av_R (some 170)), some (av_I v1)] [] h Q := by
  unfold B_MD_parse_161 at H
  have hS : isS s := hb0.2.1
  refine A_iload_n 1 d_MD_parse_161 rfl rfl ?_
  refine A_if_ne (tgt := 167) d_MD_parse_162 (by decide) (fun c => ?_) (fun c => ?_)
  · replace H := H.2 c
    refine A_goto (tgt := 69) d_MD_parse_167 (by decide) ?_
    refine A_pc (pc' := 69) rfl ?_
    refine A_free (L' := [some (av_R (some 170)), none]) (And.intro rfl trivial) ?_
    exact hX69  h  hb0 H
  · replace H := H.1 c
    refine A_iconst d_MD_parse_165 rfl ?_
    exact A_zret d_MD_parse_166 (by decide) rfl (by decide) H
def B_MD_parse_69 (G : cx_T) (s : Nat) (h : ah_T) (Q : Option av_T → ah_T → Prop) (X69 : ah_T → Prop) : Prop :=
 ∀ x1 : Int, x1 = h.2.1 170 4 → -2147483648 ≤ x1 → x1 ≤ 2147483647 → ((x1 = 0 → Q (some (av_I 1)) h) ∧ (¬ x1 = 0 → con G 0 0 0 m_MD_isWord [av_R (some 170), av_I 0] h (fun r h2 => ∃ z4 : Int, r = some (av_I z4) ∧ hb s h2 ∧ ((z4 = 0 → con G 0 0 0 m_MD_isWord [av_R (some 170), av_I 1] h2 (fun r h5 => ∃ z7 : Int, r = some (av_I z7) ∧ hb s h5 ∧ ((z7 = 0 → con G 0 0 0 m_MD_isWord [av_R (some 170), av_I 2] h5 (fun r h8 => ∃ z10 : Int, r = some (av_I z10) ∧ hb s h8 ∧ ((z10 = 0 → con G 0 0 0 m_MD_isWord [av_R (some 170), av_I 3] h8 (fun r h11 => ∃ z13 : Int, r = some (av_I z13) ∧ hb s h11 ∧ ((z13 = 0 → con G 0 0 0 m_MD_isWord [av_R (some 170), av_I 4] h11 (fun r h14 => ∃ z16 : Int, r = some (av_I z16) ∧ hb s h14 ∧ ((z16 = 0 → con G 1 0 0 m_MD_cant [av_R (some 170)] h14 (fun r h17 => ∃ z19 : Int, r = some (av_I z19) ∧ hb s h17 ∧ B_MD_parse_161 G s (z19) h17 Q X69)) ∧ (¬ z16 = 0 → con G 3 0 0 m_MD_rowItem [av_R (some 170)] h14 (fun r h20 => ∃ z22 : Int, r = some (av_I z22) ∧ hb s h20 ∧ B_MD_parse_161 G s (z22) h20 Q X69))))) ∧ (¬ z13 = 0 → con G 4 0 0 m_MD_ruleItem [av_R (some 170)] h11 (fun r h23 => ∃ z25 : Int, r = some (av_I z25) ∧ hb s h23 ∧ B_MD_parse_161 G s (z25) h23 Q X69))))) ∧ (¬ z10 = 0 → con G 3 0 0 m_MD_lineItem [av_R (some 170)] h8 (fun r h26 => ∃ z28 : Int, r = some (av_I z28) ∧ hb s h26 ∧ B_MD_parse_161 G s (z28) h26 Q X69))))) ∧ (¬ z7 = 0 → con G 6 0 0 m_MD_voiceItem [av_R (some 170)] h5 (fun r h29 => ∃ z31 : Int, r = some (av_I z31) ∧ hb s h29 ∧ B_MD_parse_161 G s (z31) h29 Q X69))))) ∧ (¬ z4 = 0 → con G 4 0 0 m_MD_timeItem [av_R (some 170)] h2 (fun r h32 => ∃ z34 : Int, r = some (av_I z34) ∧ hb s h32 ∧ B_MD_parse_161 G s (z34) h32 Q X69))))))
theorem b_MD_parse_69 {G : cx_T} {s : Nat} {h : ah_T} {Q : Option av_T → ah_T → Prop} {X69 : ah_T → Prop} (hX69 : ∀ (h : ah_T), hb s h → X69 h → aw G (rm_R 7 0 0) m_MD_parse 0 0 69 [some (av_R (some 170)), none] [] h Q) (hb0 : hb s h) (H : B_MD_parse_69 G s h Q X69) : aw G (rm_R 7 0 0) m_MD_parse 0 0 69 [some (av_R (some 170)), none] [] h Q := by
  unfold B_MD_parse_69 at H
  have hS : isS s := hb0.2.1
  refine A_aload_n 0 d_MD_parse_69 rfl rfl ?_
  refine A_getIf T_ok d_MD_parse_70 f_MD_239 (hb_s hb0 sf_170) (fun x1 ex1 lx1 ux1 => ?_)
  replace H := H x1 ex1 lx1 ux1
  refine A_if_eq (tgt := 170) d_MD_parse_73 (by decide) (fun c => ?_) (fun c => ?_)
  · replace H := H.1 c
    refine A_iconst d_MD_parse_170 rfl ?_
    exact A_zret d_MD_parse_171 (by decide) rfl (by decide) H
  · replace H := H.2 c
    refine A_aload_n 0 d_MD_parse_76 rfl rfl ?_
    refine A_iconst d_MD_parse_77 rfl ?_
    refine A_callV1 m_MD_isWord T_ok d_MD_parse_78 l_MD_326 k_MD_isWord (hb_s hb0 sf_170) rfl (by decide +kernel) (by decide) (Nat.le_of_ble_eq_true rfl) H (fun r h2 hq => ?_)
    clear H
    obtain ⟨z4, rfl, hb3, H⟩ := hq
    refine A_if_eq (tgt := 92) d_MD_parse_81 (by decide) (fun c => ?_) (fun c => ?_)
    · replace H := H.1 c
      refine A_aload_n 0 d_MD_parse_92 rfl rfl ?_
      refine A_iconst d_MD_parse_93 rfl ?_
      refine A_callV1 m_MD_isWord T_ok d_MD_parse_94 l_MD_326 k_MD_isWord (hb_s hb3 sf_170) rfl (by decide +kernel) (by decide) (Nat.le_of_ble_eq_true rfl) H (fun r h5 hq => ?_)
      clear H
      obtain ⟨z7, rfl, hb6, H⟩ := hq
      refine A_if_eq (tgt := 108) d_MD_parse_97 (by decide) (fun c => ?_) (fun c => ?_)
      · replace H := H.1 c
        refine A_aload_n 0 d_MD_parse_108 rfl rfl ?_
        refine A_iconst d_MD_parse_109 rfl ?_
        refine A_callV1 m_MD_isWord T_ok d_MD_parse_110 l_MD_326 k_MD_isWord (hb_s hb6 sf_170) rfl (by decide +kernel) (by decide) (Nat.le_of_ble_eq_true rfl) H (fun r h8 hq => ?_)
        clear H
        obtain ⟨z10, rfl, hb9, H⟩ := hq
        refine A_if_eq (tgt := 124) d_MD_parse_113 (by decide) (fun c => ?_) (fun c => ?_)
        · replace H := H.1 c
          refine A_aload_n 0 d_MD_parse_124 rfl rfl ?_
          refine A_iconst d_MD_parse_125 rfl ?_
          refine A_callV1 m_MD_isWord T_ok d_MD_parse_126 l_MD_326 k_MD_isWord (hb_s hb9 sf_170) rfl (by decide +kernel) (by decide) (Nat.le_of_ble_eq_true rfl) H (fun r h11 hq => ?_)
          clear H
          obtain ⟨z13, rfl, hb12, H⟩ := hq
          refine A_if_eq (tgt := 140) d_MD_parse_129 (by decide) (fun c => ?_) (fun c => ?_)
          · replace H := H.1 c
            refine A_aload_n 0 d_MD_parse_140 rfl rfl ?_
            refine A_iconst d_MD_parse_141 rfl ?_
            refine A_callV1 m_MD_isWord T_ok d_MD_parse_142 l_MD_326 k_MD_isWord (hb_s hb12 sf_170) rfl (by decide +kernel) (by decide) (Nat.le_of_ble_eq_true rfl) H (fun r h14 hq => ?_)
            clear H
            obtain ⟨z16, rfl, hb15, H⟩ := hq
            refine A_if_eq (tgt := 156) d_MD_parse_145 (by decide) (fun c => ?_) (fun c => ?_)
            · replace H := H.1 c
              refine A_aload_n 0 d_MD_parse_156 rfl rfl ?_
              refine A_callV0 m_MD_cant T_ok d_MD_parse_157 l_MD_313 k_MD_cant (hb_s hb15 sf_170) rfl (by decide +kernel) (by decide) (Nat.le_of_ble_eq_true rfl) H (fun r h17 hq => ?_)
              clear H
              obtain ⟨z19, rfl, hb18, H⟩ := hq
              refine A_istore_n 1 (L' := [some (av_R (some 170)), some (av_I z19)]) d_MD_parse_160 rfl (Nat.le_of_ble_eq_true rfl) rfl ?_
              refine A_pc (pc' := 161) rfl ?_
              exact b_MD_parse_161  hX69  hb18 H
            · replace H := H.2 c
              refine A_aload_n 0 d_MD_parse_148 rfl rfl ?_
              refine A_callV0 m_MD_rowItem T_ok d_MD_parse_149 l_MD_341 k_MD_rowItem (hb_s hb15 sf_170) rfl (by decide +kernel) (by decide) (Nat.le_of_ble_eq_true rfl) H (fun r h20 hq => ?_)
              clear H
              obtain ⟨z22, rfl, hb21, H⟩ := hq
              refine A_istore_n 1 (L' := [some (av_R (some 170)), some (av_I z22)]) d_MD_parse_152 rfl (Nat.le_of_ble_eq_true rfl) rfl ?_
              refine A_goto (tgt := 161) d_MD_parse_153 (by decide) ?_
              refine A_pc (pc' := 161) rfl ?_
              exact b_MD_parse_161  hX69  hb21 H
          · replace H := H.2 c
            refine A_aload_n 0 d_MD_parse_132 rfl rfl ?_
            refine A_callV0 m_MD_ruleItem T_ok d_MD_parse_133 l_MD_338 k_MD_ruleItem (hb_s hb12 sf_170) rfl (by decide +kernel) (by decide) (Nat.le_of_ble_eq_true rfl) H (fun r h23 hq => ?_)
            clear H
            obtain ⟨z25, rfl, hb24, H⟩ := hq
            refine A_istore_n 1 (L' := [some (av_R (some 170)), some (av_I z25)]) d_MD_parse_136 rfl (Nat.le_of_ble_eq_true rfl) rfl ?_
            refine A_goto (tgt := 161) d_MD_parse_137 (by decide) ?_
            refine A_pc (pc' := 161) rfl ?_
            exact b_MD_parse_161  hX69  hb24 H
        · replace H := H.2 c
          refine A_aload_n 0 d_MD_parse_116 rfl rfl ?_
          refine A_callV0 m_MD_lineItem T_ok d_MD_parse_117 l_MD_335 k_MD_lineItem (hb_s hb9 sf_170) rfl (by decide +kernel) (by decide) (Nat.le_of_ble_eq_true rfl) H (fun r h26 hq => ?_)
          clear H
          obtain ⟨z28, rfl, hb27, H⟩ := hq
          refine A_istore_n 1 (L' := [some (av_R (some 170)), some (av_I z28)]) d_MD_parse_120 rfl (Nat.le_of_ble_eq_true rfl) rfl ?_
          refine A_goto (tgt := 161) d_MD_parse_121 (by decide) ?_
          refine A_pc (pc' := 161) rfl ?_
          exact b_MD_parse_161  hX69  hb27 H
      · replace H := H.2 c
        refine A_aload_n 0 d_MD_parse_100 rfl rfl ?_
        refine A_callV0 m_MD_voiceItem T_ok d_MD_parse_101 l_MD_332 k_MD_voiceItem (hb_s hb6 sf_170) rfl (by decide +kernel) (by decide) (Nat.le_of_ble_eq_true rfl) H (fun r h29 hq => ?_)
        clear H
        obtain ⟨z31, rfl, hb30, H⟩ := hq
        refine A_istore_n 1 (L' := [some (av_R (some 170)), some (av_I z31)]) d_MD_parse_104 rfl (Nat.le_of_ble_eq_true rfl) rfl ?_
        refine A_goto (tgt := 161) d_MD_parse_105 (by decide) ?_
        refine A_pc (pc' := 161) rfl ?_
        exact b_MD_parse_161  hX69  hb30 H
    · replace H := H.2 c
      refine A_aload_n 0 d_MD_parse_84 rfl rfl ?_
      refine A_callV0 m_MD_timeItem T_ok d_MD_parse_85 l_MD_329 k_MD_timeItem (hb_s hb3 sf_170) rfl (by decide +kernel) (by decide) (Nat.le_of_ble_eq_true rfl) H (fun r h32 hq => ?_)
      clear H
      obtain ⟨z34, rfl, hb33, H⟩ := hq
      refine A_istore_n 1 (L' := [some (av_R (some 170)), some (av_I z34)]) d_MD_parse_88 rfl (Nat.le_of_ble_eq_true rfl) rfl ?_
      refine A_goto (tgt := 161) d_MD_parse_89 (by decide) ?_
      refine A_pc (pc' := 161) rfl ?_
      exact b_MD_parse_161  hX69  hb33 H
theorem lp_MD_parse_69 {G : cx_T} {s : Nat} {Q : Option av_T → ah_T → Prop} (I : ah_T → Prop) (μ : ah_T → Nat) (hI : ∀ (h : ah_T), hb s h → I h → B_MD_parse_69 G s h Q (fun h' => I h' ∧ μ h' < μ h)) : ∀ (h : ah_T), hb s h → I h → aw G (rm_R 7 0 0) m_MD_parse 0 0 69 [some (av_R (some 170)), none] [] h Q := by
  have key : ∀ (n : Nat) (h : ah_T), hb s h → I  h → μ  h < n → aw G (rm_R 7 0 0) m_MD_parse 0 0 69 [some (av_R (some 170)), none] [] h Q := by
    intro n
    induction n with
    | zero => intro  h  hb0 hi hm; omega
    | succ n ih => intro  h  hb0 hi hm; exact b_MD_parse_69  (fun  h'  hb' hx => ih  h'  hb' hx.1 (by have := hx.2; omega))  hb0 (hI  h  hb0 hi)
  exact fun  h  hb0 hi => key _  h  hb0 hi (Nat.lt_succ_self _)
def B_MD_parse_0 (G : cx_T) (s : Nat) (h : ah_T) (Q : Option av_T → ah_T → Prop) (X69 : ah_T → Prop) : Prop :=
 ∀ h2 : ah_T, h2 = st_i h 172 1 0 → ∀ h5 : ah_T, h5 = st_i h2 173 1 4 → ∀ h8 : ah_T, h8 = st_i h5 174 1 4 → ∀ h11 : ah_T, h11 = st_i h8 175 1 0 → ∀ h14 : ah_T, h14 = st_i h11 177 1 0 → ∀ h17 : ah_T, h17 = st_i h14 181 1 0 → ∀ h20 : ah_T, h20 = st_i h17 183 1 0 → ∀ h22 : ah_T, h22 = st_i h20 170 59 0 → ∀ h24 : ah_T, h24 = st_i h22 170 60 0 → ∀ h26 : ah_T, h26 = st_i h24 170 61 0 → con G 2 0 0 m_MD_next [av_R (some 170)] h26 (fun r h28 => ∃ z30 : Int, r = some (av_I z30) ∧ hb s h28 ∧ X69 h28)
theorem b_MD_parse_0 {G : cx_T} {s : Nat} {h : ah_T} {Q : Option av_T → ah_T → Prop} {X69 : ah_T → Prop} (hX69 : ∀ (h : ah_T), hb s h → X69 h → aw G (rm_R 7 0 0) m_MD_parse 0 0 69 [some (av_R (some 170)), none] [] h Q) (hb0 : hb s h) (H : B_MD_parse_0 G s h Q X69) : aw G (rm_R 7 0 0) m_MD_parse 0 0 0 [some (av_R (some 170)), none] [] h Q := by
  unfold B_MD_parse_0 at H
  have hS : isS s := hb0.2.1
  refine A_aload_n 0 d_MD_parse_0 rfl rfl ?_
  refine A_getAv (z := some 172) T_ok d_MD_parse_1 f_MD_17 (hb_s hb0 sf_170) (hb_m hb0 rfm_14) ?_
  refine A_iconst d_MD_parse_4 rfl ?_
  refine A_iconst d_MD_parse_5 rfl ?_
  refine A_iastoreN d_MD_parse_6 (hb_s hb0 sf_172) (by decide) (by decide) ?_
  refine A_hn (fun h2 eh2 => ?_)
  have hb3 := hb_i hb0 eh2
  replace H := H h2 eh2
  refine A_pc (pc' := 7) rfl ?_
  refine A_aload_n 0 d_MD_parse_7 rfl rfl ?_
  refine A_getAv (z := some 173) T_ok d_MD_parse_8 f_MD_20 (hb_s hb3 sf_170) (hb_m hb3 rfm_15) ?_
  refine A_iconst d_MD_parse_11 rfl ?_
  refine A_iconst d_MD_parse_12 rfl ?_
  refine A_iastoreN d_MD_parse_13 (hb_s hb3 sf_173) (by decide) (by decide) ?_
  refine A_hn (fun h5 eh5 => ?_)
  have hb6 := hb_i hb3 eh5
  replace H := H h5 eh5
  refine A_aload_n 0 d_MD_parse_14 rfl rfl ?_
  refine A_pc (pc' := 15) rfl ?_
  refine A_getAv (z := some 174) T_ok d_MD_parse_15 f_MD_23 (hb_s hb6 sf_170) (hb_m hb6 rfm_16) ?_
  refine A_iconst d_MD_parse_18 rfl ?_
  refine A_iconst d_MD_parse_19 rfl ?_
  refine A_iastoreN d_MD_parse_20 (hb_s hb6 sf_174) (by decide) (by decide) ?_
  refine A_hn (fun h8 eh8 => ?_)
  have hb9 := hb_i hb6 eh8
  replace H := H h8 eh8
  refine A_aload_n 0 d_MD_parse_21 rfl rfl ?_
  refine A_getAv (z := some 175) T_ok d_MD_parse_22 f_MD_26 (hb_s hb9 sf_170) (hb_m hb9 rfm_17) ?_
  refine A_pc (pc' := 25) rfl ?_
  refine A_iconst d_MD_parse_25 rfl ?_
  refine A_iconst d_MD_parse_26 rfl ?_
  refine A_iastoreN d_MD_parse_27 (hb_s hb9 sf_175) (by decide) (by decide) ?_
  refine A_hn (fun h11 eh11 => ?_)
  have hb12 := hb_i hb9 eh11
  replace H := H h11 eh11
  refine A_aload_n 0 d_MD_parse_28 rfl rfl ?_
  refine A_getAv (z := some 177) T_ok d_MD_parse_29 f_MD_32 (hb_s hb12 sf_170) (hb_m hb12 rfm_19) ?_
  refine A_iconst d_MD_parse_32 rfl ?_
  refine A_pc (pc' := 33) rfl ?_
  refine A_iconst d_MD_parse_33 rfl ?_
  refine A_iastoreN d_MD_parse_34 (hb_s hb12 sf_177) (by decide) (by decide) ?_
  refine A_hn (fun h14 eh14 => ?_)
  have hb15 := hb_i hb12 eh14
  replace H := H h14 eh14
  refine A_aload_n 0 d_MD_parse_35 rfl rfl ?_
  refine A_getAv (z := some 181) T_ok d_MD_parse_36 f_MD_44 (hb_s hb15 sf_170) (hb_m hb15 rfm_23) ?_
  refine A_iconst d_MD_parse_39 rfl ?_
  refine A_iconst d_MD_parse_40 rfl ?_
  refine A_pc (pc' := 41) rfl ?_
  refine A_iastoreN d_MD_parse_41 (hb_s hb15 sf_181) (by decide) (by decide) ?_
  refine A_hn (fun h17 eh17 => ?_)
  have hb18 := hb_i hb15 eh17
  replace H := H h17 eh17
  refine A_aload_n 0 d_MD_parse_42 rfl rfl ?_
  refine A_getAv (z := some 183) T_ok d_MD_parse_43 f_MD_50 (hb_s hb18 sf_170) (hb_m hb18 rfm_25) ?_
  refine A_iconst d_MD_parse_46 rfl ?_
  refine A_iconst d_MD_parse_47 rfl ?_
  refine A_iastoreN d_MD_parse_48 (hb_s hb18 sf_183) (by decide) (by decide) ?_
  refine A_hn (fun h20 eh20 => ?_)
  have hb21 := hb_i hb18 eh20
  replace H := H h20 eh20
  refine A_pc (pc' := 49) rfl ?_
  refine A_aload_n 0 d_MD_parse_49 rfl rfl ?_
  refine A_iconst d_MD_parse_50 rfl ?_
  refine A_putZ T_ok d_MD_parse_51 f_MD_316 (hb_s hb21 sf_170) fin_f (by decide) ?_
  refine A_hn (fun h22 eh22 => ?_)
  have hb23 := hb_i hb21 eh22
  replace H := H h22 eh22
  refine A_aload_n 0 d_MD_parse_54 rfl rfl ?_
  refine A_iconst d_MD_parse_55 rfl ?_
  refine A_putZ T_ok d_MD_parse_56 f_MD_320 (hb_s hb23 sf_170) fin_f (by decide) ?_
  refine A_hn (fun h24 eh24 => ?_)
  have hb25 := hb_i hb23 eh24
  replace H := H h24 eh24
  refine A_pc (pc' := 59) rfl ?_
  refine A_aload_n 0 d_MD_parse_59 rfl rfl ?_
  refine A_iconst d_MD_parse_60 rfl ?_
  refine A_putZ T_ok d_MD_parse_61 f_MD_323 (hb_s hb25 sf_170) fin_f (by decide) ?_
  refine A_hn (fun h26 eh26 => ?_)
  have hb27 := hb_i hb25 eh26
  replace H := H h26 eh26
  refine A_aload_n 0 d_MD_parse_64 rfl rfl ?_
  refine A_callV0 m_MD_next T_ok d_MD_parse_65 l_MD_309 k_MD_next (hb_s hb27 sf_170) rfl (by decide +kernel) (by decide) (Nat.le_of_ble_eq_true rfl) H (fun r h28 hq => ?_)
  clear H
  obtain ⟨z30, rfl, hb29, H⟩ := hq
  refine A_popI d_MD_parse_68 ?_
  refine A_pc (pc' := 69) rfl ?_
  exact hX69  h28  hb29 H
theorem c_MD_parse {G : cx_T} {s : Nat} {h : ah_T} {Q : Option av_T → ah_T → Prop} {X69 : ah_T → Prop} (hX69 : ∀ (h : ah_T), hb s h → X69 h → aw G (rm_R 7 0 0) m_MD_parse 0 0 69 [some (av_R (some 170)), none] [] h Q) (hb0 : hb s h) (H : B_MD_parse_0 G s h Q X69) : con G 7 0 0 m_MD_parse [av_R (some 170)] h Q := by
  have hS : isS s := hb0.2.1
  refine con_of (L := [some (av_R (some 170)), none]) (by decide +kernel) (Nat.le_of_ble_eq_true rfl) rfl ?_
  exact b_MD_parse_0  hX69 hb0 (H )
