/-! ===== verification conditions, 504 ===== -/
theorem d_Reader_read_144 : decode prog_7_method_2_code 144 = .ok (.iconst 1, 1) := by decide +kernel
theorem d_Reader_read_145 : decode prog_7_method_2_code 145 = .ok (.goto 4, 3) := by decide +kernel
def B_Reader_blame_0 (G : cx_T) (s : Nat) (a1 : Int) (a2 : Int) (h : ah_T) (Q : Option av_T → ah_T → Prop) : Prop :=
 ∀ h1 : ah_T, h1 = st_i h 2 6 a1 → ∀ h3 : ah_T, h3 = st_i h1 2 7 a2 → Q (some (av_I 0)) h3
theorem b_Reader_blame_0 {G : cx_T} {s : Nat} {a1 : Int} {a2 : Int} {h : ah_T} {Q : Option av_T → ah_T → Prop} (hb0 : hb s h) (H : B_Reader_blame_0 G s a1 a2 h Q ) : aw G (rm_R 0 0 0) m_Reader_blame 0 0 0 [some (av_R (some 2)), some (av_I a1), some (av_I a2)] [] h Q := by
  unfold B_Reader_blame_0 at H
  have hS : isS s := hb0.2.1
  refine A_aload_n 0 d_Reader_blame_0 rfl rfl ?_
  refine A_iload_n 1 d_Reader_blame_1 rfl rfl ?_
  refine A_putI T_ok d_Reader_blame_2 f_Reader_43 (hb_s hb0 sf_2) fin_f ?_
  refine A_hn (fun h1 eh1 => ?_)
  have hb2 := hb_i hb0 eh1
  replace H := H h1 eh1
  refine A_aload_n 0 d_Reader_blame_5 rfl rfl ?_
  refine A_iload_n 2 d_Reader_blame_6 rfl rfl ?_
  refine A_pc (pc' := 7) rfl ?_
  refine A_putI T_ok d_Reader_blame_7 f_Reader_72 (hb_s hb2 sf_2) fin_f ?_
  refine A_hn (fun h3 eh3 => ?_)
  have hb4 := hb_i hb2 eh3
  replace H := H h3 eh3
  refine A_iconst d_Reader_blame_10 rfl ?_
  exact A_zret d_Reader_blame_11 (by decide) rfl (by decide) H
theorem c_Reader_blame {G : cx_T} {s : Nat} {a1 : Int} {a2 : Int} {h : ah_T} {Q : Option av_T → ah_T → Prop} (hb0 : hb s h) (H : i32 a1 → i32 a2 → B_Reader_blame_0 G s a1 a2 h Q ) : con G 0 0 0 m_Reader_blame [av_R (some 2), av_I a1, av_I a2] h Q := by
  have hS : isS s := hb0.2.1
  refine con_of (L := [some (av_R (some 2)), some (av_I a1), some (av_I a2)]) (by decide +kernel) (Nat.le_of_ble_eq_true rfl) rfl ?_
  refine A_locI 1 rfl (fun ra1 => ?_)
  refine A_locI 2 rfl (fun ra2 => ?_)
  exact b_Reader_blame_0   hb0 (H ra1 ra2)
def B_Reader_refuse_19 (G : cx_T) (s : Nat) (t1 : Int) (h : ah_T) (Q : Option av_T → ah_T → Prop) : Prop :=
 ∀ h1 : ah_T, h1 = st_i h 2 6 t1 → ∀ x4 : Int, x4 = h1.2.1 3 10 → -2147483648 ≤ x4 → x4 ≤ 2147483647 → ∀ h5 : ah_T, h5 = st_i h1 2 7 x4 → Q (some (av_I 0)) h5
theorem b_Reader_refuse_19 {G : cx_T} {s : Nat} {t1 : Int} {h : ah_T} {Q : Option av_T → ah_T → Prop} (hb0 : hb s h) (H : B_Reader_refuse_19 G s t1 h Q ) : aw G (rm_R 0 0 0) m_Reader_refuse 0 0 19 [some (av_R (some 2))] [av_I t1, av_R (some 2)] h Q := by
  unfold B_Reader_refuse_19 at H
  have hS : isS s := hb0.2.1
  refine A_putI T_ok d_Reader_refuse_19 f_Reader_43 (hb_s hb0 sf_2) fin_f ?_
  refine A_hn (fun h1 eh1 => ?_)
  have hb2 := hb_i hb0 eh1
  replace H := H h1 eh1
  refine A_aload_n 0 d_Reader_refuse_22 rfl rfl ?_
  refine A_aload_n 0 d_Reader_refuse_23 rfl rfl ?_
  refine A_getOv (z := some 3) T_ok d_Reader_refuse_24 f_Reader_12 (hb_s hb2 sf_2) (hb_r hb2 rff_2_0) ?_
  refine A_getIf T_ok d_Reader_refuse_27 f_Reader_75 (hb_s hb2 sf_3) (fun x4 ex4 lx4 ux4 => ?_)
  replace H := H x4 ex4 lx4 ux4
  refine A_pc (pc' := 30) rfl ?_
  refine A_putI T_ok d_Reader_refuse_30 f_Reader_72 (hb_s hb2 sf_2) fin_f ?_
  refine A_hn (fun h5 eh5 => ?_)
  have hb6 := hb_i hb2 eh5
  replace H := H h5 eh5
  refine A_iconst d_Reader_refuse_33 rfl ?_
  exact A_zret d_Reader_refuse_34 (by decide) rfl (by decide) H
def B_Reader_refuse_0 (G : cx_T) (s : Nat) (h : ah_T) (Q : Option av_T → ah_T → Prop) : Prop :=
 ∀ x2 : Int, x2 = h.2.1 3 9 → -2147483648 ≤ x2 → x2 ≤ 2147483647 → ((x2 = 257 → B_Reader_refuse_19 G s (1) h Q ) ∧ (¬ x2 = 257 → B_Reader_refuse_19 G s (2) h Q ))
theorem b_Reader_refuse_0 {G : cx_T} {s : Nat} {h : ah_T} {Q : Option av_T → ah_T → Prop} (hb0 : hb s h) (H : B_Reader_refuse_0 G s h Q ) : aw G (rm_R 0 0 0) m_Reader_refuse 0 0 0 [some (av_R (some 2))] [] h Q := by
  unfold B_Reader_refuse_0 at H
  have hS : isS s := hb0.2.1
  refine A_aload_n 0 d_Reader_refuse_0 rfl rfl ?_
  refine A_aload_n 0 d_Reader_refuse_1 rfl rfl ?_
  refine A_getOv (z := some 3) T_ok d_Reader_refuse_2 f_Reader_12 (hb_s hb0 sf_2) (hb_r hb0 rff_2_0) ?_
  refine A_getIf T_ok d_Reader_refuse_5 f_Reader_50 (hb_s hb0 sf_3) (fun x2 ex2 lx2 ux2 => ?_)
  replace H := H x2 ex2 lx2 ux2
  refine A_sipush d_Reader_refuse_8 rfl ?_
  refine A_pc (pc' := 11) rfl ?_
  refine A_icmp_ne (tgt := 18) d_Reader_refuse_11 (by decide) (fun c => ?_) (fun c => ?_)
  · replace H := H.2 c
    refine A_iconst d_Reader_refuse_18 rfl ?_
    refine A_pc (pc' := 19) rfl ?_
    exact b_Reader_refuse_19    hb0 H
  · replace H := H.1 c
    refine A_iconst d_Reader_refuse_14 rfl ?_
    refine A_goto (tgt := 19) d_Reader_refuse_15 (by decide) ?_
    refine A_pc (pc' := 19) rfl ?_
    exact b_Reader_refuse_19    hb0 H
theorem c_Reader_refuse {G : cx_T} {s : Nat} {h : ah_T} {Q : Option av_T → ah_T → Prop} (hb0 : hb s h) (H : B_Reader_refuse_0 G s h Q ) : con G 0 0 0 m_Reader_refuse [av_R (some 2)] h Q := by
  have hS : isS s := hb0.2.1
  refine con_of (L := [some (av_R (some 2))]) (by decide +kernel) (Nat.le_of_ble_eq_true rfl) rfl ?_
  exact b_Reader_refuse_0   hb0 (H )
def B_Reader_take_0 (G : cx_T) (s : Nat) (a1 : Int) (h : ah_T) (Q : Option av_T → ah_T → Prop) : Prop :=
 ∀ x2 : Int, x2 = h.2.1 3 9 → -2147483648 ≤ x2 → x2 ≤ 2147483647 → ((x2 = a1 → con G 0 0 0 m_Tokens_next [av_R (some 3)] h (fun r h4 => r = none ∧ hb s h4 ∧ Q (some (av_I 1)) h4)) ∧ (¬ x2 = a1 → con G 0 0 0 m_Reader_refuse [av_R (some 2)] h (fun r h7 => ∃ z9 : Int, r = some (av_I z9) ∧ hb s h7 ∧ (z9 = 0 ∨ z9 = 1) ∧ Q (some (av_I z9)) h7)))
theorem b_Reader_take_0 {G : cx_T} {s : Nat} {a1 : Int} {h : ah_T} {Q : Option av_T → ah_T → Prop} (hb0 : hb s h) (H : B_Reader_take_0 G s a1 h Q ) : aw G (rm_R 1 0 0) m_Reader_take 0 0 0 [some (av_R (some 2)), some (av_I a1)] [] h Q := by
  unfold B_Reader_take_0 at H
  have hS : isS s := hb0.2.1
  refine A_aload_n 0 d_Reader_take_0 rfl rfl ?_
  refine A_getOv (z := some 3) T_ok d_Reader_take_1 f_Reader_12 (hb_s hb0 sf_2) (hb_r hb0 rff_2_0) ?_
  refine A_getIf T_ok d_Reader_take_4 f_Reader_50 (hb_s hb0 sf_3) (fun x2 ex2 lx2 ux2 => ?_)
  replace H := H x2 ex2 lx2 ux2
  refine A_iload_n 1 d_Reader_take_7 rfl rfl ?_
  refine A_icmp_eq (tgt := 16) d_Reader_take_8 (by decide) (fun c => ?_) (fun c => ?_)
  · replace H := H.1 c
    refine A_aload_n 0 d_Reader_take_16 rfl rfl ?_
    refine A_getOv (z := some 3) T_ok d_Reader_take_17 f_Reader_12 (hb_s hb0 sf_2) (hb_r hb0 rff_2_0) ?_
    refine A_callV0 m_Tokens_next T_ok d_Reader_take_20 l_Reader_78 k_Tokens_next (hb_s hb0 sf_3) rfl (by decide +kernel) (by decide) (Nat.le_of_ble_eq_true rfl) H (fun r h4 hq => ?_)
    clear H
    obtain ⟨rfl, hb5, H⟩ := hq
    refine A_iconst d_Reader_take_23 rfl ?_
    exact A_zret d_Reader_take_24 (by decide) rfl (by decide) H
  · replace H := H.2 c
    refine A_aload_n 0 d_Reader_take_11 rfl rfl ?_
    refine A_callV0 m_Reader_refuse T_ok d_Reader_take_12 l_Reader_69 k_Reader_refuse (hb_s hb0 sf_2) rfl (by decide +kernel) (by decide) (Nat.le_of_ble_eq_true rfl) H (fun r h7 hq => ?_)
    clear H
    obtain ⟨z9, rfl, hb8, H⟩ := hq
    exact A_zret d_Reader_take_15 (by decide) rfl H.1 H.2
theorem c_Reader_take {G : cx_T} {s : Nat} {a1 : Int} {h : ah_T} {Q : Option av_T → ah_T → Prop} (hb0 : hb s h) (H : i32 a1 → B_Reader_take_0 G s a1 h Q ) : con G 1 0 0 m_Reader_take [av_R (some 2), av_I a1] h Q := by
  have hS : isS s := hb0.2.1
  refine con_of (L := [some (av_R (some 2)), some (av_I a1)]) (by decide +kernel) (Nat.le_of_ble_eq_true rfl) rfl ?_
  refine A_locI 1 rfl (fun ra1 => ?_)
  exact b_Reader_take_0   hb0 (H ra1)
def B_Reader_readNumber_66 (G : cx_T) (s : Nat) (a1 : Int) (a2 : Int) (v3 : Int) (h : ah_T) (Q : Option av_T → ah_T → Prop) : Prop :=
 con G 0 0 0 m_Tokens_next [av_R (some 3)] h (fun r h2 => r = none ∧ hb s h2 ∧ Q (some (av_I v3)) h2)
theorem b_Reader_readNumber_66 {G : cx_T} {s : Nat} {a1 : Int} {a2 : Int} {v3 : Int} {h : ah_T} {Q : Option av_T → ah_T → Prop} (hb0 : hb s h) (H : B_Reader_readNumber_66 G s a1 a2 v3 h Q ) : aw G (rm_R 1 0 0) m_Reader_readNumber 0 0 66 [some (av_R (some 2)), none, none, some (av_I v3)] [] h Q := by
  unfold B_Reader_readNumber_66 at H
  have hS : isS s := hb0.2.1
  refine A_aload_n 0 d_Reader_readNumber_66 rfl rfl ?_
  refine A_getOv (z := some 3) T_ok d_Reader_readNumber_67 f_Reader_12 (hb_s hb0 sf_2) (hb_r hb0 rff_2_0) ?_
  refine A_callV0 m_Tokens_next T_ok d_Reader_readNumber_70 l_Reader_78 k_Tokens_next (hb_s hb0 sf_3) rfl (by decide +kernel) (by decide) (Nat.le_of_ble_eq_true rfl) H (fun r h2 hq => ?_)
  clear H
  obtain ⟨rfl, hb3, H⟩ := hq
  refine A_iload_n 3 d_Reader_readNumber_73 rfl rfl ?_
  exact A_iret d_Reader_readNumber_74 (by decide) rfl H
def B_Reader_readNumber_51 (G : cx_T) (s : Nat) (a1 : Int) (a2 : Int) (h : ah_T) (Q : Option av_T → ah_T → Prop) : Prop :=
 ∀ x2 : Int, x2 = h.2.1 3 10 → -2147483648 ≤ x2 → x2 ≤ 2147483647 → con G 0 0 0 m_Reader_blame [av_R (some 2), av_I 5, av_I x2] h (fun r h3 => ∃ z5 : Int, r = some (av_I z5) ∧ hb s h3 ∧ Q (some (av_I 0)) h3)
theorem b_Reader_readNumber_51 {G : cx_T} {s : Nat} {a1 : Int} {a2 : Int} {h : ah_T} {Q : Option av_T → ah_T → Prop} (hb0 : hb s h) (H : B_Reader_readNumber_51 G s a1 a2 h Q ) : aw G (rm_R 1 0 0) m_Reader_readNumber 0 0 51 [some (av_R (some 2)), none, none, none] [] h Q := by
  unfold B_Reader_readNumber_51 at H
  have hS : isS s := hb0.2.1
  refine A_aload_n 0 d_Reader_readNumber_51 rfl rfl ?_
  refine A_iconst d_Reader_readNumber_52 rfl ?_
  refine A_aload_n 0 d_Reader_readNumber_53 rfl rfl ?_
  refine A_getOv (z := some 3) T_ok d_Reader_readNumber_54 f_Reader_12 (hb_s hb0 sf_2) (hb_r hb0 rff_2_0) ?_
  refine A_getIf T_ok d_Reader_readNumber_57 f_Reader_75 (hb_s hb0 sf_3) (fun x2 ex2 lx2 ux2 => ?_)
  replace H := H x2 ex2 lx2 ux2
  refine A_pc (pc' := 60) rfl ?_
  refine A_callV2 m_Reader_blame T_ok d_Reader_readNumber_60 l_Reader_91 k_Reader_blame (hb_s hb0 sf_2) rfl (by decide +kernel) (by decide) (Nat.le_of_ble_eq_true rfl) H (fun r h3 hq => ?_)
  clear H
  obtain ⟨z5, rfl, hb4, H⟩ := hq
  refine A_popI d_Reader_readNumber_63 ?_
  refine A_iconst d_Reader_readNumber_64 rfl ?_
  exact A_iret d_Reader_readNumber_65 (by decide) rfl H
def B_Reader_readNumber_0 (G : cx_T) (s : Nat) (a1 : Int) (a2 : Int) (h : ah_T) (Q : Option av_T → ah_T → Prop) : Prop :=
 ∀ x2 : Int, x2 = h.2.1 3 9 → -2147483648 ≤ x2 → x2 ≤ 2147483647 → ((x2 = 259 → ∀ x4 : Int, x4 = h.2.2.1 3 11 → -9223372036854775808 ≤ x4 → x4 ≤ 9223372036854775807 → ((-2147483648) ≤ x4 ∧ x4 ≤ 2147483647) ∧ ((x4 < 1 → B_Reader_readNumber_51 G s a1 a2 h Q ) ∧ (¬ x4 < 1 → ((a1 < x4 → B_Reader_readNumber_51 G s a1 a2 h Q ) ∧ (¬ a1 < x4 → ((a2 = 0 → B_Reader_readNumber_66 G s a1 a2 (x4) h Q ) ∧ (¬ a2 = 0 → con G 0 0 0 m_JInteger_bitCount [av_I x4] h (fun r h6 => ∃ z8 : Int, r = some (av_I z8) ∧ hb s h6 ∧ ((z8 = 1 → B_Reader_readNumber_66 G s a1 a2 (x4) h6 Q ) ∧ (¬ z8 = 1 → B_Reader_readNumber_51 G s a1 a2 h6 Q )))))))))) ∧ (¬ x2 = 259 → con G 0 0 0 m_Reader_refuse [av_R (some 2)] h (fun r h9 => ∃ z11 : Int, r = some (av_I z11) ∧ hb s h9 ∧ Q (some (av_I 0)) h9)))
theorem b_Reader_readNumber_0 {G : cx_T} {s : Nat} {a1 : Int} {a2 : Int} {h : ah_T} {Q : Option av_T → ah_T → Prop} (hb0 : hb s h) (H : B_Reader_readNumber_0 G s a1 a2 h Q ) : aw G (rm_R 1 0 0) m_Reader_readNumber 0 0 0 [some (av_R (some 2)), some (av_I a1), some (av_I a2), none] [] h Q := by
  unfold B_Reader_readNumber_0 at H
  have hS : isS s := hb0.2.1
  refine A_aload_n 0 d_Reader_readNumber_0 rfl rfl ?_
  refine A_getOv (z := some 3) T_ok d_Reader_readNumber_1 f_Reader_12 (hb_s hb0 sf_2) (hb_r hb0 rff_2_0) ?_
  refine A_getIf T_ok d_Reader_readNumber_4 f_Reader_50 (hb_s hb0 sf_3) (fun x2 ex2 lx2 ux2 => ?_)
  replace H := H x2 ex2 lx2 ux2
  refine A_sipush d_Reader_readNumber_7 rfl ?_
  refine A_icmp_eq (tgt := 20) d_Reader_readNumber_10 (by decide) (fun c => ?_) (fun c => ?_)
  · replace H := H.1 c
    refine A_aload_n 0 d_Reader_readNumber_20 rfl rfl ?_
    refine A_getOv (z := some 3) T_ok d_Reader_readNumber_21 f_Reader_12 (hb_s hb0 sf_2) (hb_r hb0 rff_2_0) ?_
    refine A_getLf T_ok d_Reader_readNumber_24 f_Reader_81 (hb_s hb0 sf_3) (fun x4 ex4 lx4 ux4 => ?_)
    replace H := H x4 ex4 lx4 ux4
    have g5 := H.1
    replace H := H.2
    refine A_l2iv (z := x4) d_Reader_readNumber_27 (w32_id (by unfold i32; omega)) ?_
    refine A_istore_n 3 (L' := [some (av_R (some 2)), some (av_I a1), some (av_I a2), some (av_I x4)]) d_Reader_readNumber_28 rfl (Nat.le_of_ble_eq_true rfl) rfl ?_
    refine A_pc (pc' := 29) rfl ?_
    refine A_iload_n 3 d_Reader_readNumber_29 rfl rfl ?_
    refine A_iconst d_Reader_readNumber_30 rfl ?_
    refine A_icmp_lt (tgt := 51) d_Reader_readNumber_31 (by decide) (fun c => ?_) (fun c => ?_)
    · replace H := H.1 c
      refine A_pc (pc' := 51) rfl ?_
      refine A_free (L' := [some (av_R (some 2)), none, none, none]) (And.intro rfl trivial) ?_
      exact b_Reader_readNumber_51    hb0 H
    · replace H := H.2 c
      refine A_iload_n 3 d_Reader_readNumber_34 rfl rfl ?_
      refine A_iload_n 1 d_Reader_readNumber_35 rfl rfl ?_
      refine A_icmp_gt (tgt := 51) d_Reader_readNumber_36 (by decide) (fun c => ?_) (fun c => ?_)
      · replace H := H.1 c
        refine A_pc (pc' := 51) rfl ?_
        refine A_free (L' := [some (av_R (some 2)), none, none, none]) (And.intro rfl trivial) ?_
        exact b_Reader_readNumber_51    hb0 H
      · replace H := H.2 c
        refine A_iload_n 2 d_Reader_readNumber_39 rfl rfl ?_
        refine A_if_eq (tgt := 66) d_Reader_readNumber_40 (by decide) (fun c => ?_) (fun c => ?_)
        · replace H := H.1 c
          refine A_pc (pc' := 66) rfl ?_
          refine A_free (L' := [some (av_R (some 2)), none, none, some (av_I x4)]) (And.intro rfl (And.intro rfl trivial)) ?_
          exact b_Reader_readNumber_66    hb0 H
        · replace H := H.2 c
          refine A_iload_n 3 d_Reader_readNumber_43 rfl rfl ?_
          refine A_callS1 m_JInteger_bitCount d_Reader_readNumber_44 l_Reader_85 k_JInteger_bitCount (by decide +kernel) (by decide) (Nat.le_of_ble_eq_true rfl) H (fun r h6 hq => ?_)
          clear H
          obtain ⟨z8, rfl, hb7, H⟩ := hq
          refine A_iconst d_Reader_readNumber_47 rfl ?_
          refine A_icmp_eq (tgt := 66) d_Reader_readNumber_48 (by decide) (fun c => ?_) (fun c => ?_)
          · replace H := H.1 c
            refine A_pc (pc' := 66) rfl ?_
            refine A_free (L' := [some (av_R (some 2)), none, none, some (av_I x4)]) (And.intro rfl (And.intro rfl trivial)) ?_
            exact b_Reader_readNumber_66    hb7 H
          · replace H := H.2 c
            refine A_pc (pc' := 51) rfl ?_
            refine A_free (L' := [some (av_R (some 2)), none, none, none]) (And.intro rfl trivial) ?_
            exact b_Reader_readNumber_51    hb7 H
  · replace H := H.2 c
    refine A_aload_n 0 d_Reader_readNumber_13 rfl rfl ?_
    refine A_callV0 m_Reader_refuse T_ok d_Reader_readNumber_14 l_Reader_69 k_Reader_refuse (hb_s hb0 sf_2) rfl (by decide +kernel) (by decide) (Nat.le_of_ble_eq_true rfl) H (fun r h9 hq => ?_)
    clear H
    obtain ⟨z11, rfl, hb10, H⟩ := hq
    refine A_popI d_Reader_readNumber_17 ?_
    refine A_iconst d_Reader_readNumber_18 rfl ?_
    exact A_iret d_Reader_readNumber_19 (by decide) rfl H
theorem c_Reader_readNumber {G : cx_T} {s : Nat} {a1 : Int} {a2 : Int} {h : ah_T} {Q : Option av_T → ah_T → Prop} (hb0 : hb s h) (H : i32 a1 → i32 a2 → B_Reader_readNumber_0 G s a1 a2 h Q ) : con G 1 0 0 m_Reader_readNumber [av_R (some 2), av_I a1, av_I a2] h Q := by
  have hS : isS s := hb0.2.1
  refine con_of (L := [some (av_R (some 2)), some (av_I a1), some (av_I a2), none]) (by decide +kernel) (Nat.le_of_ble_eq_true rfl) rfl ?_
  refine A_locI 1 rfl (fun ra1 => ?_)
  refine A_locI 2 rfl (fun ra2 => ?_)
  exact b_Reader_readNumber_0   hb0 (H ra1 ra2)
def B_Reader_readTime_51 (G : cx_T) (s : Nat) (h : ah_T) (Q : Option av_T → ah_T → Prop) : Prop :=
 Q (some (av_I 0)) h
theorem b_Reader_readTime_51 {G : cx_T} {s : Nat} {h : ah_T} {Q : Option av_T → ah_T → Prop} (hb0 : hb s h) (H : B_Reader_readTime_51 G s h Q ) : aw G (rm_R 2 0 0) m_Reader_readTime 0 0 51 [none, none, none] [] h Q := by
  unfold B_Reader_readTime_51 at H
  have hS : isS s := hb0.2.1
  refine A_iconst d_Reader_readTime_51 rfl ?_
  exact A_zret d_Reader_readTime_52 (by decide) rfl (by decide) H
def B_Reader_readTime_0 (G : cx_T) (s : Nat) (h : ah_T) (Q : Option av_T → ah_T → Prop) : Prop :=
 ∀ x2 : Int, x2 = h.2.1 s 4 → (x2 = 0 ∨ x2 = 1) → ((x2 = 0 → con G 0 0 0 m_Tokens_next [av_R (some 3)] h (fun r h4 => r = none ∧ hb s h4 ∧ con G 1 0 0 m_Reader_readNumber [av_R (some 2), av_I 32, av_I 0] h4 (fun r h7 => ∃ z9 : Int, r = some (av_I z9) ∧ hb s h7 ∧ ((z9 = 0 → B_Reader_readTime_51 G s h7 Q ) ∧ (¬ z9 = 0 → con G 1 0 0 m_Reader_take [av_R (some 2), av_I 47] h7 (fun r h10 => ∃ z12 : Int, r = some (av_I z12) ∧ hb s h10 ∧ ((z12 = 0 → B_Reader_readTime_51 G s h10 Q ) ∧ (¬ z12 = 0 → con G 1 0 0 m_Reader_readNumber [av_R (some 2), av_I 32, av_I 1] h10 (fun r h13 => ∃ z15 : Int, r = some (av_I z15) ∧ hb s h13 ∧ ((z15 = 0 → Q (some (av_I 0)) h13) ∧ (¬ z15 = 0 → con G 0 0 0 m_Score_setTime [av_R (some s), av_I z9, av_I z15] h13 (fun r h17 => r = none ∧ hb s h17 ∧ con G 1 0 0 m_Reader_take [av_R (some 2), av_I 59] h17 (fun r h20 => ∃ z22 : Int, r = some (av_I z22) ∧ hb s h20 ∧ (z22 = 0 ∨ z22 = 1) ∧ Q (some (av_I z22)) h20))))))))))))) ∧ (¬ x2 = 0 → ∀ x24 : Int, x24 = h.2.1 3 10 → -2147483648 ≤ x24 → x24 ≤ 2147483647 → con G 0 0 0 m_Reader_blame [av_R (some 2), av_I 4, av_I x24] h (fun r h25 => ∃ z27 : Int, r = some (av_I z27) ∧ hb s h25 ∧ (z27 = 0 ∨ z27 = 1) ∧ Q (some (av_I z27)) h25)))
theorem b_Reader_readTime_0 {G : cx_T} {s : Nat} {h : ah_T} {Q : Option av_T → ah_T → Prop} (hb0 : hb s h) (H : B_Reader_readTime_0 G s h Q ) : aw G (rm_R 2 0 0) m_Reader_readTime 0 0 0 [some (av_R (some 2)), none, none] [] h Q := by
  unfold B_Reader_readTime_0 at H
  have hS : isS s := hb0.2.1
  refine A_aload_n 0 d_Reader_readTime_0 rfl rfl ?_
  refine A_getOv (z := some s) T_ok d_Reader_readTime_1 f_Reader_32 (hb_s hb0 sf_2) hb0.2.2.2.1 ?_
  refine A_getZn T_ok d_Reader_readTime_4 f_Reader_95 (hs_S hb0 hS) (fun x2 ex2 bx2 => ?_)
  replace H := H x2 ex2 bx2
  refine A_if_eq (tgt := 23) d_Reader_readTime_7 (by decide) (fun c => ?_) (fun c => ?_)
  · replace H := H.1 c
    refine A_aload_n 0 d_Reader_readTime_23 rfl rfl ?_
    refine A_getOv (z := some 3) T_ok d_Reader_readTime_24 f_Reader_12 (hb_s hb0 sf_2) (hb_r hb0 rff_2_0) ?_
    refine A_callV0 m_Tokens_next T_ok d_Reader_readTime_27 l_Reader_78 k_Tokens_next (hb_s hb0 sf_3) rfl (by decide +kernel) (by decide) (Nat.le_of_ble_eq_true rfl) H (fun r h4 hq => ?_)
    clear H
    obtain ⟨rfl, hb5, H⟩ := hq
    refine A_aload_n 0 d_Reader_readTime_30 rfl rfl ?_
    refine A_bipush d_Reader_readTime_31 rfl ?_
    refine A_iconst d_Reader_readTime_33 rfl ?_
    refine A_callV2 m_Reader_readNumber T_ok d_Reader_readTime_34 l_Reader_99 k_Reader_readNumber (hb_s hb5 sf_2) rfl (by decide +kernel) (by decide) (Nat.le_of_ble_eq_true rfl) H (fun r h7 hq => ?_)
    clear H
    obtain ⟨z9, rfl, hb8, H⟩ := hq
    refine A_istore_n 1 (L' := [some (av_R (some 2)), some (av_I z9), none]) d_Reader_readTime_37 rfl (Nat.le_of_ble_eq_true rfl) rfl ?_
    refine A_iload_n 1 d_Reader_readTime_38 rfl rfl ?_
    refine A_if_eq (tgt := 51) d_Reader_readTime_39 (by decide) (fun c => ?_) (fun c => ?_)
    · replace H := H.1 c
      refine A_pc (pc' := 51) rfl ?_
      refine A_free (L' := [none, none, none]) trivial ?_
      exact b_Reader_readTime_51    hb8 H
    · replace H := H.2 c
      refine A_aload_n 0 d_Reader_readTime_42 rfl rfl ?_
      refine A_bipush d_Reader_readTime_43 rfl ?_
      refine A_callV1 m_Reader_take T_ok d_Reader_readTime_45 l_Reader_103 k_Reader_take (hb_s hb8 sf_2) rfl (by decide +kernel) (by decide) (Nat.le_of_ble_eq_true rfl) H (fun r h10 hq => ?_)
      clear H
      obtain ⟨z12, rfl, hb11, H⟩ := hq
      refine A_if_ne (tgt := 53) d_Reader_readTime_48 (by decide) (fun c => ?_) (fun c => ?_)
      · replace H := H.2 c
        refine A_aload_n 0 d_Reader_readTime_53 rfl rfl ?_
        refine A_bipush d_Reader_readTime_54 rfl ?_
        refine A_iconst d_Reader_readTime_56 rfl ?_
        refine A_callV2 m_Reader_readNumber T_ok d_Reader_readTime_57 l_Reader_99 k_Reader_readNumber (hb_s hb11 sf_2) rfl (by decide +kernel) (by decide) (Nat.le_of_ble_eq_true rfl) H (fun r h13 hq => ?_)
        clear H
        obtain ⟨z15, rfl, hb14, H⟩ := hq
        refine A_istore_n 2 (L' := [some (av_R (some 2)), some (av_I z9), some (av_I z15)]) d_Reader_readTime_60 rfl (Nat.le_of_ble_eq_true rfl) rfl ?_
        refine A_iload_n 2 d_Reader_readTime_61 rfl rfl ?_
        refine A_if_ne (tgt := 67) d_Reader_readTime_62 (by decide) (fun c => ?_) (fun c => ?_)
        · replace H := H.2 c
          refine A_aload_n 0 d_Reader_readTime_67 rfl rfl ?_
          refine A_getOv (z := some s) T_ok d_Reader_readTime_68 f_Reader_32 (hb_s hb14 sf_2) hb14.2.2.2.1 ?_
          refine A_iload_n 1 d_Reader_readTime_71 rfl rfl ?_
          refine A_iload_n 2 d_Reader_readTime_72 rfl rfl ?_
          refine A_callV2 m_Score_setTime T_ok d_Reader_readTime_73 l_Reader_107 k_Score_setTime (hs_S hb14 hS) rfl (by decide +kernel) (by decide) (Nat.le_of_ble_eq_true rfl) H (fun r h17 hq => ?_)
          clear H
          obtain ⟨rfl, hb18, H⟩ := hq
          refine A_aload_n 0 d_Reader_readTime_76 rfl rfl ?_
          refine A_bipush d_Reader_readTime_77 rfl ?_
          refine A_callV1 m_Reader_take T_ok d_Reader_readTime_79 l_Reader_103 k_Reader_take (hb_s hb18 sf_2) rfl (by decide +kernel) (by decide) (Nat.le_of_ble_eq_true rfl) H (fun r h20 hq => ?_)
          clear H
          obtain ⟨z22, rfl, hb21, H⟩ := hq
          exact A_zret d_Reader_readTime_82 (by decide) rfl H.1 H.2
        · replace H := H.1 c
          refine A_iconst d_Reader_readTime_65 rfl ?_
          exact A_zret d_Reader_readTime_66 (by decide) rfl (by decide) H
      · replace H := H.1 c
        refine A_pc (pc' := 51) rfl ?_
        refine A_free (L' := [none, none, none]) trivial ?_
        exact b_Reader_readTime_51    hb11 H
  · replace H := H.2 c
    refine A_aload_n 0 d_Reader_readTime_10 rfl rfl ?_
    refine A_iconst d_Reader_readTime_11 rfl ?_
    refine A_aload_n 0 d_Reader_readTime_12 rfl rfl ?_
    refine A_getOv (z := some 3) T_ok d_Reader_readTime_13 f_Reader_12 (hb_s hb0 sf_2) (hb_r hb0 rff_2_0) ?_
    refine A_getIf T_ok d_Reader_readTime_16 f_Reader_75 (hb_s hb0 sf_3) (fun x24 ex24 lx24 ux24 => ?_)
    replace H := H x24 ex24 lx24 ux24
    refine A_pc (pc' := 19) rfl ?_
    refine A_callV2 m_Reader_blame T_ok d_Reader_readTime_19 l_Reader_91 k_Reader_blame (hb_s hb0 sf_2) rfl (by decide +kernel) (by decide) (Nat.le_of_ble_eq_true rfl) H (fun r h25 hq => ?_)
    clear H
    obtain ⟨z27, rfl, hb26, H⟩ := hq
    exact A_zret d_Reader_readTime_22 (by decide) rfl H.1 H.2
theorem c_Reader_readTime {G : cx_T} {s : Nat} {h : ah_T} {Q : Option av_T → ah_T → Prop} (hb0 : hb s h) (H : B_Reader_readTime_0 G s h Q ) : con G 2 0 0 m_Reader_readTime [av_R (some 2)] h Q := by
  have hS : isS s := hb0.2.1
  refine con_of (L := [some (av_R (some 2)), none, none]) (by decide +kernel) (Nat.le_of_ble_eq_true rfl) rfl ?_
  exact b_Reader_readTime_0   hb0 (H )
def B_Reader_readLine_113 (G : cx_T) (s : Nat) (h : ah_T) (Q : Option av_T → ah_T → Prop) : Prop :=
 con G 1 0 0 m_Reader_take [av_R (some 2), av_I 59] h (fun r h1 => ∃ z3 : Int, r = some (av_I z3) ∧ hb s h1 ∧ (z3 = 0 ∨ z3 = 1) ∧ Q (some (av_I z3)) h1)
theorem b_Reader_readLine_113 {G : cx_T} {s : Nat} {h : ah_T} {Q : Option av_T → ah_T → Prop} (hb0 : hb s h) (H : B_Reader_readLine_113 G s h Q ) : aw G (rm_R 2 0 0) m_Reader_readLine 0 0 113 [some (av_R (some 2)), none] [] h Q := by
  unfold B_Reader_readLine_113 at H
  have hS : isS s := hb0.2.1
  refine A_aload_n 0 d_Reader_readLine_113 rfl rfl ?_
  refine A_bipush d_Reader_readLine_114 rfl ?_
  refine A_callV1 m_Reader_take T_ok d_Reader_readLine_116 l_Reader_103 k_Reader_take (hb_s hb0 sf_2) rfl (by decide +kernel) (by decide) (Nat.le_of_ble_eq_true rfl) H (fun r h1 hq => ?_)
  clear H
  obtain ⟨z3, rfl, hb2, H⟩ := hq
  exact A_zret d_Reader_readLine_119 (by decide) rfl H.1 H.2
def B_Reader_readLine_50 (G : cx_T) (s : Nat) (v1 : Int) (h : ah_T) (Q : Option av_T → ah_T → Prop) (X50 : Int → ah_T → Prop) : Prop :=
 ((8 < v1 → B_Reader_readLine_113 G s h Q ) ∧ (¬ 8 < v1 → ∀ x2 : Int, x2 = h.2.1 3 9 → -2147483648 ≤ x2 → x2 ≤ 2147483647 → ((x2 = 258 → ∀ x5 : Int, x5 = h.2.2.1 3 11 → -9223372036854775808 ≤ x5 → x5 ≤ 9223372036854775807 → ((-2147483648) ≤ x5 ∧ x5 ≤ 2147483647) ∧ con G 0 0 0 m_Score_addToLine [av_R (some s), av_I x5] h (fun r h7 => ∃ z9 : Int, r = some (av_I z9) ∧ hb s h7 ∧ ((z9 = 0 → ∀ x16 : Int, x16 = h7.2.1 3 10 → -2147483648 ≤ x16 → x16 ≤ 2147483647 → con G 0 0 0 m_Reader_blame [av_R (some 2), av_I 3, av_I x16] h7 (fun r h17 => ∃ z19 : Int, r = some (av_I z19) ∧ hb s h17 ∧ (z19 = 0 ∨ z19 = 1) ∧ Q (some (av_I z19)) h17)) ∧ (¬ z9 = 0 → con G 0 0 0 m_Tokens_next [av_R (some 3)] h7 (fun r h11 => r = none ∧ hb s h11 ∧ ((-2147483648) ≤ (v1 + 1) ∧ (v1 + 1) ≤ 2147483647) ∧ X50 ((v1 + 1)) h11))))) ∧ (¬ x2 = 258 → B_Reader_readLine_113 G s h Q ))))
theorem b_Reader_readLine_50 {G : cx_T} {s : Nat} {v1 : Int} {h : ah_T} {Q : Option av_T → ah_T → Prop} {X50 : Int → ah_T → Prop} (hX50 : ∀ (v1 : Int) (h : ah_T), hb s h → X50 v1 h → aw G (rm_R 2 0 0) m_Reader_readLine 0 0 50 [some (av_R (some 2)), some (av_I v1)] [] h Q) (hb0 : hb s h) (H : B_Reader_readLine_50 G s v1 h Q X50) : aw G (rm_R 2 0 0) m_Reader_readLine 0 0 50 [some (av_R (some 2)), some (av_I v1)] [] h Q := by
  unfold B_Reader_readLine_50 at H
  have hS : isS s := hb0.2.1
  refine A_iload_n 1 d_Reader_readLine_50 rfl rfl ?_
  refine A_bipush d_Reader_readLine_51 rfl ?_
  refine A_icmp_gt (tgt := 113) d_Reader_readLine_53 (by decide) (fun c => ?_) (fun c => ?_)
  · replace H := H.1 c
    refine A_pc (pc' := 113) rfl ?_
    refine A_free (L' := [some (av_R (some 2)), none]) (And.intro rfl trivial) ?_
    exact b_Reader_readLine_113    hb0 H
  · replace H := H.2 c
    refine A_aload_n 0 d_Reader_readLine_56 rfl rfl ?_
    refine A_getOv (z := some 3) T_ok d_Reader_readLine_57 f_Reader_12 (hb_s hb0 sf_2) (hb_r hb0 rff_2_0) ?_
    refine A_getIf T_ok d_Reader_readLine_60 f_Reader_50 (hb_s hb0 sf_3) (fun x2 ex2 lx2 ux2 => ?_)
    replace H := H x2 ex2 lx2 ux2
    refine A_sipush d_Reader_readLine_63 rfl ?_
    refine A_icmp_ne (tgt := 113) d_Reader_readLine_66 (by decide) (fun c => ?_) (fun c => ?_)
    · replace H := H.2 c
      refine A_pc (pc' := 113) rfl ?_
      refine A_free (L' := [some (av_R (some 2)), none]) (And.intro rfl trivial) ?_
      exact b_Reader_readLine_113    hb0 H
    · replace H := H.1 c
      refine A_aload_n 0 d_Reader_readLine_69 rfl rfl ?_
      refine A_getOv (z := some s) T_ok d_Reader_readLine_70 f_Reader_32 (hb_s hb0 sf_2) hb0.2.2.2.1 ?_
      refine A_aload_n 0 d_Reader_readLine_73 rfl rfl ?_
      refine A_getOv (z := some 3) T_ok d_Reader_readLine_74 f_Reader_12 (hb_s hb0 sf_2) (hb_r hb0 rff_2_0) ?_
      refine A_getLf T_ok d_Reader_readLine_77 f_Reader_81 (hb_s hb0 sf_3) (fun x5 ex5 lx5 ux5 => ?_)
      replace H := H x5 ex5 lx5 ux5
      refine A_pc (pc' := 80) rfl ?_
      have g6 := H.1
      replace H := H.2
      refine A_l2iv (z := x5) d_Reader_readLine_80 (w32_id (by unfold i32; omega)) ?_
      refine A_callV1 m_Score_addToLine T_ok d_Reader_readLine_81 l_Reader_114 k_Score_addToLine (hs_S hb0 hS) rfl (by decide +kernel) (by decide) (Nat.le_of_ble_eq_true rfl) H (fun r h7 hq => ?_)
      clear H
      obtain ⟨z9, rfl, hb8, H⟩ := hq
      refine A_if_ne (tgt := 100) d_Reader_readLine_84 (by decide) (fun c => ?_) (fun c => ?_)
      · replace H := H.2 c
        refine A_aload_n 0 d_Reader_readLine_100 rfl rfl ?_
        refine A_getOv (z := some 3) T_ok d_Reader_readLine_101 f_Reader_12 (hb_s hb8 sf_2) (hb_r hb8 rff_2_0) ?_
        refine A_callV0 m_Tokens_next T_ok d_Reader_readLine_104 l_Reader_78 k_Tokens_next (hb_s hb8 sf_3) rfl (by decide +kernel) (by decide) (Nat.le_of_ble_eq_true rfl) H (fun r h11 hq => ?_)
        clear H
        obtain ⟨rfl, hb12, H⟩ := hq
        have g14 := H.1
        replace H := H.2
        refine A_iincv (z := (v1 + 1)) (L' := [some (av_R (some 2)), some (av_I (v1 + 1))]) d_Reader_readLine_107 rfl (w32_to (by omega) (by unfold i32; omega)) rfl ?_
        refine A_goto (tgt := 50) d_Reader_readLine_110 (by decide) ?_
        refine A_pc (pc' := 50) rfl ?_
        exact hX50 ((v1 + 1)) h11  hb12 H
      · replace H := H.1 c
        refine A_aload_n 0 d_Reader_readLine_87 rfl rfl ?_
        refine A_iconst d_Reader_readLine_88 rfl ?_
        refine A_aload_n 0 d_Reader_readLine_89 rfl rfl ?_
        refine A_getOv (z := some 3) T_ok d_Reader_readLine_90 f_Reader_12 (hb_s hb8 sf_2) (hb_r hb8 rff_2_0) ?_
        refine A_getIf T_ok d_Reader_readLine_93 f_Reader_75 (hb_s hb8 sf_3) (fun x16 ex16 lx16 ux16 => ?_)
        replace H := H x16 ex16 lx16 ux16
        refine A_pc (pc' := 96) rfl ?_
        refine A_callV2 m_Reader_blame T_ok d_Reader_readLine_96 l_Reader_91 k_Reader_blame (hb_s hb8 sf_2) rfl (by decide +kernel) (by decide) (Nat.le_of_ble_eq_true rfl) H (fun r h17 hq => ?_)
        clear H
        obtain ⟨z19, rfl, hb18, H⟩ := hq
        exact A_zret d_Reader_readLine_99 (by decide) rfl H.1 H.2
theorem lp_Reader_readLine_50 {G : cx_T} {s : Nat} {Q : Option av_T → ah_T → Prop} (I : Int → ah_T → Prop) (μ : Int → ah_T → Nat) (hI : ∀ (v1 : Int) (h : ah_T), hb s h → I v1 h → B_Reader_readLine_50 G s v1 h Q (fun v1' h' => I v1' h' ∧ μ v1' h' < μ v1 h)) : ∀ (v1 : Int) (h : ah_T), hb s h → I v1 h → aw G (rm_R 2 0 0) m_Reader_readLine 0 0 50 [some (av_R (some 2)), some (av_I v1)] [] h Q := by
  have key : ∀ (n : Nat) (v1 : Int) (h : ah_T), hb s h → I v1 h → μ v1 h < n → aw G (rm_R 2 0 0) m_Reader_readLine 0 0 50 [some (av_R (some 2)), some (av_I v1)] [] h Q := by
    intro n
    induction n with
    | zero => intro v1 h  hb0 hi hm; omega
    | succ n ih => intro v1 h  hb0 hi hm; exact b_Reader_readLine_50  (fun v1' h'  hb' hx => ih v1' h'  hb' hx.1 (by have := hx.2; omega))  hb0 (hI v1 h  hb0 hi)
  exact fun v1 h  hb0 hi => key _ v1 h  hb0 hi (Nat.lt_succ_self _)
def B_Reader_readLine_0 (G : cx_T) (s : Nat) (h : ah_T) (Q : Option av_T → ah_T → Prop) (X50 : Int → ah_T → Prop) : Prop :=
 ∀ x2 : Int, x2 = h.2.1 s 6 → -2147483648 ≤ x2 → x2 ≤ 2147483647 → ((x2 ≤ 0 → con G 0 0 0 m_Tokens_next [av_R (some 3)] h (fun r h4 => r = none ∧ hb s h4 ∧ ∀ x8 : Int, x8 = h4.2.1 3 9 → -2147483648 ≤ x8 → x8 ≤ 2147483647 → ((x8 = 258 → X50 (0) h4) ∧ (¬ x8 = 258 → con G 0 0 0 m_Reader_refuse [av_R (some 2)] h4 (fun r h9 => ∃ z11 : Int, r = some (av_I z11) ∧ hb s h9 ∧ (z11 = 0 ∨ z11 = 1) ∧ Q (some (av_I z11)) h9))))) ∧ (¬ x2 ≤ 0 → ∀ x13 : Int, x13 = h.2.1 3 10 → -2147483648 ≤ x13 → x13 ≤ 2147483647 → con G 0 0 0 m_Reader_blame [av_R (some 2), av_I 4, av_I x13] h (fun r h14 => ∃ z16 : Int, r = some (av_I z16) ∧ hb s h14 ∧ (z16 = 0 ∨ z16 = 1) ∧ Q (some (av_I z16)) h14)))
theorem b_Reader_readLine_0 {G : cx_T} {s : Nat} {h : ah_T} {Q : Option av_T → ah_T → Prop} {X50 : Int → ah_T → Prop} (hX50 : ∀ (v1 : Int) (h : ah_T), hb s h → X50 v1 h → aw G (rm_R 2 0 0) m_Reader_readLine 0 0 50 [some (av_R (some 2)), some (av_I v1)] [] h Q) (hb0 : hb s h) (H : B_Reader_readLine_0 G s h Q X50) : aw G (rm_R 2 0 0) m_Reader_readLine 0 0 0 [some (av_R (some 2)), none] [] h Q := by
  unfold B_Reader_readLine_0 at H
  have hS : isS s := hb0.2.1
  refine A_aload_n 0 d_Reader_readLine_0 rfl rfl ?_
  refine A_getOv (z := some s) T_ok d_Reader_readLine_1 f_Reader_32 (hb_s hb0 sf_2) hb0.2.2.2.1 ?_
  refine A_getIf T_ok d_Reader_readLine_4 f_Reader_111 (hs_S hb0 hS) (fun x2 ex2 lx2 ux2 => ?_)
  replace H := H x2 ex2 lx2 ux2
  refine A_if_le (tgt := 23) d_Reader_readLine_7 (by decide) (fun c => ?_) (fun c => ?_)
  · replace H := H.1 c
    refine A_aload_n 0 d_Reader_readLine_23 rfl rfl ?_
    refine A_getOv (z := some 3) T_ok d_Reader_readLine_24 f_Reader_12 (hb_s hb0 sf_2) (hb_r hb0 rff_2_0) ?_
    refine A_callV0 m_Tokens_next T_ok d_Reader_readLine_27 l_Reader_78 k_Tokens_next (hb_s hb0 sf_3) rfl (by decide +kernel) (by decide) (Nat.le_of_ble_eq_true rfl) H (fun r h4 hq => ?_)
    clear H
    obtain ⟨rfl, hb5, H⟩ := hq
    refine A_aload_n 0 d_Reader_readLine_30 rfl rfl ?_
    refine A_getOv (z := some 3) T_ok d_Reader_readLine_31 f_Reader_12 (hb_s hb5 sf_2) (hb_r hb5 rff_2_0) ?_
    refine A_getIf T_ok d_Reader_readLine_34 f_Reader_50 (hb_s hb5 sf_3) (fun x8 ex8 lx8 ux8 => ?_)
    replace H := H x8 ex8 lx8 ux8
    refine A_sipush d_Reader_readLine_37 rfl ?_
    refine A_icmp_eq (tgt := 48) d_Reader_readLine_40 (by decide) (fun c => ?_) (fun c => ?_)
    · replace H := H.1 c
      refine A_iconst d_Reader_readLine_48 rfl ?_
      refine A_istore_n 1 (L' := [some (av_R (some 2)), some (av_I 0)]) d_Reader_readLine_49 rfl (Nat.le_of_ble_eq_true rfl) rfl ?_
      refine A_pc (pc' := 50) rfl ?_
      exact hX50 (0) h4  hb5 H
    · replace H := H.2 c
      refine A_aload_n 0 d_Reader_readLine_43 rfl rfl ?_
      refine A_callV0 m_Reader_refuse T_ok d_Reader_readLine_44 l_Reader_69 k_Reader_refuse (hb_s hb5 sf_2) rfl (by decide +kernel) (by decide) (Nat.le_of_ble_eq_true rfl) H (fun r h9 hq => ?_)
      clear H
      obtain ⟨z11, rfl, hb10, H⟩ := hq
      exact A_zret d_Reader_readLine_47 (by decide) rfl H.1 H.2
  · replace H := H.2 c
    refine A_aload_n 0 d_Reader_readLine_10 rfl rfl ?_
    refine A_iconst d_Reader_readLine_11 rfl ?_
    refine A_aload_n 0 d_Reader_readLine_12 rfl rfl ?_
    refine A_getOv (z := some 3) T_ok d_Reader_readLine_13 f_Reader_12 (hb_s hb0 sf_2) (hb_r hb0 rff_2_0) ?_
    refine A_getIf T_ok d_Reader_readLine_16 f_Reader_75 (hb_s hb0 sf_3) (fun x13 ex13 lx13 ux13 => ?_)
    replace H := H x13 ex13 lx13 ux13
    refine A_pc (pc' := 19) rfl ?_
    refine A_callV2 m_Reader_blame T_ok d_Reader_readLine_19 l_Reader_91 k_Reader_blame (hb_s hb0 sf_2) rfl (by decide +kernel) (by decide) (Nat.le_of_ble_eq_true rfl) H (fun r h14 hq => ?_)
    clear H
    obtain ⟨z16, rfl, hb15, H⟩ := hq
    exact A_zret d_Reader_readLine_22 (by decide) rfl H.1 H.2
theorem c_Reader_readLine {G : cx_T} {s : Nat} {h : ah_T} {Q : Option av_T → ah_T → Prop} {X50 : Int → ah_T → Prop} (hX50 : ∀ (v1 : Int) (h : ah_T), hb s h → X50 v1 h → aw G (rm_R 2 0 0) m_Reader_readLine 0 0 50 [some (av_R (some 2)), some (av_I v1)] [] h Q) (hb0 : hb s h) (H : B_Reader_readLine_0 G s h Q X50) : con G 2 0 0 m_Reader_readLine [av_R (some 2)] h Q := by
  have hS : isS s := hb0.2.1
  refine con_of (L := [some (av_R (some 2)), none]) (by decide +kernel) (Nat.le_of_ble_eq_true rfl) rfl ?_
  exact b_Reader_readLine_0  hX50 hb0 (H )
def B_Reader_readName_117 (G : cx_T) (s : Nat) (v1 : Int) (h : ah_T) (Q : Option av_T → ah_T → Prop) : Prop :=
 con G 0 0 0 m_Tokens_next [av_R (some 3)] h (fun r h2 => r = none ∧ hb s h2 ∧ Q (some (av_I v1)) h2)
theorem b_Reader_readName_117 {G : cx_T} {s : Nat} {v1 : Int} {h : ah_T} {Q : Option av_T → ah_T → Prop} (hb0 : hb s h) (H : B_Reader_readName_117 G s v1 h Q ) : aw G (rm_R 1 0 0) m_Reader_readName 0 0 117 [some (av_R (some 2)), some (av_I v1)] [] h Q := by
  unfold B_Reader_readName_117 at H
  have hS : isS s := hb0.2.1
  refine A_aload_n 0 d_Reader_readName_117 rfl rfl ?_
  refine A_getOv (z := some 3) T_ok d_Reader_readName_118 f_Reader_12 (hb_s hb0 sf_2) (hb_r hb0 rff_2_0) ?_
  refine A_callV0 m_Tokens_next T_ok d_Reader_readName_121 l_Reader_78 k_Tokens_next (hb_s hb0 sf_3) rfl (by decide +kernel) (by decide) (Nat.le_of_ble_eq_true rfl) H (fun r h2 hq => ?_)
  clear H
  obtain ⟨rfl, hb3, H⟩ := hq
  refine A_iload_n 1 d_Reader_readName_124 rfl rfl ?_
  exact A_iret d_Reader_readName_125 (by decide) rfl H
def B_Reader_readName_62 (G : cx_T) (s : Nat) (v1 : Int) (h : ah_T) (Q : Option av_T → ah_T → Prop) : Prop :=
 ((v1 < 16 → ∀ x2 : Int, x2 = h.2.1 2 3 → -2147483648 ≤ x2 → x2 ≤ 2147483647 → ((v1 = x2 → ∀ x5 : Int, x5 = h.2.2.1 3 11 → -9223372036854775808 ≤ x5 → x5 ≤ 9223372036854775807 → (0 ≤ v1 ∧ v1 < 16) ∧ ∀ h7 : ah_T, h7 = st_l h 16 (v1).toNat x5 → ((-2147483648) ≤ (x2 + 1) ∧ (x2 + 1) ≤ 2147483647) ∧ ∀ h11 : ah_T, h11 = st_i h7 2 3 (x2 + 1) → B_Reader_readName_117 G s (v1) h11 Q ) ∧ (¬ v1 = x2 → B_Reader_readName_117 G s (v1) h Q ))) ∧ (¬ v1 < 16 → ∀ x14 : Int, x14 = h.2.1 3 10 → -2147483648 ≤ x14 → x14 ≤ 2147483647 → con G 0 0 0 m_Reader_blame [av_R (some 2), av_I 3, av_I x14] h (fun r h15 => ∃ z17 : Int, r = some (av_I z17) ∧ hb s h15 ∧ Q (some (av_I (-1))) h15)))
theorem b_Reader_readName_62 {G : cx_T} {s : Nat} {v1 : Int} {h : ah_T} {Q : Option av_T → ah_T → Prop} (hb0 : hb s h) (H : B_Reader_readName_62 G s v1 h Q ) : aw G (rm_R 1 0 0) m_Reader_readName 0 0 62 [some (av_R (some 2)), some (av_I v1)] [] h Q := by
  unfold B_Reader_readName_62 at H
  have hS : isS s := hb0.2.1
  refine A_iload_n 1 d_Reader_readName_62 rfl rfl ?_
  refine A_aload_n 0 d_Reader_readName_63 rfl rfl ?_
  refine A_getAv (z := some 16) T_ok d_Reader_readName_64 f_Reader_25 (hb_s hb0 sf_2) (hb_r hb0 rff_2_2) ?_
  refine A_alenN d_Reader_readName_67 (hb_s hb0 sf_16) (by decide) (by decide) ?_
  refine A_icmp_lt (tgt := 86) d_Reader_readName_68 (by decide) (fun c => ?_) (fun c => ?_)
  · replace H := H.1 c
    refine A_iload_n 1 d_Reader_readName_86 rfl rfl ?_
    refine A_aload_n 0 d_Reader_readName_87 rfl rfl ?_
    refine A_getIf T_ok d_Reader_readName_88 f_Reader_39 (hb_s hb0 sf_2) (fun x2 ex2 lx2 ux2 => ?_)
    replace H := H x2 ex2 lx2 ux2
    refine A_icmp_ne (tgt := 117) d_Reader_readName_91 (by decide) (fun c => ?_) (fun c => ?_)
    · replace H := H.2 c
      refine A_pc (pc' := 117) rfl ?_
      exact b_Reader_readName_117    hb0 H
    · replace H := H.1 c
      refine A_aload_n 0 d_Reader_readName_94 rfl rfl ?_
      refine A_getAv (z := some 16) T_ok d_Reader_readName_95 f_Reader_25 (hb_s hb0 sf_2) (hb_r hb0 rff_2_2) ?_
      refine A_iload_n 1 d_Reader_readName_98 rfl rfl ?_
      refine A_aload_n 0 d_Reader_readName_99 rfl rfl ?_
      refine A_getOv (z := some 3) T_ok d_Reader_readName_100 f_Reader_12 (hb_s hb0 sf_2) (hb_r hb0 rff_2_0) ?_
      refine A_pc (pc' := 103) rfl ?_
      refine A_getLf T_ok d_Reader_readName_103 f_Reader_81 (hb_s hb0 sf_3) (fun x5 ex5 lx5 ux5 => ?_)
      replace H := H x5 ex5 lx5 ux5
      have g6 := H.1
      replace H := H.2
      refine A_lastoreN d_Reader_readName_106 (hb_s hb0 sf_16) g6.1 g6.2 ?_
      refine A_hn (fun h7 eh7 => ?_)
      have hb8 := hb_l hb0 eh7
      replace H := H h7 eh7
      refine A_aload_n 0 d_Reader_readName_107 rfl rfl ?_
      refine A_dupR d_Reader_readName_108 ?_
      refine A_getIv (z := x2) T_ok d_Reader_readName_109 f_Reader_39 (hb_s hb8 sf_2) ((mm_lo eh7).trans ex2.symm) ?_
      refine A_iconst d_Reader_readName_112 rfl ?_
      refine A_pc (pc' := 113) rfl ?_
      have g10 := H.1
      replace H := H.2
      refine A_iaddv (z := (x2 + 1)) d_Reader_readName_113 (w32_to (by omega) (by unfold i32; omega)) ?_
      refine A_putI T_ok d_Reader_readName_114 f_Reader_39 (hb_s hb8 sf_2) fin_f ?_
      refine A_hn (fun h11 eh11 => ?_)
      have hb12 := hb_i hb8 eh11
      replace H := H h11 eh11
      refine A_pc (pc' := 117) rfl ?_
      exact b_Reader_readName_117    hb12 H
  · replace H := H.2 c
    refine A_aload_n 0 d_Reader_readName_71 rfl rfl ?_
    refine A_iconst d_Reader_readName_72 rfl ?_
    refine A_aload_n 0 d_Reader_readName_73 rfl rfl ?_
    refine A_getOv (z := some 3) T_ok d_Reader_readName_74 f_Reader_12 (hb_s hb0 sf_2) (hb_r hb0 rff_2_0) ?_
    refine A_getIf T_ok d_Reader_readName_77 f_Reader_75 (hb_s hb0 sf_3) (fun x14 ex14 lx14 ux14 => ?_)
    replace H := H x14 ex14 lx14 ux14
    refine A_pc (pc' := 80) rfl ?_
    refine A_callV2 m_Reader_blame T_ok d_Reader_readName_80 l_Reader_91 k_Reader_blame (hb_s hb0 sf_2) rfl (by decide +kernel) (by decide) (Nat.le_of_ble_eq_true rfl) H (fun r h15 hq => ?_)
    clear H
    obtain ⟨z17, rfl, hb16, H⟩ := hq
    refine A_popI d_Reader_readName_83 ?_
    refine A_iconst d_Reader_readName_84 rfl ?_
    exact A_iret d_Reader_readName_85 (by decide) rfl H
def B_Reader_readName_22 (G : cx_T) (s : Nat) (v1 : Int) (h : ah_T) (Q : Option av_T → ah_T → Prop) (X22 : Int → ah_T → Prop) : Prop :=
 ∀ x1 : Int, x1 = h.2.1 2 3 → -2147483648 ≤ x1 → x1 ≤ 2147483647 → ((x1 ≤ v1 → B_Reader_readName_62 G s (v1) h Q ) ∧ (¬ x1 ≤ v1 → ((16 ≤ v1 → B_Reader_readName_62 G s (v1) h Q ) ∧ (¬ 16 ≤ v1 → (0 ≤ v1 ∧ v1 < 16) ∧ ∀ x4 : Int, x4 = h.2.2.1 16 (v1).toNat → -9223372036854775808 ≤ x4 → x4 ≤ 9223372036854775807 → ∀ x7 : Int, x7 = h.2.2.1 3 11 → -9223372036854775808 ≤ x7 → x7 ≤ 9223372036854775807 → ((x4 = x7 → B_Reader_readName_62 G s (v1) h Q ) ∧ (¬ x4 = x7 → ((-2147483648) ≤ (v1 + 1) ∧ (v1 + 1) ≤ 2147483647) ∧ X22 ((v1 + 1)) h))))))
theorem b_Reader_readName_22 {G : cx_T} {s : Nat} {v1 : Int} {h : ah_T} {Q : Option av_T → ah_T → Prop} {X22 : Int → ah_T → Prop} (hX22 : ∀ (v1 : Int) (h : ah_T), hb s h → X22 v1 h → aw G (rm_R 1 0 0) m_Reader_readName 0 0 22 [some (av_R (some 2)), some (av_I v1)] [] h Q) (hb0 : hb s h) (H : B_Reader_readName_22 G s v1 h Q X22) : aw G (rm_R 1 0 0) m_Reader_readName 0 0 22 [some (av_R (some 2)), some (av_I v1)] [] h Q := by
  unfold B_Reader_readName_22 at H
  have hS : isS s := hb0.2.1
  refine A_iload_n 1 d_Reader_readName_22 rfl rfl ?_
  refine A_aload_n 0 d_Reader_readName_23 rfl rfl ?_
  refine A_getIf T_ok d_Reader_readName_24 f_Reader_39 (hb_s hb0 sf_2) (fun x1 ex1 lx1 ux1 => ?_)
  replace H := H x1 ex1 lx1 ux1
  refine A_icmp_ge (tgt := 62) d_Reader_readName_27 (by decide) (fun c => ?_) (fun c => ?_)
  · replace H := H.1 c
    refine A_pc (pc' := 62) rfl ?_
    exact b_Reader_readName_62    hb0 H
  · replace H := H.2 c
    refine A_iload_n 1 d_Reader_readName_30 rfl rfl ?_
    refine A_aload_n 0 d_Reader_readName_31 rfl rfl ?_
    refine A_getAv (z := some 16) T_ok d_Reader_readName_32 f_Reader_25 (hb_s hb0 sf_2) (hb_r hb0 rff_2_2) ?_
    refine A_alenN d_Reader_readName_35 (hb_s hb0 sf_16) (by decide) (by decide) ?_
    refine A_icmp_ge (tgt := 62) d_Reader_readName_36 (by decide) (fun c => ?_) (fun c => ?_)
    · replace H := H.1 c
      refine A_pc (pc' := 62) rfl ?_
      exact b_Reader_readName_62    hb0 H
    · replace H := H.2 c
      refine A_aload_n 0 d_Reader_readName_39 rfl rfl ?_
      refine A_getAv (z := some 16) T_ok d_Reader_readName_40 f_Reader_25 (hb_s hb0 sf_2) (hb_r hb0 rff_2_2) ?_
      refine A_iload_n 1 d_Reader_readName_43 rfl rfl ?_
      have g5 := H.1
      replace H := H.2
      refine A_laloadf d_Reader_readName_44 (hb_s hb0 sf_16) g5.1 g5.2 (fun x4 ex4 lx4 ux4 => ?_)
      replace H := H x4 ex4 lx4 ux4
      refine A_aload_n 0 d_Reader_readName_45 rfl rfl ?_
      refine A_pc (pc' := 46) rfl ?_
      refine A_getOv (z := some 3) T_ok d_Reader_readName_46 f_Reader_12 (hb_s hb0 sf_2) (hb_r hb0 rff_2_0) ?_
      refine A_getLf T_ok d_Reader_readName_49 f_Reader_81 (hb_s hb0 sf_3) (fun x7 ex7 lx7 ux7 => ?_)
      replace H := H x7 ex7 lx7 ux7
      refine A_lcmpn d_Reader_readName_52 (fun x8 lx8 ex8 gx8 _ _ => ?_)
      refine A_if_eq (tgt := 62) d_Reader_readName_53 (by decide) (fun c => ?_) (fun c => ?_)
      · replace H := H.1 (by omega)
        refine A_pc (pc' := 62) rfl ?_
        exact b_Reader_readName_62    hb0 H
      · replace H := H.2 (by omega)
        have g9 := H.1
        replace H := H.2
        refine A_iincv (z := (v1 + 1)) (L' := [some (av_R (some 2)), some (av_I (v1 + 1))]) d_Reader_readName_56 rfl (w32_to (by omega) (by unfold i32; omega)) rfl ?_
        refine A_goto (tgt := 22) d_Reader_readName_59 (by decide) ?_
        refine A_pc (pc' := 22) rfl ?_
        exact hX22 ((v1 + 1)) h  hb0 H
theorem lp_Reader_readName_22 {G : cx_T} {s : Nat} {Q : Option av_T → ah_T → Prop} (I : Int → ah_T → Prop) (μ : Int → ah_T → Nat) (hI : ∀ (v1 : Int) (h : ah_T), hb s h → I v1 h → B_Reader_readName_22 G s v1 h Q (fun v1' h' => I v1' h' ∧ μ v1' h' < μ v1 h)) : ∀ (v1 : Int) (h : ah_T), hb s h → I v1 h → aw G (rm_R 1 0 0) m_Reader_readName 0 0 22 [some (av_R (some 2)), some (av_I v1)] [] h Q := by
  have key : ∀ (n : Nat) (v1 : Int) (h : ah_T), hb s h → I v1 h → μ v1 h < n → aw G (rm_R 1 0 0) m_Reader_readName 0 0 22 [some (av_R (some 2)), some (av_I v1)] [] h Q := by
    intro n
    induction n with
    | zero => intro v1 h  hb0 hi hm; omega
    | succ n ih => intro v1 h  hb0 hi hm; exact b_Reader_readName_22  (fun v1' h'  hb' hx => ih v1' h'  hb' hx.1 (by have := hx.2; omega))  hb0 (hI v1 h  hb0 hi)
  exact fun v1 h  hb0 hi => key _ v1 h  hb0 hi (Nat.lt_succ_self _)
def B_Reader_readName_0 (G : cx_T) (s : Nat) (h : ah_T) (Q : Option av_T → ah_T → Prop) (X22 : Int → ah_T → Prop) : Prop :=
 ∀ x2 : Int, x2 = h.2.1 3 9 → -2147483648 ≤ x2 → x2 ≤ 2147483647 → ((x2 = 260 → X22 (0) h) ∧ (¬ x2 = 260 → con G 0 0 0 m_Reader_refuse [av_R (some 2)] h (fun r h3 => ∃ z5 : Int, r = some (av_I z5) ∧ hb s h3 ∧ Q (some (av_I (-1))) h3)))
theorem b_Reader_readName_0 {G : cx_T} {s : Nat} {h : ah_T} {Q : Option av_T → ah_T → Prop} {X22 : Int → ah_T → Prop} (hX22 : ∀ (v1 : Int) (h : ah_T), hb s h → X22 v1 h → aw G (rm_R 1 0 0) m_Reader_readName 0 0 22 [some (av_R (some 2)), some (av_I v1)] [] h Q) (hb0 : hb s h) (H : B_Reader_readName_0 G s h Q X22) : aw G (rm_R 1 0 0) m_Reader_readName 0 0 0 [some (av_R (some 2)), none] [] h Q := by
  unfold B_Reader_readName_0 at H
  have hS : isS s := hb0.2.1
  refine A_aload_n 0 d_Reader_readName_0 rfl rfl ?_
  refine A_getOv (z := some 3) T_ok d_Reader_readName_1 f_Reader_12 (hb_s hb0 sf_2) (hb_r hb0 rff_2_0) ?_
  refine A_getIf T_ok d_Reader_readName_4 f_Reader_50 (hb_s hb0 sf_3) (fun x2 ex2 lx2 ux2 => ?_)
  replace H := H x2 ex2 lx2 ux2
  refine A_sipush d_Reader_readName_7 rfl ?_
  refine A_icmp_eq (tgt := 20) d_Reader_readName_10 (by decide) (fun c => ?_) (fun c => ?_)
  · replace H := H.1 c
    refine A_iconst d_Reader_readName_20 rfl ?_
    refine A_istore_n 1 (L' := [some (av_R (some 2)), some (av_I 0)]) d_Reader_readName_21 rfl (Nat.le_of_ble_eq_true rfl) rfl ?_
    refine A_pc (pc' := 22) rfl ?_
    exact hX22 (0) h  hb0 H
  · replace H := H.2 c
    refine A_aload_n 0 d_Reader_readName_13 rfl rfl ?_
    refine A_callV0 m_Reader_refuse T_ok d_Reader_readName_14 l_Reader_69 k_Reader_refuse (hb_s hb0 sf_2) rfl (by decide +kernel) (by decide) (Nat.le_of_ble_eq_true rfl) H (fun r h3 hq => ?_)
    clear H
    obtain ⟨z5, rfl, hb4, H⟩ := hq
    refine A_popI d_Reader_readName_17 ?_
    refine A_iconst d_Reader_readName_18 rfl ?_
    exact A_iret d_Reader_readName_19 (by decide) rfl H
theorem c_Reader_readName {G : cx_T} {s : Nat} {h : ah_T} {Q : Option av_T → ah_T → Prop} {X22 : Int → ah_T → Prop} (hX22 : ∀ (v1 : Int) (h : ah_T), hb s h → X22 v1 h → aw G (rm_R 1 0 0) m_Reader_readName 0 0 22 [some (av_R (some 2)), some (av_I v1)] [] h Q) (hb0 : hb s h) (H : B_Reader_readName_0 G s h Q X22) : con G 1 0 0 m_Reader_readName [av_R (some 2)] h Q := by
  have hS : isS s := hb0.2.1
  refine con_of (L := [some (av_R (some 2)), none]) (by decide +kernel) (Nat.le_of_ble_eq_true rfl) rfl ?_
  exact b_Reader_readName_0  hX22 hb0 (H )
def B_Reader_readRule_89 (G : cx_T) (s : Nat) (v1 : Int) (v2 : Int) (v3 : Int) (h : ah_T) (Q : Option av_T → ah_T → Prop) : Prop :=
 con G 0 0 0 m_Score_addRule [av_R (some s), av_I v1, av_I v2, av_I v3] h (fun r h2 => r = none ∧ hb s h2 ∧ con G 1 0 0 m_Reader_take [av_R (some 2), av_I 59] h2 (fun r h5 => ∃ z7 : Int, r = some (av_I z7) ∧ hb s h5 ∧ (z7 = 0 ∨ z7 = 1) ∧ Q (some (av_I z7)) h5))
theorem b_Reader_readRule_89 {G : cx_T} {s : Nat} {v1 : Int} {v2 : Int} {v3 : Int} {h : ah_T} {Q : Option av_T → ah_T → Prop} (hb0 : hb s h) (H : B_Reader_readRule_89 G s v1 v2 v3 h Q ) : aw G (rm_R 2 0 0) m_Reader_readRule 0 0 89 [some (av_R (some 2)), some (av_I v1), some (av_I v2), some (av_I v3)] [] h Q := by
  unfold B_Reader_readRule_89 at H
  have hS : isS s := hb0.2.1
  refine A_aload_n 0 d_Reader_readRule_89 rfl rfl ?_
  refine A_getOv (z := some s) T_ok d_Reader_readRule_90 f_Reader_32 (hb_s hb0 sf_2) hb0.2.2.2.1 ?_
  refine A_iload_n 1 d_Reader_readRule_93 rfl rfl ?_
  refine A_iload_n 2 d_Reader_readRule_94 rfl rfl ?_
  refine A_iload_n 3 d_Reader_readRule_95 rfl rfl ?_
  refine A_pc (pc' := 96) rfl ?_
  refine A_callV3 m_Score_addRule T_ok d_Reader_readRule_96 l_Reader_124 k_Score_addRule (hs_S hb0 hS) rfl (by decide +kernel) (by decide) (Nat.le_of_ble_eq_true rfl) H (fun r h2 hq => ?_)
  clear H
  obtain ⟨rfl, hb3, H⟩ := hq
  refine A_aload_n 0 d_Reader_readRule_99 rfl rfl ?_
  refine A_bipush d_Reader_readRule_100 rfl ?_
  refine A_callV1 m_Reader_take T_ok d_Reader_readRule_102 l_Reader_103 k_Reader_take (hb_s hb3 sf_2) rfl (by decide +kernel) (by decide) (Nat.le_of_ble_eq_true rfl) H (fun r h5 hq => ?_)
  clear H
  obtain ⟨z7, rfl, hb6, H⟩ := hq
  exact A_zret d_Reader_readRule_105 (by decide) rfl H.1 H.2
def B_Reader_readRule_50 (G : cx_T) (s : Nat) (h : ah_T) (Q : Option av_T → ah_T → Prop) : Prop :=
 Q (some (av_I 0)) h
theorem b_Reader_readRule_50 {G : cx_T} {s : Nat} {h : ah_T} {Q : Option av_T → ah_T → Prop} (hb0 : hb s h) (H : B_Reader_readRule_50 G s h Q ) : aw G (rm_R 2 0 0) m_Reader_readRule 0 0 50 [none, none, none, none] [] h Q := by
  unfold B_Reader_readRule_50 at H
  have hS : isS s := hb0.2.1
  refine A_iconst d_Reader_readRule_50 rfl ?_
  exact A_zret d_Reader_readRule_51 (by decide) rfl (by decide) H
def B_Reader_readRule_0 (G : cx_T) (s : Nat) (h : ah_T) (Q : Option av_T → ah_T → Prop) : Prop :=
 ∀ x2 : Int, x2 = h.2.1 s 10 → -2147483648 ≤ x2 → x2 ≤ 2147483647 → ((x2 < 24 → con G 0 0 0 m_Tokens_next [av_R (some 3)] h (fun r h4 => r = none ∧ hb s h4 ∧ con G 1 0 0 m_Reader_readName [av_R (some 2)] h4 (fun r h7 => ∃ z9 : Int, r = some (av_I z9) ∧ hb s h7 ∧ ((z9 < 0 → B_Reader_readRule_50 G s h7 Q ) ∧ (¬ z9 < 0 → con G 1 0 0 m_Reader_take [av_R (some 2), av_I 61] h7 (fun r h10 => ∃ z12 : Int, r = some (av_I z12) ∧ hb s h10 ∧ ((z12 = 0 → B_Reader_readRule_50 G s h10 Q ) ∧ (¬ z12 = 0 → con G 1 0 0 m_Reader_readName [av_R (some 2)] h10 (fun r h13 => ∃ z15 : Int, r = some (av_I z15) ∧ hb s h13 ∧ ((0 ≤ z15 → ∀ x17 : Int, x17 = h13.2.1 3 9 → -2147483648 ≤ x17 → x17 ≤ 2147483647 → ((x17 = 260 → con G 1 0 0 m_Reader_readName [av_R (some 2)] h13 (fun r h18 => ∃ z20 : Int, r = some (av_I z20) ∧ hb s h18 ∧ ((0 ≤ z20 → B_Reader_readRule_89 G s (z9) (z15) (z20) h18 Q ) ∧ (¬ 0 ≤ z20 → Q (some (av_I 0)) h18)))) ∧ (¬ x17 = 260 → B_Reader_readRule_89 G s (z9) (z15) ((-1)) h13 Q ))) ∧ (¬ 0 ≤ z15 → Q (some (av_I 0)) h13))))))))))) ∧ (¬ x2 < 24 → ∀ x22 : Int, x22 = h.2.1 3 10 → -2147483648 ≤ x22 → x22 ≤ 2147483647 → con G 0 0 0 m_Reader_blame [av_R (some 2), av_I 3, av_I x22] h (fun r h23 => ∃ z25 : Int, r = some (av_I z25) ∧ hb s h23 ∧ (z25 = 0 ∨ z25 = 1) ∧ Q (some (av_I z25)) h23)))
theorem b_Reader_readRule_0 {G : cx_T} {s : Nat} {h : ah_T} {Q : Option av_T → ah_T → Prop} (hb0 : hb s h) (H : B_Reader_readRule_0 G s h Q ) : aw G (rm_R 2 0 0) m_Reader_readRule 0 0 0 [some (av_R (some 2)), none, none, none] [] h Q := by
  unfold B_Reader_readRule_0 at H
  have hS : isS s := hb0.2.1
  refine A_aload_n 0 d_Reader_readRule_0 rfl rfl ?_
  refine A_getOv (z := some s) T_ok d_Reader_readRule_1 f_Reader_32 (hb_s hb0 sf_2) hb0.2.2.2.1 ?_
  refine A_getIf T_ok d_Reader_readRule_4 f_Reader_117 (hs_S hb0 hS) (fun x2 ex2 lx2 ux2 => ?_)
  replace H := H x2 ex2 lx2 ux2
  refine A_bipush d_Reader_readRule_7 rfl ?_
  refine A_icmp_lt (tgt := 25) d_Reader_readRule_9 (by decide) (fun c => ?_) (fun c => ?_)
  · replace H := H.1 c
    refine A_aload_n 0 d_Reader_readRule_25 rfl rfl ?_
    refine A_getOv (z := some 3) T_ok d_Reader_readRule_26 f_Reader_12 (hb_s hb0 sf_2) (hb_r hb0 rff_2_0) ?_
    refine A_callV0 m_Tokens_next T_ok d_Reader_readRule_29 l_Reader_78 k_Tokens_next (hb_s hb0 sf_3) rfl (by decide +kernel) (by decide) (Nat.le_of_ble_eq_true rfl) H (fun r h4 hq => ?_)
    clear H
    obtain ⟨rfl, hb5, H⟩ := hq
    refine A_aload_n 0 d_Reader_readRule_32 rfl rfl ?_
    refine A_callV0 m_Reader_readName T_ok d_Reader_readRule_33 l_Reader_120 k_Reader_readName (hb_s hb5 sf_2) rfl (by decide +kernel) (by decide) (Nat.le_of_ble_eq_true rfl) H (fun r h7 hq => ?_)
    clear H
    obtain ⟨z9, rfl, hb8, H⟩ := hq
    refine A_istore_n 1 (L' := [some (av_R (some 2)), some (av_I z9), none, none]) d_Reader_readRule_36 rfl (Nat.le_of_ble_eq_true rfl) rfl ?_
    refine A_iload_n 1 d_Reader_readRule_37 rfl rfl ?_
    refine A_if_lt (tgt := 50) d_Reader_readRule_38 (by decide) (fun c => ?_) (fun c => ?_)
    · replace H := H.1 c
      refine A_pc (pc' := 50) rfl ?_
      refine A_free (L' := [none, none, none, none]) trivial ?_
      exact b_Reader_readRule_50    hb8 H
    · replace H := H.2 c
      refine A_aload_n 0 d_Reader_readRule_41 rfl rfl ?_
      refine A_bipush d_Reader_readRule_42 rfl ?_
      refine A_callV1 m_Reader_take T_ok d_Reader_readRule_44 l_Reader_103 k_Reader_take (hb_s hb8 sf_2) rfl (by decide +kernel) (by decide) (Nat.le_of_ble_eq_true rfl) H (fun r h10 hq => ?_)
      clear H
      obtain ⟨z12, rfl, hb11, H⟩ := hq
      refine A_if_ne (tgt := 52) d_Reader_readRule_47 (by decide) (fun c => ?_) (fun c => ?_)
      · replace H := H.2 c
        refine A_aload_n 0 d_Reader_readRule_52 rfl rfl ?_
        refine A_callV0 m_Reader_readName T_ok d_Reader_readRule_53 l_Reader_120 k_Reader_readName (hb_s hb11 sf_2) rfl (by decide +kernel) (by decide) (Nat.le_of_ble_eq_true rfl) H (fun r h13 hq => ?_)
        clear H
        obtain ⟨z15, rfl, hb14, H⟩ := hq
        refine A_istore_n 2 (L' := [some (av_R (some 2)), some (av_I z9), some (av_I z15), none]) d_Reader_readRule_56 rfl (Nat.le_of_ble_eq_true rfl) rfl ?_
        refine A_iload_n 2 d_Reader_readRule_57 rfl rfl ?_
        refine A_if_ge (tgt := 63) d_Reader_readRule_58 (by decide) (fun c => ?_) (fun c => ?_)
        · replace H := H.1 c
          refine A_iconst d_Reader_readRule_63 rfl ?_
          refine A_istore_n 3 (L' := [some (av_R (some 2)), some (av_I z9), some (av_I z15), some (av_I (-1))]) d_Reader_readRule_64 rfl (Nat.le_of_ble_eq_true rfl) rfl ?_
          refine A_aload_n 0 d_Reader_readRule_65 rfl rfl ?_
          refine A_getOv (z := some 3) T_ok d_Reader_readRule_66 f_Reader_12 (hb_s hb14 sf_2) (hb_r hb14 rff_2_0) ?_
          refine A_getIf T_ok d_Reader_readRule_69 f_Reader_50 (hb_s hb14 sf_3) (fun x17 ex17 lx17 ux17 => ?_)
          replace H := H x17 ex17 lx17 ux17
          refine A_pc (pc' := 72) rfl ?_
          refine A_sipush d_Reader_readRule_72 rfl ?_
          refine A_icmp_ne (tgt := 89) d_Reader_readRule_75 (by decide) (fun c => ?_) (fun c => ?_)
          · replace H := H.2 c
            refine A_pc (pc' := 89) rfl ?_
            exact b_Reader_readRule_89    hb14 H
          · replace H := H.1 c
            refine A_aload_n 0 d_Reader_readRule_78 rfl rfl ?_
            refine A_callV0 m_Reader_readName T_ok d_Reader_readRule_79 l_Reader_120 k_Reader_readName (hb_s hb14 sf_2) rfl (by decide +kernel) (by decide) (Nat.le_of_ble_eq_true rfl) H (fun r h18 hq => ?_)
            clear H
            obtain ⟨z20, rfl, hb19, H⟩ := hq
            refine A_istore_n 3 (L' := [some (av_R (some 2)), some (av_I z9), some (av_I z15), some (av_I z20)]) d_Reader_readRule_82 rfl (Nat.le_of_ble_eq_true rfl) rfl ?_
            refine A_iload_n 3 d_Reader_readRule_83 rfl rfl ?_
            refine A_if_ge (tgt := 89) d_Reader_readRule_84 (by decide) (fun c => ?_) (fun c => ?_)
            · replace H := H.1 c
              refine A_pc (pc' := 89) rfl ?_
              exact b_Reader_readRule_89    hb19 H
            · replace H := H.2 c
              refine A_iconst d_Reader_readRule_87 rfl ?_
              exact A_zret d_Reader_readRule_88 (by decide) rfl (by decide) H
        · replace H := H.2 c
          refine A_iconst d_Reader_readRule_61 rfl ?_
          exact A_zret d_Reader_readRule_62 (by decide) rfl (by decide) H
      · replace H := H.1 c
        refine A_pc (pc' := 50) rfl ?_
        refine A_free (L' := [none, none, none, none]) trivial ?_
        exact b_Reader_readRule_50    hb11 H
  · replace H := H.2 c
    refine A_aload_n 0 d_Reader_readRule_12 rfl rfl ?_
    refine A_iconst d_Reader_readRule_13 rfl ?_
    refine A_aload_n 0 d_Reader_readRule_14 rfl rfl ?_
    refine A_getOv (z := some 3) T_ok d_Reader_readRule_15 f_Reader_12 (hb_s hb0 sf_2) (hb_r hb0 rff_2_0) ?_
    refine A_getIf T_ok d_Reader_readRule_18 f_Reader_75 (hb_s hb0 sf_3) (fun x22 ex22 lx22 ux22 => ?_)
    replace H := H x22 ex22 lx22 ux22
    refine A_pc (pc' := 21) rfl ?_
    refine A_callV2 m_Reader_blame T_ok d_Reader_readRule_21 l_Reader_91 k_Reader_blame (hb_s hb0 sf_2) rfl (by decide +kernel) (by decide) (Nat.le_of_ble_eq_true rfl) H (fun r h23 hq => ?_)
    clear H
    obtain ⟨z25, rfl, hb24, H⟩ := hq
    exact A_zret d_Reader_readRule_24 (by decide) rfl H.1 H.2
theorem c_Reader_readRule {G : cx_T} {s : Nat} {h : ah_T} {Q : Option av_T → ah_T → Prop} (hb0 : hb s h) (H : B_Reader_readRule_0 G s h Q ) : con G 2 0 0 m_Reader_readRule [av_R (some 2)] h Q := by
  have hS : isS s := hb0.2.1
  refine con_of (L := [some (av_R (some 2)), none, none, none]) (by decide +kernel) (Nat.le_of_ble_eq_true rfl) rfl ?_
  exact b_Reader_readRule_0   hb0 (H )
def B_Reader_readRow_119 (G : cx_T) (s : Nat) (h : ah_T) (Q : Option av_T → ah_T → Prop) : Prop :=
 con G 1 0 0 m_Reader_take [av_R (some 2), av_I 59] h (fun r h1 => ∃ z3 : Int, r = some (av_I z3) ∧ hb s h1 ∧ (z3 = 0 ∨ z3 = 1) ∧ Q (some (av_I z3)) h1)
theorem b_Reader_readRow_119 {G : cx_T} {s : Nat} {h : ah_T} {Q : Option av_T → ah_T → Prop} (hb0 : hb s h) (H : B_Reader_readRow_119 G s h Q ) : aw G (rm_R 2 0 0) m_Reader_readRow 0 0 119 [some (av_R (some 2)), none, none] [] h Q := by
  unfold B_Reader_readRow_119 at H
  have hS : isS s := hb0.2.1
  refine A_aload_n 0 d_Reader_readRow_119 rfl rfl ?_
  refine A_bipush d_Reader_readRow_120 rfl ?_
  refine A_callV1 m_Reader_take T_ok d_Reader_readRow_122 l_Reader_103 k_Reader_take (hb_s hb0 sf_2) rfl (by decide +kernel) (by decide) (Nat.le_of_ble_eq_true rfl) H (fun r h1 hq => ?_)
  clear H
  obtain ⟨z3, rfl, hb2, H⟩ := hq
  exact A_zret d_Reader_readRow_125 (by decide) rfl H.1 H.2
def B_Reader_readRow_50 (G : cx_T) (s : Nat) (v1 : Int) (h : ah_T) (Q : Option av_T → ah_T → Prop) (X50 : Int → ah_T → Prop) : Prop :=
 ((12 < v1 → B_Reader_readRow_119 G s h Q ) ∧ (¬ 12 < v1 → ∀ x2 : Int, x2 = h.2.1 3 9 → -2147483648 ≤ x2 → x2 ≤ 2147483647 → ((x2 = 260 → ∀ x4 : Int, x4 = h.2.1 s 12 → -2147483648 ≤ x4 → x4 ≤ 2147483647 → ((x4 < 12 → con G 1 0 0 m_Reader_readName [av_R (some 2)] h (fun r h5 => ∃ z7 : Int, r = some (av_I z7) ∧ hb s h5 ∧ ((0 ≤ z7 → con G 0 0 0 m_Score_addToRow [av_R (some s), av_I z7] h5 (fun r h9 => r = none ∧ hb s h9 ∧ ((-2147483648) ≤ (v1 + 1) ∧ (v1 + 1) ≤ 2147483647) ∧ X50 ((v1 + 1)) h9)) ∧ (¬ 0 ≤ z7 → Q (some (av_I 0)) h5)))) ∧ (¬ x4 < 12 → ∀ x14 : Int, x14 = h.2.1 3 10 → -2147483648 ≤ x14 → x14 ≤ 2147483647 → con G 0 0 0 m_Reader_blame [av_R (some 2), av_I 3, av_I x14] h (fun r h15 => ∃ z17 : Int, r = some (av_I z17) ∧ hb s h15 ∧ (z17 = 0 ∨ z17 = 1) ∧ Q (some (av_I z17)) h15)))) ∧ (¬ x2 = 260 → B_Reader_readRow_119 G s h Q ))))
theorem b_Reader_readRow_50 {G : cx_T} {s : Nat} {v1 : Int} {h : ah_T} {Q : Option av_T → ah_T → Prop} {X50 : Int → ah_T → Prop} (hX50 : ∀ (v1 : Int) (h : ah_T), hb s h → X50 v1 h → aw G (rm_R 2 0 0) m_Reader_readRow 0 0 50 [some (av_R (some 2)), some (av_I v1), none] [] h Q) (hb0 : hb s h) (H : B_Reader_readRow_50 G s v1 h Q X50) : aw G (rm_R 2 0 0) m_Reader_readRow 0 0 50 [some (av_R (some 2)), some (av_I v1), none] [] h Q := by
  unfold B_Reader_readRow_50 at H
  have hS : isS s := hb0.2.1
  refine A_iload_n 1 d_Reader_readRow_50 rfl rfl ?_
  refine A_bipush d_Reader_readRow_51 rfl ?_
  refine A_icmp_gt (tgt := 119) d_Reader_readRow_53 (by decide) (fun c => ?_) (fun c => ?_)
  · replace H := H.1 c
    refine A_pc (pc' := 119) rfl ?_
    refine A_free (L' := [some (av_R (some 2)), none, none]) (And.intro rfl trivial) ?_
    exact b_Reader_readRow_119    hb0 H
  · replace H := H.2 c
    refine A_aload_n 0 d_Reader_readRow_56 rfl rfl ?_
    refine A_getOv (z := some 3) T_ok d_Reader_readRow_57 f_Reader_12 (hb_s hb0 sf_2) (hb_r hb0 rff_2_0) ?_
    refine A_getIf T_ok d_Reader_readRow_60 f_Reader_50 (hb_s hb0 sf_3) (fun x2 ex2 lx2 ux2 => ?_)
    replace H := H x2 ex2 lx2 ux2
    refine A_sipush d_Reader_readRow_63 rfl ?_
    refine A_icmp_ne (tgt := 119) d_Reader_readRow_66 (by decide) (fun c => ?_) (fun c => ?_)
    · replace H := H.2 c
      refine A_pc (pc' := 119) rfl ?_
      refine A_free (L' := [some (av_R (some 2)), none, none]) (And.intro rfl trivial) ?_
      exact b_Reader_readRow_119    hb0 H
    · replace H := H.1 c
      refine A_aload_n 0 d_Reader_readRow_69 rfl rfl ?_
      refine A_getOv (z := some s) T_ok d_Reader_readRow_70 f_Reader_32 (hb_s hb0 sf_2) hb0.2.2.2.1 ?_
      refine A_getIf T_ok d_Reader_readRow_73 f_Reader_128 (hs_S hb0 hS) (fun x4 ex4 lx4 ux4 => ?_)
      replace H := H x4 ex4 lx4 ux4
      refine A_bipush d_Reader_readRow_76 rfl ?_
      refine A_icmp_lt (tgt := 94) d_Reader_readRow_78 (by decide) (fun c => ?_) (fun c => ?_)
      · replace H := H.1 c
        refine A_aload_n 0 d_Reader_readRow_94 rfl rfl ?_
        refine A_callV0 m_Reader_readName T_ok d_Reader_readRow_95 l_Reader_120 k_Reader_readName (hb_s hb0 sf_2) rfl (by decide +kernel) (by decide) (Nat.le_of_ble_eq_true rfl) H (fun r h5 hq => ?_)
        clear H
        obtain ⟨z7, rfl, hb6, H⟩ := hq
        refine A_istore_n 2 (L' := [some (av_R (some 2)), some (av_I v1), some (av_I z7)]) d_Reader_readRow_98 rfl (Nat.le_of_ble_eq_true rfl) rfl ?_
        refine A_iload_n 2 d_Reader_readRow_99 rfl rfl ?_
        refine A_if_ge (tgt := 105) d_Reader_readRow_100 (by decide) (fun c => ?_) (fun c => ?_)
        · replace H := H.1 c
          refine A_aload_n 0 d_Reader_readRow_105 rfl rfl ?_
          refine A_getOv (z := some s) T_ok d_Reader_readRow_106 f_Reader_32 (hb_s hb6 sf_2) hb6.2.2.2.1 ?_
          refine A_iload_n 2 d_Reader_readRow_109 rfl rfl ?_
          refine A_callV1 m_Score_addToRow T_ok d_Reader_readRow_110 l_Reader_131 k_Score_addToRow (hs_S hb6 hS) rfl (by decide +kernel) (by decide) (Nat.le_of_ble_eq_true rfl) H (fun r h9 hq => ?_)
          clear H
          obtain ⟨rfl, hb10, H⟩ := hq
          have g12 := H.1
          replace H := H.2
          refine A_iincv (z := (v1 + 1)) (L' := [some (av_R (some 2)), some (av_I (v1 + 1)), some (av_I z7)]) d_Reader_readRow_113 rfl (w32_to (by omega) (by unfold i32; omega)) rfl ?_
          refine A_goto (tgt := 50) d_Reader_readRow_116 (by decide) ?_
          refine A_pc (pc' := 50) rfl ?_
          refine A_free (L' := [some (av_R (some 2)), some (av_I (v1 + 1)), none]) (And.intro rfl (And.intro rfl trivial)) ?_
          exact hX50 ((v1 + 1)) h9  hb10 H
        · replace H := H.2 c
          refine A_iconst d_Reader_readRow_103 rfl ?_
          exact A_zret d_Reader_readRow_104 (by decide) rfl (by decide) H
      · replace H := H.2 c
        refine A_aload_n 0 d_Reader_readRow_81 rfl rfl ?_
        refine A_iconst d_Reader_readRow_82 rfl ?_
        refine A_aload_n 0 d_Reader_readRow_83 rfl rfl ?_
        refine A_getOv (z := some 3) T_ok d_Reader_readRow_84 f_Reader_12 (hb_s hb0 sf_2) (hb_r hb0 rff_2_0) ?_
        refine A_getIf T_ok d_Reader_readRow_87 f_Reader_75 (hb_s hb0 sf_3) (fun x14 ex14 lx14 ux14 => ?_)
        replace H := H x14 ex14 lx14 ux14
        refine A_pc (pc' := 90) rfl ?_
        refine A_callV2 m_Reader_blame T_ok d_Reader_readRow_90 l_Reader_91 k_Reader_blame (hb_s hb0 sf_2) rfl (by decide +kernel) (by decide) (Nat.le_of_ble_eq_true rfl) H (fun r h15 hq => ?_)
        clear H
        obtain ⟨z17, rfl, hb16, H⟩ := hq
        exact A_zret d_Reader_readRow_93 (by decide) rfl H.1 H.2
theorem lp_Reader_readRow_50 {G : cx_T} {s : Nat} {Q : Option av_T → ah_T → Prop} (I : Int → ah_T → Prop) (μ : Int → ah_T → Nat) (hI : ∀ (v1 : Int) (h : ah_T), hb s h → I v1 h → B_Reader_readRow_50 G s v1 h Q (fun v1' h' => I v1' h' ∧ μ v1' h' < μ v1 h)) : ∀ (v1 : Int) (h : ah_T), hb s h → I v1 h → aw G (rm_R 2 0 0) m_Reader_readRow 0 0 50 [some (av_R (some 2)), some (av_I v1), none] [] h Q := by
  have key : ∀ (n : Nat) (v1 : Int) (h : ah_T), hb s h → I v1 h → μ v1 h < n → aw G (rm_R 2 0 0) m_Reader_readRow 0 0 50 [some (av_R (some 2)), some (av_I v1), none] [] h Q := by
    intro n
    induction n with
    | zero => intro v1 h  hb0 hi hm; omega
    | succ n ih => intro v1 h  hb0 hi hm; exact b_Reader_readRow_50  (fun v1' h'  hb' hx => ih v1' h'  hb' hx.1 (by have := hx.2; omega))  hb0 (hI v1 h  hb0 hi)
  exact fun v1 h  hb0 hi => key _ v1 h  hb0 hi (Nat.lt_succ_self _)
def B_Reader_readRow_0 (G : cx_T) (s : Nat) (h : ah_T) (Q : Option av_T → ah_T → Prop) (X50 : Int → ah_T → Prop) : Prop :=
 ∀ x2 : Int, x2 = h.2.1 s 12 → -2147483648 ≤ x2 → x2 ≤ 2147483647 → ((x2 ≤ 0 → con G 0 0 0 m_Tokens_next [av_R (some 3)] h (fun r h4 => r = none ∧ hb s h4 ∧ ∀ x8 : Int, x8 = h4.2.1 3 9 → -2147483648 ≤ x8 → x8 ≤ 2147483647 → ((x8 = 260 → X50 (0) h4) ∧ (¬ x8 = 260 → con G 0 0 0 m_Reader_refuse [av_R (some 2)] h4 (fun r h9 => ∃ z11 : Int, r = some (av_I z11) ∧ hb s h9 ∧ (z11 = 0 ∨ z11 = 1) ∧ Q (some (av_I z11)) h9))))) ∧ (¬ x2 ≤ 0 → ∀ x13 : Int, x13 = h.2.1 3 10 → -2147483648 ≤ x13 → x13 ≤ 2147483647 → con G 0 0 0 m_Reader_blame [av_R (some 2), av_I 4, av_I x13] h (fun r h14 => ∃ z16 : Int, r = some (av_I z16) ∧ hb s h14 ∧ (z16 = 0 ∨ z16 = 1) ∧ Q (some (av_I z16)) h14)))
theorem b_Reader_readRow_0 {G : cx_T} {s : Nat} {h : ah_T} {Q : Option av_T → ah_T → Prop} {X50 : Int → ah_T → Prop} (hX50 : ∀ (v1 : Int) (h : ah_T), hb s h → X50 v1 h → aw G (rm_R 2 0 0) m_Reader_readRow 0 0 50 [some (av_R (some 2)), some (av_I v1), none] [] h Q) (hb0 : hb s h) (H : B_Reader_readRow_0 G s h Q X50) : aw G (rm_R 2 0 0) m_Reader_readRow 0 0 0 [some (av_R (some 2)), none, none] [] h Q := by
  unfold B_Reader_readRow_0 at H
  have hS : isS s := hb0.2.1
  refine A_aload_n 0 d_Reader_readRow_0 rfl rfl ?_
  refine A_getOv (z := some s) T_ok d_Reader_readRow_1 f_Reader_32 (hb_s hb0 sf_2) hb0.2.2.2.1 ?_
  refine A_getIf T_ok d_Reader_readRow_4 f_Reader_128 (hs_S hb0 hS) (fun x2 ex2 lx2 ux2 => ?_)
  replace H := H x2 ex2 lx2 ux2
  refine A_if_le (tgt := 23) d_Reader_readRow_7 (by decide) (fun c => ?_) (fun c => ?_)
  · replace H := H.1 c
    refine A_aload_n 0 d_Reader_readRow_23 rfl rfl ?_
    refine A_getOv (z := some 3) T_ok d_Reader_readRow_24 f_Reader_12 (hb_s hb0 sf_2) (hb_r hb0 rff_2_0) ?_
    refine A_callV0 m_Tokens_next T_ok d_Reader_readRow_27 l_Reader_78 k_Tokens_next (hb_s hb0 sf_3) rfl (by decide +kernel) (by decide) (Nat.le_of_ble_eq_true rfl) H (fun r h4 hq => ?_)
    clear H
    obtain ⟨rfl, hb5, H⟩ := hq
    refine A_aload_n 0 d_Reader_readRow_30 rfl rfl ?_
    refine A_getOv (z := some 3) T_ok d_Reader_readRow_31 f_Reader_12 (hb_s hb5 sf_2) (hb_r hb5 rff_2_0) ?_
    refine A_getIf T_ok d_Reader_readRow_34 f_Reader_50 (hb_s hb5 sf_3) (fun x8 ex8 lx8 ux8 => ?_)
    replace H := H x8 ex8 lx8 ux8
    refine A_sipush d_Reader_readRow_37 rfl ?_
    refine A_icmp_eq (tgt := 48) d_Reader_readRow_40 (by decide) (fun c => ?_) (fun c => ?_)
    · replace H := H.1 c
      refine A_iconst d_Reader_readRow_48 rfl ?_
      refine A_istore_n 1 (L' := [some (av_R (some 2)), some (av_I 0), none]) d_Reader_readRow_49 rfl (Nat.le_of_ble_eq_true rfl) rfl ?_
      refine A_pc (pc' := 50) rfl ?_
      exact hX50 (0) h4  hb5 H
    · replace H := H.2 c
      refine A_aload_n 0 d_Reader_readRow_43 rfl rfl ?_
      refine A_callV0 m_Reader_refuse T_ok d_Reader_readRow_44 l_Reader_69 k_Reader_refuse (hb_s hb5 sf_2) rfl (by decide +kernel) (by decide) (Nat.le_of_ble_eq_true rfl) H (fun r h9 hq => ?_)
      clear H
      obtain ⟨z11, rfl, hb10, H⟩ := hq
      exact A_zret d_Reader_readRow_47 (by decide) rfl H.1 H.2
  · replace H := H.2 c
    refine A_aload_n 0 d_Reader_readRow_10 rfl rfl ?_
    refine A_iconst d_Reader_readRow_11 rfl ?_
    refine A_aload_n 0 d_Reader_readRow_12 rfl rfl ?_
    refine A_getOv (z := some 3) T_ok d_Reader_readRow_13 f_Reader_12 (hb_s hb0 sf_2) (hb_r hb0 rff_2_0) ?_
    refine A_getIf T_ok d_Reader_readRow_16 f_Reader_75 (hb_s hb0 sf_3) (fun x13 ex13 lx13 ux13 => ?_)
    replace H := H x13 ex13 lx13 ux13
    refine A_pc (pc' := 19) rfl ?_
    refine A_callV2 m_Reader_blame T_ok d_Reader_readRow_19 l_Reader_91 k_Reader_blame (hb_s hb0 sf_2) rfl (by decide +kernel) (by decide) (Nat.le_of_ble_eq_true rfl) H (fun r h14 hq => ?_)
    clear H
    obtain ⟨z16, rfl, hb15, H⟩ := hq
    exact A_zret d_Reader_readRow_22 (by decide) rfl H.1 H.2
theorem c_Reader_readRow {G : cx_T} {s : Nat} {h : ah_T} {Q : Option av_T → ah_T → Prop} {X50 : Int → ah_T → Prop} (hX50 : ∀ (v1 : Int) (h : ah_T), hb s h → X50 v1 h → aw G (rm_R 2 0 0) m_Reader_readRow 0 0 50 [some (av_R (some 2)), some (av_I v1), none] [] h Q) (hb0 : hb s h) (H : B_Reader_readRow_0 G s h Q X50) : con G 2 0 0 m_Reader_readRow [av_R (some 2)] h Q := by
  have hS : isS s := hb0.2.1
  refine con_of (L := [some (av_R (some 2)), none, none]) (by decide +kernel) (Nat.le_of_ble_eq_true rfl) rfl ?_
  exact b_Reader_readRow_0  hX50 hb0 (H )
def B_Reader_isShallow_32 (G : cx_T) (s : Nat) (t0 : Int) (h : ah_T) (Q : Option av_T → ah_T → Prop) : Prop :=
 (t0 = 0 ∨ t0 = 1) ∧ Q (some (av_I t0)) h
theorem b_Reader_isShallow_32 {G : cx_T} {s : Nat} {t0 : Int} {h : ah_T} {Q : Option av_T → ah_T → Prop} (hb0 : hb s h) (H : B_Reader_isShallow_32 G s t0 h Q ) : aw G (rm_R 1 0 0) m_Reader_isShallow 0 0 32 [none] [av_I t0] h Q := by
  unfold B_Reader_isShallow_32 at H
  have hS : isS s := hb0.2.1
  exact A_zret d_Reader_isShallow_32 (by decide) rfl H.1 H.2
def B_Reader_isShallow_27 (G : cx_T) (s : Nat) (h : ah_T) (Q : Option av_T → ah_T → Prop) : Prop :=
 B_Reader_isShallow_32 G s (1) h Q 
theorem b_Reader_isShallow_27 {G : cx_T} {s : Nat} {h : ah_T} {Q : Option av_T → ah_T → Prop} (hb0 : hb s h) (H : B_Reader_isShallow_27 G s h Q ) : aw G (rm_R 1 0 0) m_Reader_isShallow 0 0 27 [none] [] h Q := by
  unfold B_Reader_isShallow_27 at H
  have hS : isS s := hb0.2.1
  refine A_iconst d_Reader_isShallow_27 rfl ?_
  refine A_goto (tgt := 32) d_Reader_isShallow_28 (by decide) ?_
  refine A_pc (pc' := 32) rfl ?_
  exact b_Reader_isShallow_32    hb0 H
def B_Reader_isShallow_0 (G : cx_T) (s : Nat) (h : ah_T) (Q : Option av_T → ah_T → Prop) : Prop :=
 ∀ x2 : Int, x2 = h.2.1 9 7 → -2147483648 ≤ x2 → x2 ≤ 2147483647 → ((x2 ≤ 6 → B_Reader_isShallow_27 G s h Q ) ∧ (¬ x2 ≤ 6 → ∀ x4 : Int, x4 = h.2.1 3 10 → -2147483648 ≤ x4 → x4 ≤ 2147483647 → con G 0 0 0 m_Reader_blame [av_R (some 2), av_I 3, av_I x4] h (fun r h5 => ∃ z7 : Int, r = some (av_I z7) ∧ hb s h5 ∧ ((z7 = 0 → B_Reader_isShallow_32 G s (0) h5 Q ) ∧ (¬ z7 = 0 → B_Reader_isShallow_27 G s h5 Q )))))
theorem b_Reader_isShallow_0 {G : cx_T} {s : Nat} {h : ah_T} {Q : Option av_T → ah_T → Prop} (hb0 : hb s h) (H : B_Reader_isShallow_0 G s h Q ) : aw G (rm_R 1 0 0) m_Reader_isShallow 0 0 0 [some (av_R (some 2))] [] h Q := by
  unfold B_Reader_isShallow_0 at H
  have hS : isS s := hb0.2.1
  refine A_aload_n 0 d_Reader_isShallow_0 rfl rfl ?_
  refine A_getOv (z := some 9) T_ok d_Reader_isShallow_1 f_Reader_21 (hb_s hb0 sf_2) (hb_r hb0 rff_2_1) ?_
  refine A_getIf T_ok d_Reader_isShallow_4 f_Reader_156 (hb_s hb0 sf_9) (fun x2 ex2 lx2 ux2 => ?_)
  replace H := H x2 ex2 lx2 ux2
  refine A_bipush d_Reader_isShallow_7 rfl ?_
  refine A_icmp_le (tgt := 27) d_Reader_isShallow_9 (by decide) (fun c => ?_) (fun c => ?_)
  · replace H := H.1 c
    refine A_pc (pc' := 27) rfl ?_
    refine A_free (L' := [none]) trivial ?_
    exact b_Reader_isShallow_27    hb0 H
  · replace H := H.2 c
    refine A_aload_n 0 d_Reader_isShallow_12 rfl rfl ?_
    refine A_iconst d_Reader_isShallow_13 rfl ?_
    refine A_aload_n 0 d_Reader_isShallow_14 rfl rfl ?_
    refine A_getOv (z := some 3) T_ok d_Reader_isShallow_15 f_Reader_12 (hb_s hb0 sf_2) (hb_r hb0 rff_2_0) ?_
    refine A_getIf T_ok d_Reader_isShallow_18 f_Reader_75 (hb_s hb0 sf_3) (fun x4 ex4 lx4 ux4 => ?_)
    replace H := H x4 ex4 lx4 ux4
    refine A_pc (pc' := 21) rfl ?_
    refine A_callV2 m_Reader_blame T_ok d_Reader_isShallow_21 l_Reader_91 k_Reader_blame (hb_s hb0 sf_2) rfl (by decide +kernel) (by decide) (Nat.le_of_ble_eq_true rfl) H (fun r h5 hq => ?_)
    clear H
    obtain ⟨z7, rfl, hb6, H⟩ := hq
    refine A_if_eq (tgt := 31) d_Reader_isShallow_24 (by decide) (fun c => ?_) (fun c => ?_)
    · replace H := H.1 c
      refine A_iconst d_Reader_isShallow_31 rfl ?_
      refine A_pc (pc' := 32) rfl ?_
      refine A_free (L' := [none]) trivial ?_
      exact b_Reader_isShallow_32    hb6 H
    · replace H := H.2 c
      refine A_pc (pc' := 27) rfl ?_
      refine A_free (L' := [none]) trivial ?_
      exact b_Reader_isShallow_27    hb6 H
theorem c_Reader_isShallow {G : cx_T} {s : Nat} {h : ah_T} {Q : Option av_T → ah_T → Prop} (hb0 : hb s h) (H : B_Reader_isShallow_0 G s h Q ) : con G 1 0 0 m_Reader_isShallow [av_R (some 2)] h Q := by
  have hS : isS s := hb0.2.1
  refine con_of (L := [some (av_R (some 2))]) (by decide +kernel) (Nat.le_of_ble_eq_true rfl) rfl ?_
  exact b_Reader_isShallow_0   hb0 (H )
def B_Reader_beginsEvent_43 (G : cx_T) (s : Nat) (t0 : Int) (h : ah_T) (Q : Option av_T → ah_T → Prop) : Prop :=
 (t0 = 0 ∨ t0 = 1) ∧ Q (some (av_I t0)) h
theorem b_Reader_beginsEvent_43 {G : cx_T} {s : Nat} {t0 : Int} {h : ah_T} {Q : Option av_T → ah_T → Prop} (hb0 : hb s h) (H : B_Reader_beginsEvent_43 G s t0 h Q ) : aw G (rm_R 0 0 0) m_Reader_beginsEvent 0 0 43 [none] [av_I t0] h Q := by
  unfold B_Reader_beginsEvent_43 at H
  have hS : isS s := hb0.2.1
  exact A_zret d_Reader_beginsEvent_43 (by decide) rfl H.1 H.2
def B_Reader_beginsEvent_38 (G : cx_T) (s : Nat) (h : ah_T) (Q : Option av_T → ah_T → Prop) : Prop :=
 B_Reader_beginsEvent_43 G s (1) h Q 
theorem b_Reader_beginsEvent_38 {G : cx_T} {s : Nat} {h : ah_T} {Q : Option av_T → ah_T → Prop} (hb0 : hb s h) (H : B_Reader_beginsEvent_38 G s h Q ) : aw G (rm_R 0 0 0) m_Reader_beginsEvent 0 0 38 [none] [] h Q := by
  unfold B_Reader_beginsEvent_38 at H
  have hS : isS s := hb0.2.1
  refine A_iconst d_Reader_beginsEvent_38 rfl ?_
  refine A_goto (tgt := 43) d_Reader_beginsEvent_39 (by decide) ?_
  refine A_pc (pc' := 43) rfl ?_
  exact b_Reader_beginsEvent_43    hb0 H
def B_Reader_beginsEvent_0 (G : cx_T) (s : Nat) (h : ah_T) (Q : Option av_T → ah_T → Prop) : Prop :=
 ∀ x2 : Int, x2 = h.2.1 3 9 → -2147483648 ≤ x2 → x2 ≤ 2147483647 → ((x2 = 258 → B_Reader_beginsEvent_38 G s h Q ) ∧ (¬ x2 = 258 → ((x2 = 266 → B_Reader_beginsEvent_38 G s h Q ) ∧ (¬ x2 = 266 → ((x2 = 60 → B_Reader_beginsEvent_38 G s h Q ) ∧ (¬ x2 = 60 → B_Reader_beginsEvent_43 G s (0) h Q ))))))
theorem b_Reader_beginsEvent_0 {G : cx_T} {s : Nat} {h : ah_T} {Q : Option av_T → ah_T → Prop} (hb0 : hb s h) (H : B_Reader_beginsEvent_0 G s h Q ) : aw G (rm_R 0 0 0) m_Reader_beginsEvent 0 0 0 [some (av_R (some 2))] [] h Q := by
  unfold B_Reader_beginsEvent_0 at H
  have hS : isS s := hb0.2.1
  refine A_aload_n 0 d_Reader_beginsEvent_0 rfl rfl ?_
  refine A_getOv (z := some 3) T_ok d_Reader_beginsEvent_1 f_Reader_12 (hb_s hb0 sf_2) (hb_r hb0 rff_2_0) ?_
  refine A_getIf T_ok d_Reader_beginsEvent_4 f_Reader_50 (hb_s hb0 sf_3) (fun x2 ex2 lx2 ux2 => ?_)
  replace H := H x2 ex2 lx2 ux2
  refine A_sipush d_Reader_beginsEvent_7 rfl ?_
  refine A_icmp_eq (tgt := 38) d_Reader_beginsEvent_10 (by decide) (fun c => ?_) (fun c => ?_)
  · replace H := H.1 c
    refine A_pc (pc' := 38) rfl ?_
    refine A_free (L' := [none]) trivial ?_
    exact b_Reader_beginsEvent_38    hb0 H
  · replace H := H.2 c
    refine A_aload_n 0 d_Reader_beginsEvent_13 rfl rfl ?_
    refine A_getOv (z := some 3) T_ok d_Reader_beginsEvent_14 f_Reader_12 (hb_s hb0 sf_2) (hb_r hb0 rff_2_0) ?_
    refine A_getIv (z := x2) T_ok d_Reader_beginsEvent_17 f_Reader_50 (hb_s hb0 sf_3) ex2.symm ?_
    refine A_sipush d_Reader_beginsEvent_20 rfl ?_
    refine A_icmp_eq (tgt := 38) d_Reader_beginsEvent_23 (by decide) (fun c => ?_) (fun c => ?_)
    · replace H := H.1 c
      refine A_pc (pc' := 38) rfl ?_
      refine A_free (L' := [none]) trivial ?_
      exact b_Reader_beginsEvent_38    hb0 H
    · replace H := H.2 c
      refine A_aload_n 0 d_Reader_beginsEvent_26 rfl rfl ?_
      refine A_getOv (z := some 3) T_ok d_Reader_beginsEvent_27 f_Reader_12 (hb_s hb0 sf_2) (hb_r hb0 rff_2_0) ?_
      refine A_getIv (z := x2) T_ok d_Reader_beginsEvent_30 f_Reader_50 (hb_s hb0 sf_3) ex2.symm ?_
      refine A_bipush d_Reader_beginsEvent_33 rfl ?_
      refine A_icmp_ne (tgt := 42) d_Reader_beginsEvent_35 (by decide) (fun c => ?_) (fun c => ?_)
      · replace H := H.2 c
        refine A_iconst d_Reader_beginsEvent_42 rfl ?_
        refine A_pc (pc' := 43) rfl ?_
        refine A_free (L' := [none]) trivial ?_
        exact b_Reader_beginsEvent_43    hb0 H
      · replace H := H.1 c
        refine A_pc (pc' := 38) rfl ?_
        refine A_free (L' := [none]) trivial ?_
        exact b_Reader_beginsEvent_38    hb0 H
theorem c_Reader_beginsEvent {G : cx_T} {s : Nat} {h : ah_T} {Q : Option av_T → ah_T → Prop} (hb0 : hb s h) (H : B_Reader_beginsEvent_0 G s h Q ) : con G 0 0 0 m_Reader_beginsEvent [av_R (some 2)] h Q := by
  have hS : isS s := hb0.2.1
  refine con_of (L := [some (av_R (some 2))]) (by decide +kernel) (Nat.le_of_ble_eq_true rfl) rfl ?_
  exact b_Reader_beginsEvent_0   hb0 (H )
def B_Reader_admit_0 (G : cx_T) (s : Nat) (h : ah_T) (Q : Option av_T → ah_T → Prop) : Prop :=
 ∀ x1 : Int, x1 = h.2.1 2 4 → -2147483648 ≤ x1 → x1 ≤ 2147483647 → ((x1 < 300 → ((-2147483648) ≤ (x1 + 1) ∧ (x1 + 1) ≤ 2147483647) ∧ ∀ h4 : ah_T, h4 = st_i h 2 4 (x1 + 1) → con G 0 0 0 m_Tokens_next [av_R (some 3)] h4 (fun r h7 => r = none ∧ hb s h7 ∧ Q (some (av_I 1)) h7)) ∧ (¬ x1 < 300 → ∀ x11 : Int, x11 = h.2.1 3 10 → -2147483648 ≤ x11 → x11 ≤ 2147483647 → con G 0 0 0 m_Reader_blame [av_R (some 2), av_I 3, av_I x11] h (fun r h12 => ∃ z14 : Int, r = some (av_I z14) ∧ hb s h12 ∧ (z14 = 0 ∨ z14 = 1) ∧ Q (some (av_I z14)) h12)))
theorem b_Reader_admit_0 {G : cx_T} {s : Nat} {h : ah_T} {Q : Option av_T → ah_T → Prop} (hb0 : hb s h) (H : B_Reader_admit_0 G s h Q ) : aw G (rm_R 1 0 0) m_Reader_admit 0 0 0 [some (av_R (some 2))] [] h Q := by
  unfold B_Reader_admit_0 at H
  have hS : isS s := hb0.2.1
  refine A_aload_n 0 d_Reader_admit_0 rfl rfl ?_
  refine A_getIf T_ok d_Reader_admit_1 f_Reader_140 (hb_s hb0 sf_2) (fun x1 ex1 lx1 ux1 => ?_)
  replace H := H x1 ex1 lx1 ux1
  refine A_sipush d_Reader_admit_4 rfl ?_
  refine A_icmp_lt (tgt := 23) d_Reader_admit_7 (by decide) (fun c => ?_) (fun c => ?_)
  · replace H := H.1 c
    refine A_aload_n 0 d_Reader_admit_23 rfl rfl ?_
    refine A_dupR d_Reader_admit_24 ?_
    refine A_getIv (z := x1) T_ok d_Reader_admit_25 f_Reader_140 (hb_s hb0 sf_2) ex1.symm ?_
    refine A_iconst d_Reader_admit_28 rfl ?_
    have g3 := H.1
    replace H := H.2
    refine A_iaddv (z := (x1 + 1)) d_Reader_admit_29 (w32_to (by omega) (by unfold i32; omega)) ?_
    refine A_pc (pc' := 30) rfl ?_
    refine A_putI T_ok d_Reader_admit_30 f_Reader_140 (hb_s hb0 sf_2) fin_f ?_
    refine A_hn (fun h4 eh4 => ?_)
    have hb5 := hb_i hb0 eh4
    replace H := H h4 eh4
    refine A_aload_n 0 d_Reader_admit_33 rfl rfl ?_
    refine A_getOv (z := some 3) T_ok d_Reader_admit_34 f_Reader_12 (hb_s hb5 sf_2) (hb_r hb5 rff_2_0) ?_
    refine A_callV0 m_Tokens_next T_ok d_Reader_admit_37 l_Reader_78 k_Tokens_next (hb_s hb5 sf_3) rfl (by decide +kernel) (by decide) (Nat.le_of_ble_eq_true rfl) H (fun r h7 hq => ?_)
    clear H
    obtain ⟨rfl, hb8, H⟩ := hq
    refine A_iconst d_Reader_admit_40 rfl ?_
    exact A_zret d_Reader_admit_41 (by decide) rfl (by decide) H
  · replace H := H.2 c
    refine A_aload_n 0 d_Reader_admit_10 rfl rfl ?_
    refine A_iconst d_Reader_admit_11 rfl ?_
    refine A_aload_n 0 d_Reader_admit_12 rfl rfl ?_
    refine A_getOv (z := some 3) T_ok d_Reader_admit_13 f_Reader_12 (hb_s hb0 sf_2) (hb_r hb0 rff_2_0) ?_
    refine A_getIf T_ok d_Reader_admit_16 f_Reader_75 (hb_s hb0 sf_3) (fun x11 ex11 lx11 ux11 => ?_)
    replace H := H x11 ex11 lx11 ux11
    refine A_pc (pc' := 19) rfl ?_
    refine A_callV2 m_Reader_blame T_ok d_Reader_admit_19 l_Reader_91 k_Reader_blame (hb_s hb0 sf_2) rfl (by decide +kernel) (by decide) (Nat.le_of_ble_eq_true rfl) H (fun r h12 hq => ?_)
    clear H
    obtain ⟨z14, rfl, hb13, H⟩ := hq
    exact A_zret d_Reader_admit_22 (by decide) rfl H.1 H.2
theorem c_Reader_admit {G : cx_T} {s : Nat} {h : ah_T} {Q : Option av_T → ah_T → Prop} (hb0 : hb s h) (H : B_Reader_admit_0 G s h Q ) : con G 1 0 0 m_Reader_admit [av_R (some 2)] h Q := by
  have hS : isS s := hb0.2.1
  refine con_of (L := [some (av_R (some 2))]) (by decide +kernel) (Nat.le_of_ble_eq_true rfl) rfl ?_
  exact b_Reader_admit_0   hb0 (H )
def B_Reader_readSound_180 (G : cx_T) (s : Nat) (a1 : Nat) (h : ah_T) (Q : Option av_T → ah_T → Prop) : Prop :=
 con G 1 0 0 m_Reader_take [av_R (some 2), av_I 62] h (fun r h1 => ∃ z3 : Int, r = some (av_I z3) ∧ hb s h1 ∧ (z3 = 0 ∨ z3 = 1) ∧ Q (some (av_I z3)) h1)
theorem b_Reader_readSound_180 {G : cx_T} {s : Nat} {a1 : Nat} (ha1 : isV a1) {h : ah_T} {Q : Option av_T → ah_T → Prop} (hb0 : hb s h) (H : B_Reader_readSound_180 G s a1 h Q ) : aw G (rm_R 2 0 0) m_Reader_readSound 0 0 180 [some (av_R (some 2)), none, none, none, none, none] [] h Q := by
  unfold B_Reader_readSound_180 at H
  have hS : isS s := hb0.2.1
  refine A_aload_n 0 d_Reader_readSound_180 rfl rfl ?_
  refine A_bipush d_Reader_readSound_181 rfl ?_
  refine A_callV1 m_Reader_take T_ok d_Reader_readSound_183 l_Reader_103 k_Reader_take (hb_s hb0 sf_2) rfl (by decide +kernel) (by decide) (Nat.le_of_ble_eq_true rfl) H (fun r h1 hq => ?_)
  clear H
  obtain ⟨z3, rfl, hb2, H⟩ := hq
  exact A_zret d_Reader_readSound_186 (by decide) rfl H.1 H.2
def B_Reader_readSound_85 (G : cx_T) (s : Nat) (a1 : Nat) (v2 : Int) (v3 : Int) (h : ah_T) (Q : Option av_T → ah_T → Prop) (X85 : Int → Int → ah_T → Prop) : Prop :=
 ((4 < v3 → B_Reader_readSound_180 G s a1 h Q ) ∧ (¬ 4 < v3 → ∀ x2 : Int, x2 = h.2.1 3 9 → -2147483648 ≤ x2 → x2 ≤ 2147483647 → ((x2 = 258 → ∀ x4 : Int, x4 = h.2.1 3 10 → -2147483648 ≤ x4 → x4 ≤ 2147483647 → ∀ x6 : Int, x6 = h.2.2.1 3 11 → -9223372036854775808 ≤ x6 → x6 ≤ 9223372036854775807 → ((-2147483648) ≤ x6 ∧ x6 ≤ 2147483647) ∧ ((v3 = 4 → con G 0 0 0 m_Reader_blame [av_R (some 2), av_I 3, av_I x4] h (fun r h20 => ∃ z22 : Int, r = some (av_I z22) ∧ hb s h20 ∧ (z22 = 0 ∨ z22 = 1) ∧ Q (some (av_I z22)) h20)) ∧ (¬ v3 = 4 → ∀ x9 : Int, x9 = h.2.1 3 12 → -2147483648 ≤ x9 → x9 ≤ 2147483647 → con G 0 0 0 m_Voice_addPitch [av_R (some a1), av_I x6, av_I x9] h (fun r h10 => r = none ∧ hb s h10 ∧ con G 1 0 0 m_Reader_admit [av_R (some 2)] h10 (fun r h13 => ∃ z15 : Int, r = some (av_I z15) ∧ hb s h13 ∧ ((z15 = 0 → Q (some (av_I 0)) h13) ∧ (¬ z15 = 0 → ((v2 < x6 → ((-2147483648) ≤ (v3 + 1) ∧ (v3 + 1) ≤ 2147483647) ∧ X85 (x6) ((v3 + 1)) h13) ∧ (¬ v2 < x6 → con G 0 0 0 m_Reader_blame [av_R (some 2), av_I 4, av_I x4] h13 (fun r h17 => ∃ z19 : Int, r = some (av_I z19) ∧ hb s h17 ∧ (z19 = 0 ∨ z19 = 1) ∧ Q (some (av_I z19)) h17)))))))))) ∧ (¬ x2 = 258 → B_Reader_readSound_180 G s a1 h Q ))))
theorem b_Reader_readSound_85 {G : cx_T} {s : Nat} {a1 : Nat} (ha1 : isV a1) {v2 : Int} {v3 : Int} {h : ah_T} {Q : Option av_T → ah_T → Prop} {X85 : Int → Int → ah_T → Prop} (hX85 : ∀ (v2 : Int) (v3 : Int) (h : ah_T), hb s h → X85 v2 v3 h → aw G (rm_R 2 0 0) m_Reader_readSound 0 0 85 [some (av_R (some 2)), some (av_R (some a1)), some (av_I v2), some (av_I v3), none, none] [] h Q) (hb0 : hb s h) (H : B_Reader_readSound_85 G s a1 v2 v3 h Q X85) : aw G (rm_R 2 0 0) m_Reader_readSound 0 0 85 [some (av_R (some 2)), some (av_R (some a1)), some (av_I v2), some (av_I v3), none, none] [] h Q := by
  unfold B_Reader_readSound_85 at H
  have hS : isS s := hb0.2.1
  refine A_iload_n 3 d_Reader_readSound_85 rfl rfl ?_
  refine A_iconst d_Reader_readSound_86 rfl ?_
  refine A_icmp_gt (tgt := 180) d_Reader_readSound_87 (by decide) (fun c => ?_) (fun c => ?_)
  · replace H := H.1 c
    refine A_pc (pc' := 180) rfl ?_
    refine A_free (L' := [some (av_R (some 2)), none, none, none, none, none]) (And.intro rfl trivial) ?_
    exact b_Reader_readSound_180 ha1   hb0 H
  · replace H := H.2 c
    refine A_aload_n 0 d_Reader_readSound_90 rfl rfl ?_
    refine A_getOv (z := some 3) T_ok d_Reader_readSound_91 f_Reader_12 (hb_s hb0 sf_2) (hb_r hb0 rff_2_0) ?_
    refine A_getIf T_ok d_Reader_readSound_94 f_Reader_50 (hb_s hb0 sf_3) (fun x2 ex2 lx2 ux2 => ?_)
    replace H := H x2 ex2 lx2 ux2
    refine A_sipush d_Reader_readSound_97 rfl ?_
    refine A_icmp_ne (tgt := 180) d_Reader_readSound_100 (by decide) (fun c => ?_) (fun c => ?_)
    · replace H := H.2 c
      refine A_pc (pc' := 180) rfl ?_
      refine A_free (L' := [some (av_R (some 2)), none, none, none, none, none]) (And.intro rfl trivial) ?_
      exact b_Reader_readSound_180 ha1   hb0 H
    · replace H := H.1 c
      refine A_aload_n 0 d_Reader_readSound_103 rfl rfl ?_
      refine A_getOv (z := some 3) T_ok d_Reader_readSound_104 f_Reader_12 (hb_s hb0 sf_2) (hb_r hb0 rff_2_0) ?_
      refine A_getIf T_ok d_Reader_readSound_107 f_Reader_75 (hb_s hb0 sf_3) (fun x4 ex4 lx4 ux4 => ?_)
      replace H := H x4 ex4 lx4 ux4
      refine A_istore (L' := [some (av_R (some 2)), some (av_R (some a1)), some (av_I v2), some (av_I v3), some (av_I x4), none]) d_Reader_readSound_110 (Nat.le_of_ble_eq_true rfl) rfl ?_
      refine A_aload_n 0 d_Reader_readSound_112 rfl rfl ?_
      refine A_pc (pc' := 113) rfl ?_
      refine A_getOv (z := some 3) T_ok d_Reader_readSound_113 f_Reader_12 (hb_s hb0 sf_2) (hb_r hb0 rff_2_0) ?_
      refine A_getLf T_ok d_Reader_readSound_116 f_Reader_81 (hb_s hb0 sf_3) (fun x6 ex6 lx6 ux6 => ?_)
      replace H := H x6 ex6 lx6 ux6
      have g7 := H.1
      replace H := H.2
      refine A_l2iv (z := x6) d_Reader_readSound_119 (w32_id (by unfold i32; omega)) ?_
      refine A_istore (L' := [some (av_R (some 2)), some (av_R (some a1)), some (av_I v2), some (av_I v3), some (av_I x4), some (av_I x6)]) d_Reader_readSound_120 (Nat.le_of_ble_eq_true rfl) rfl ?_
      refine A_iload_n 3 d_Reader_readSound_122 rfl rfl ?_
      refine A_iconst d_Reader_readSound_123 rfl ?_
      refine A_pc (pc' := 124) rfl ?_
      refine A_icmp_ne (tgt := 135) d_Reader_readSound_124 (by decide) (fun c => ?_) (fun c => ?_)
      · replace H := H.2 c
        refine A_aload_n 1 d_Reader_readSound_135 rfl rfl ?_
        refine A_iload d_Reader_readSound_136 rfl ?_
        refine A_aload_n 0 d_Reader_readSound_138 rfl rfl ?_
        refine A_getOv (z := some 3) T_ok d_Reader_readSound_139 f_Reader_12 (hb_s hb0 sf_2) (hb_r hb0 rff_2_0) ?_
        refine A_getIf T_ok d_Reader_readSound_142 f_Reader_184 (hb_s hb0 sf_3) (fun x9 ex9 lx9 ux9 => ?_)
        replace H := H x9 ex9 lx9 ux9
        refine A_pc (pc' := 145) rfl ?_
        refine A_callV2 m_Voice_addPitch T_ok d_Reader_readSound_145 l_Reader_187 k_Voice_addPitch (hs_V hb0 ha1) rfl (by decide +kernel) (by decide) (Nat.le_of_ble_eq_true rfl) H (fun r h10 hq => ?_)
        clear H
        obtain ⟨rfl, hb11, H⟩ := hq
        refine A_aload_n 0 d_Reader_readSound_148 rfl rfl ?_
        refine A_callV0 m_Reader_admit T_ok d_Reader_readSound_149 l_Reader_181 k_Reader_admit (hb_s hb11 sf_2) rfl (by decide +kernel) (by decide) (Nat.le_of_ble_eq_true rfl) H (fun r h13 hq => ?_)
        clear H
        obtain ⟨z15, rfl, hb14, H⟩ := hq
        refine A_if_ne (tgt := 157) d_Reader_readSound_152 (by decide) (fun c => ?_) (fun c => ?_)
        · replace H := H.2 c
          refine A_iload d_Reader_readSound_157 rfl ?_
          refine A_iload_n 2 d_Reader_readSound_159 rfl rfl ?_
          refine A_icmp_gt (tgt := 171) d_Reader_readSound_160 (by decide) (fun c => ?_) (fun c => ?_)
          · replace H := H.1 c
            refine A_iload d_Reader_readSound_171 rfl ?_
            refine A_istore_n 2 (L' := [some (av_R (some 2)), some (av_R (some a1)), some (av_I x6), some (av_I v3), some (av_I x4), some (av_I x6)]) d_Reader_readSound_173 rfl (Nat.le_of_ble_eq_true rfl) rfl ?_
            have g16 := H.1
            replace H := H.2
            refine A_iincv (z := (v3 + 1)) (L' := [some (av_R (some 2)), some (av_R (some a1)), some (av_I x6), some (av_I (v3 + 1)), some (av_I x4), some (av_I x6)]) d_Reader_readSound_174 rfl (w32_to (by omega) (by unfold i32; omega)) rfl ?_
            refine A_goto (tgt := 85) d_Reader_readSound_177 (by decide) ?_
            refine A_pc (pc' := 85) rfl ?_
            refine A_free (L' := [some (av_R (some 2)), some (av_R (some a1)), some (av_I x6), some (av_I (v3 + 1)), none, none]) (And.intro rfl (And.intro rfl (And.intro rfl (And.intro rfl trivial)))) ?_
            exact hX85 (x6) ((v3 + 1)) h13  hb14 H
          · replace H := H.2 c
            refine A_aload_n 0 d_Reader_readSound_163 rfl rfl ?_
            refine A_iconst d_Reader_readSound_164 rfl ?_
            refine A_iload d_Reader_readSound_165 rfl ?_
            refine A_callV2 m_Reader_blame T_ok d_Reader_readSound_167 l_Reader_91 k_Reader_blame (hb_s hb14 sf_2) rfl (by decide +kernel) (by decide) (Nat.le_of_ble_eq_true rfl) H (fun r h17 hq => ?_)
            clear H
            obtain ⟨z19, rfl, hb18, H⟩ := hq
            exact A_zret d_Reader_readSound_170 (by decide) rfl H.1 H.2
        · replace H := H.1 c
          refine A_iconst d_Reader_readSound_155 rfl ?_
          exact A_zret d_Reader_readSound_156 (by decide) rfl (by decide) H
      · replace H := H.1 c
        refine A_aload_n 0 d_Reader_readSound_127 rfl rfl ?_
        refine A_iconst d_Reader_readSound_128 rfl ?_
        refine A_iload d_Reader_readSound_129 rfl ?_
        refine A_callV2 m_Reader_blame T_ok d_Reader_readSound_131 l_Reader_91 k_Reader_blame (hb_s hb0 sf_2) rfl (by decide +kernel) (by decide) (Nat.le_of_ble_eq_true rfl) H (fun r h20 hq => ?_)
        clear H
        obtain ⟨z22, rfl, hb21, H⟩ := hq
        exact A_zret d_Reader_readSound_134 (by decide) rfl H.1 H.2
theorem lp_Reader_readSound_85 {G : cx_T} {s : Nat} {a1 : Nat} (ha1 : isV a1) {Q : Option av_T → ah_T → Prop} (I : Int → Int → ah_T → Prop) (μ : Int → Int → ah_T → Nat) (hI : ∀ (v2 : Int) (v3 : Int) (h : ah_T), hb s h → I v2 v3 h → B_Reader_readSound_85 G s a1 v2 v3 h Q (fun v2' v3' h' => I v2' v3' h' ∧ μ v2' v3' h' < μ v2 v3 h)) : ∀ (v2 : Int) (v3 : Int) (h : ah_T), hb s h → I v2 v3 h → aw G (rm_R 2 0 0) m_Reader_readSound 0 0 85 [some (av_R (some 2)), some (av_R (some a1)), some (av_I v2), some (av_I v3), none, none] [] h Q := by
  have key : ∀ (n : Nat) (v2 : Int) (v3 : Int) (h : ah_T), hb s h → I v2 v3 h → μ v2 v3 h < n → aw G (rm_R 2 0 0) m_Reader_readSound 0 0 85 [some (av_R (some 2)), some (av_R (some a1)), some (av_I v2), some (av_I v3), none, none] [] h Q := by
    intro n
    induction n with
    | zero => intro v2 v3 h  hb0 hi hm; omega
    | succ n ih => intro v2 v3 h  hb0 hi hm; exact b_Reader_readSound_85 ha1 (fun v2' v3' h'  hb' hx => ih v2' v3' h'  hb' hx.1 (by have := hx.2; omega))  hb0 (hI v2 v3 h  hb0 hi)
  exact fun v2 v3 h  hb0 hi => key _ v2 v3 h  hb0 hi (Nat.lt_succ_self _)
def B_Reader_readSound_0 (G : cx_T) (s : Nat) (a1 : Nat) (h : ah_T) (Q : Option av_T → ah_T → Prop) (X85 : Int → Int → ah_T → Prop) : Prop :=
 ∀ x2 : Int, x2 = h.2.1 3 9 → -2147483648 ≤ x2 → x2 ≤ 2147483647 → ((x2 = 266 → con G 1 0 0 m_Reader_admit [av_R (some 2)] h (fun r h25 => ∃ z27 : Int, r = some (av_I z27) ∧ hb s h25 ∧ (z27 = 0 ∨ z27 = 1) ∧ Q (some (av_I z27)) h25)) ∧ (¬ x2 = 266 → ((x2 = 258 → ∀ x15 : Int, x15 = h.2.2.1 3 11 → -9223372036854775808 ≤ x15 → x15 ≤ 9223372036854775807 → ((-2147483648) ≤ x15 ∧ x15 ≤ 2147483647) ∧ ∀ x18 : Int, x18 = h.2.1 3 12 → -2147483648 ≤ x18 → x18 ≤ 2147483647 → con G 0 0 0 m_Voice_addPitch [av_R (some a1), av_I x15, av_I x18] h (fun r h19 => r = none ∧ hb s h19 ∧ con G 1 0 0 m_Reader_admit [av_R (some 2)] h19 (fun r h22 => ∃ z24 : Int, r = some (av_I z24) ∧ hb s h22 ∧ (z24 = 0 ∨ z24 = 1) ∧ Q (some (av_I z24)) h22))) ∧ (¬ x2 = 258 → con G 0 0 0 m_Tokens_next [av_R (some 3)] h (fun r h6 => r = none ∧ hb s h6 ∧ ∀ x10 : Int, x10 = h6.2.1 3 9 → -2147483648 ≤ x10 → x10 ≤ 2147483647 → ((x10 = 258 → X85 ((-2147483648)) (0) h6) ∧ (¬ x10 = 258 → con G 0 0 0 m_Reader_refuse [av_R (some 2)] h6 (fun r h11 => ∃ z13 : Int, r = some (av_I z13) ∧ hb s h11 ∧ (z13 = 0 ∨ z13 = 1) ∧ Q (some (av_I z13)) h11))))))))
theorem b_Reader_readSound_0 {G : cx_T} {s : Nat} {a1 : Nat} (ha1 : isV a1) {h : ah_T} {Q : Option av_T → ah_T → Prop} {X85 : Int → Int → ah_T → Prop} (hX85 : ∀ (v2 : Int) (v3 : Int) (h : ah_T), hb s h → X85 v2 v3 h → aw G (rm_R 2 0 0) m_Reader_readSound 0 0 85 [some (av_R (some 2)), some (av_R (some a1)), some (av_I v2), some (av_I v3), none, none] [] h Q) (hb0 : hb s h) (H : B_Reader_readSound_0 G s a1 h Q X85) : aw G (rm_R 2 0 0) m_Reader_readSound 0 0 0 [some (av_R (some 2)), some (av_R (some a1)), none, none, none, none] [] h Q := by
  unfold B_Reader_readSound_0 at H
  have hS : isS s := hb0.2.1
  refine A_aload_n 0 d_Reader_readSound_0 rfl rfl ?_
  refine A_getOv (z := some 3) T_ok d_Reader_readSound_1 f_Reader_12 (hb_s hb0 sf_2) (hb_r hb0 rff_2_0) ?_
  refine A_getIf T_ok d_Reader_readSound_4 f_Reader_50 (hb_s hb0 sf_3) (fun x2 ex2 lx2 ux2 => ?_)
  replace H := H x2 ex2 lx2 ux2
  refine A_sipush d_Reader_readSound_7 rfl ?_
  refine A_icmp_ne (tgt := 18) d_Reader_readSound_10 (by decide) (fun c => ?_) (fun c => ?_)
  · replace H := H.2 c
    refine A_aload_n 0 d_Reader_readSound_18 rfl rfl ?_
    refine A_getOv (z := some 3) T_ok d_Reader_readSound_19 f_Reader_12 (hb_s hb0 sf_2) (hb_r hb0 rff_2_0) ?_
    refine A_getIv (z := x2) T_ok d_Reader_readSound_22 f_Reader_50 (hb_s hb0 sf_3) ex2.symm ?_
    refine A_sipush d_Reader_readSound_25 rfl ?_
    refine A_icmp_ne (tgt := 55) d_Reader_readSound_28 (by decide) (fun c => ?_) (fun c => ?_)
    · replace H := H.2 c
      refine A_aload_n 0 d_Reader_readSound_55 rfl rfl ?_
      refine A_getOv (z := some 3) T_ok d_Reader_readSound_56 f_Reader_12 (hb_s hb0 sf_2) (hb_r hb0 rff_2_0) ?_
      refine A_callV0 m_Tokens_next T_ok d_Reader_readSound_59 l_Reader_78 k_Tokens_next (hb_s hb0 sf_3) rfl (by decide +kernel) (by decide) (Nat.le_of_ble_eq_true rfl) H (fun r h6 hq => ?_)
      clear H
      obtain ⟨rfl, hb7, H⟩ := hq
      refine A_aload_n 0 d_Reader_readSound_62 rfl rfl ?_
      refine A_getOv (z := some 3) T_ok d_Reader_readSound_63 f_Reader_12 (hb_s hb7 sf_2) (hb_r hb7 rff_2_0) ?_
      refine A_getIf T_ok d_Reader_readSound_66 f_Reader_50 (hb_s hb7 sf_3) (fun x10 ex10 lx10 ux10 => ?_)
      replace H := H x10 ex10 lx10 ux10
      refine A_sipush d_Reader_readSound_69 rfl ?_
      refine A_icmp_eq (tgt := 80) d_Reader_readSound_72 (by decide) (fun c => ?_) (fun c => ?_)
      · replace H := H.1 c
        refine A_ldc (z := (-2147483648)) d_Reader_readSound_80 cst_Reader_190 rfl ?_
        refine A_istore_n 2 (L' := [some (av_R (some 2)), some (av_R (some a1)), some (av_I (-2147483648)), none, none, none]) d_Reader_readSound_82 rfl (Nat.le_of_ble_eq_true rfl) rfl ?_
        refine A_iconst d_Reader_readSound_83 rfl ?_
        refine A_istore_n 3 (L' := [some (av_R (some 2)), some (av_R (some a1)), some (av_I (-2147483648)), some (av_I 0), none, none]) d_Reader_readSound_84 rfl (Nat.le_of_ble_eq_true rfl) rfl ?_
        refine A_pc (pc' := 85) rfl ?_
        exact hX85 ((-2147483648)) (0) h6  hb7 H
      · replace H := H.2 c
        refine A_aload_n 0 d_Reader_readSound_75 rfl rfl ?_
        refine A_callV0 m_Reader_refuse T_ok d_Reader_readSound_76 l_Reader_69 k_Reader_refuse (hb_s hb7 sf_2) rfl (by decide +kernel) (by decide) (Nat.le_of_ble_eq_true rfl) H (fun r h11 hq => ?_)
        clear H
        obtain ⟨z13, rfl, hb12, H⟩ := hq
        exact A_zret d_Reader_readSound_79 (by decide) rfl H.1 H.2
    · replace H := H.1 c
      refine A_aload_n 1 d_Reader_readSound_31 rfl rfl ?_
      refine A_aload_n 0 d_Reader_readSound_32 rfl rfl ?_
      refine A_getOv (z := some 3) T_ok d_Reader_readSound_33 f_Reader_12 (hb_s hb0 sf_2) (hb_r hb0 rff_2_0) ?_
      refine A_getLf T_ok d_Reader_readSound_36 f_Reader_81 (hb_s hb0 sf_3) (fun x15 ex15 lx15 ux15 => ?_)
      replace H := H x15 ex15 lx15 ux15
      have g16 := H.1
      replace H := H.2
      refine A_l2iv (z := x15) d_Reader_readSound_39 (w32_id (by unfold i32; omega)) ?_
      refine A_pc (pc' := 40) rfl ?_
      refine A_aload_n 0 d_Reader_readSound_40 rfl rfl ?_
      refine A_getOv (z := some 3) T_ok d_Reader_readSound_41 f_Reader_12 (hb_s hb0 sf_2) (hb_r hb0 rff_2_0) ?_
      refine A_getIf T_ok d_Reader_readSound_44 f_Reader_184 (hb_s hb0 sf_3) (fun x18 ex18 lx18 ux18 => ?_)
      replace H := H x18 ex18 lx18 ux18
      refine A_callV2 m_Voice_addPitch T_ok d_Reader_readSound_47 l_Reader_187 k_Voice_addPitch (hs_V hb0 ha1) rfl (by decide +kernel) (by decide) (Nat.le_of_ble_eq_true rfl) H (fun r h19 hq => ?_)
      clear H
      obtain ⟨rfl, hb20, H⟩ := hq
      refine A_aload_n 0 d_Reader_readSound_50 rfl rfl ?_
      refine A_callV0 m_Reader_admit T_ok d_Reader_readSound_51 l_Reader_181 k_Reader_admit (hb_s hb20 sf_2) rfl (by decide +kernel) (by decide) (Nat.le_of_ble_eq_true rfl) H (fun r h22 hq => ?_)
      clear H
      obtain ⟨z24, rfl, hb23, H⟩ := hq
      exact A_zret d_Reader_readSound_54 (by decide) rfl H.1 H.2
  · replace H := H.1 c
    refine A_aload_n 0 d_Reader_readSound_13 rfl rfl ?_
    refine A_callV0 m_Reader_admit T_ok d_Reader_readSound_14 l_Reader_181 k_Reader_admit (hb_s hb0 sf_2) rfl (by decide +kernel) (by decide) (Nat.le_of_ble_eq_true rfl) H (fun r h25 hq => ?_)
    clear H
    obtain ⟨z27, rfl, hb26, H⟩ := hq
    exact A_zret d_Reader_readSound_17 (by decide) rfl H.1 H.2
theorem c_Reader_readSound {G : cx_T} {s : Nat} {a1 : Nat} (ha1 : isV a1) {h : ah_T} {Q : Option av_T → ah_T → Prop} {X85 : Int → Int → ah_T → Prop} (hX85 : ∀ (v2 : Int) (v3 : Int) (h : ah_T), hb s h → X85 v2 v3 h → aw G (rm_R 2 0 0) m_Reader_readSound 0 0 85 [some (av_R (some 2)), some (av_R (some a1)), some (av_I v2), some (av_I v3), none, none] [] h Q) (hb0 : hb s h) (H : B_Reader_readSound_0 G s a1 h Q X85) : con G 2 0 0 m_Reader_readSound [av_R (some 2), av_R (some a1)] h Q := by
  have hS : isS s := hb0.2.1
  refine con_of (L := [some (av_R (some 2)), some (av_R (some a1)), none, none, none, none]) (by decide +kernel) (Nat.le_of_ble_eq_true rfl) rfl ?_
  exact b_Reader_readSound_0 ha1 hX85 hb0 (H )
def B_Reader_readEvent_156 (G : cx_T) (s : Nat) (a1 : Nat) (v3 : Int) (v4 : Int) (v5 : Int) (h : ah_T) (Q : Option av_T → ah_T → Prop) : Prop :=
 con G 0 0 0 m_Voice_endSound [av_R (some a1), av_I v3, av_I v4, av_I v5] h (fun r h2 => ∃ z4 : Int, r = some (av_I z4) ∧ hb s h2 ∧ con G 0 0 0 m_Parts_add [av_R (some 9), av_I 256, av_I z4, av_I 0] h2 (fun r h5 => r = none ∧ hb s h5 ∧ Q (some (av_I 1)) h5))
theorem b_Reader_readEvent_156 {G : cx_T} {s : Nat} {a1 : Nat} (ha1 : isV a1) {v3 : Int} {v4 : Int} {v5 : Int} {h : ah_T} {Q : Option av_T → ah_T → Prop} (hb0 : hb s h) (H : B_Reader_readEvent_156 G s a1 v3 v4 v5 h Q ) : aw G (rm_R 3 0 0) m_Reader_readEvent 0 0 156 [some (av_R (some 2)), some (av_R (some a1)), none, some (av_I v3), some (av_I v4), some (av_I v5)] [] h Q := by
  unfold B_Reader_readEvent_156 at H
  have hS : isS s := hb0.2.1
  refine A_aload_n 0 d_Reader_readEvent_156 rfl rfl ?_
  refine A_getOv (z := some 9) T_ok d_Reader_readEvent_157 f_Reader_21 (hb_s hb0 sf_2) (hb_r hb0 rff_2_1) ?_
  refine A_sipush d_Reader_readEvent_160 rfl ?_
  refine A_aload_n 1 d_Reader_readEvent_163 rfl rfl ?_
  refine A_iload_n 3 d_Reader_readEvent_164 rfl rfl ?_
  refine A_pc (pc' := 165) rfl ?_
  refine A_iload d_Reader_readEvent_165 rfl ?_
  refine A_iload d_Reader_readEvent_167 rfl ?_
  refine A_callV3 m_Voice_endSound T_ok d_Reader_readEvent_169 l_Reader_175 k_Voice_endSound (hs_V hb0 ha1) rfl (by decide +kernel) (by decide) (Nat.le_of_ble_eq_true rfl) H (fun r h2 hq => ?_)
  clear H
  obtain ⟨z4, rfl, hb3, H⟩ := hq
  refine A_iconst d_Reader_readEvent_172 rfl ?_
  refine A_callV3 m_Parts_add T_ok d_Reader_readEvent_173 l_Reader_169 k_Parts_add (hb_s hb3 sf_9) rfl (by decide +kernel) (by decide) (Nat.le_of_ble_eq_true rfl) H (fun r h5 hq => ?_)
  clear H
  obtain ⟨rfl, hb6, H⟩ := hq
  refine A_iconst d_Reader_readEvent_176 rfl ?_
  exact A_zret d_Reader_readEvent_177 (by decide) rfl (by decide) H
def B_Reader_readEvent_144 (G : cx_T) (s : Nat) (a1 : Nat) (v3 : Int) (v4 : Int) (v5 : Int) (h : ah_T) (Q : Option av_T → ah_T → Prop) : Prop :=
 ((v5 = 0 → B_Reader_readEvent_156 G s a1 (v3) (v4) (v5) h Q ) ∧ (¬ v5 = 0 → con G 0 0 0 m_Tokens_next [av_R (some 3)] h (fun r h2 => r = none ∧ hb s h2 ∧ B_Reader_readEvent_156 G s a1 (v3) (v4) (v5) h2 Q )))
theorem b_Reader_readEvent_144 {G : cx_T} {s : Nat} {a1 : Nat} (ha1 : isV a1) {v3 : Int} {v4 : Int} {v5 : Int} {h : ah_T} {Q : Option av_T → ah_T → Prop} (hb0 : hb s h) (H : B_Reader_readEvent_144 G s a1 v3 v4 v5 h Q ) : aw G (rm_R 3 0 0) m_Reader_readEvent 0 0 144 [some (av_R (some 2)), some (av_R (some a1)), none, some (av_I v3), some (av_I v4), some (av_I v5)] [] h Q := by
  unfold B_Reader_readEvent_144 at H
  have hS : isS s := hb0.2.1
  refine A_iload d_Reader_readEvent_144 rfl ?_
  refine A_if_eq (tgt := 156) d_Reader_readEvent_146 (by decide) (fun c => ?_) (fun c => ?_)
  · replace H := H.1 c
    refine A_pc (pc' := 156) rfl ?_
    exact b_Reader_readEvent_156 ha1   hb0 H
  · replace H := H.2 c
    refine A_aload_n 0 d_Reader_readEvent_149 rfl rfl ?_
    refine A_getOv (z := some 3) T_ok d_Reader_readEvent_150 f_Reader_12 (hb_s hb0 sf_2) (hb_r hb0 rff_2_0) ?_
    refine A_callV0 m_Tokens_next T_ok d_Reader_readEvent_153 l_Reader_78 k_Tokens_next (hb_s hb0 sf_3) rfl (by decide +kernel) (by decide) (Nat.le_of_ble_eq_true rfl) H (fun r h2 hq => ?_)
    clear H
    obtain ⟨rfl, hb3, H⟩ := hq
    refine A_pc (pc' := 156) rfl ?_
    exact b_Reader_readEvent_156 ha1   hb3 H
def B_Reader_readEvent_119 (G : cx_T) (s : Nat) (a1 : Nat) (v2 : Int) (v3 : Int) (v4 : Int) (t0 : Int) (h : ah_T) (Q : Option av_T → ah_T → Prop) : Prop :=
 ((t0 = 0 → B_Reader_readEvent_144 G s a1 (v3) (v4) (t0) h Q ) ∧ (¬ t0 = 0 → ((v2 = 0 → B_Reader_readEvent_144 G s a1 (v3) (v4) (t0) h Q ) ∧ (¬ v2 = 0 → ∀ x2 : Int, x2 = h.2.1 3 10 → -2147483648 ≤ x2 → x2 ≤ 2147483647 → con G 0 0 0 m_Reader_blame [av_R (some 2), av_I 7, av_I x2] h (fun r h3 => ∃ z5 : Int, r = some (av_I z5) ∧ hb s h3 ∧ (z5 = 0 ∨ z5 = 1) ∧ Q (some (av_I z5)) h3)))))
theorem b_Reader_readEvent_119 {G : cx_T} {s : Nat} {a1 : Nat} (ha1 : isV a1) {v2 : Int} {v3 : Int} {v4 : Int} {t0 : Int} {h : ah_T} {Q : Option av_T → ah_T → Prop} (hb0 : hb s h) (H : B_Reader_readEvent_119 G s a1 v2 v3 v4 t0 h Q ) : aw G (rm_R 3 0 0) m_Reader_readEvent 0 0 119 [some (av_R (some 2)), some (av_R (some a1)), some (av_I v2), some (av_I v3), some (av_I v4), none] [av_I t0] h Q := by
  unfold B_Reader_readEvent_119 at H
  have hS : isS s := hb0.2.1
  refine A_istore (L' := [some (av_R (some 2)), some (av_R (some a1)), some (av_I v2), some (av_I v3), some (av_I v4), some (av_I t0)]) d_Reader_readEvent_119 (Nat.le_of_ble_eq_true rfl) rfl ?_
  refine A_iload d_Reader_readEvent_121 rfl ?_
  refine A_if_eq (tgt := 144) d_Reader_readEvent_123 (by decide) (fun c => ?_) (fun c => ?_)
  · replace H := H.1 c
    refine A_pc (pc' := 144) rfl ?_
    refine A_free (L' := [some (av_R (some 2)), some (av_R (some a1)), none, some (av_I v3), some (av_I v4), some (av_I t0)]) (And.intro rfl (And.intro rfl (And.intro rfl (And.intro rfl (And.intro rfl trivial))))) ?_
    exact b_Reader_readEvent_144 ha1   hb0 H
  · replace H := H.2 c
    refine A_iload_n 2 d_Reader_readEvent_126 rfl rfl ?_
    refine A_if_eq (tgt := 144) d_Reader_readEvent_127 (by decide) (fun c => ?_) (fun c => ?_)
    · replace H := H.1 c
      refine A_pc (pc' := 144) rfl ?_
      refine A_free (L' := [some (av_R (some 2)), some (av_R (some a1)), none, some (av_I v3), some (av_I v4), some (av_I t0)]) (And.intro rfl (And.intro rfl (And.intro rfl (And.intro rfl (And.intro rfl trivial))))) ?_
      exact b_Reader_readEvent_144 ha1   hb0 H
    · replace H := H.2 c
      refine A_aload_n 0 d_Reader_readEvent_130 rfl rfl ?_
      refine A_bipush d_Reader_readEvent_131 rfl ?_
      refine A_aload_n 0 d_Reader_readEvent_133 rfl rfl ?_
      refine A_getOv (z := some 3) T_ok d_Reader_readEvent_134 f_Reader_12 (hb_s hb0 sf_2) (hb_r hb0 rff_2_0) ?_
      refine A_getIf T_ok d_Reader_readEvent_137 f_Reader_75 (hb_s hb0 sf_3) (fun x2 ex2 lx2 ux2 => ?_)
      replace H := H x2 ex2 lx2 ux2
      refine A_pc (pc' := 140) rfl ?_
      refine A_callV2 m_Reader_blame T_ok d_Reader_readEvent_140 l_Reader_91 k_Reader_blame (hb_s hb0 sf_2) rfl (by decide +kernel) (by decide) (Nat.le_of_ble_eq_true rfl) H (fun r h3 hq => ?_)
      clear H
      obtain ⟨z5, rfl, hb4, H⟩ := hq
      exact A_zret d_Reader_readEvent_143 (by decide) rfl H.1 H.2
def B_Reader_readEvent_102 (G : cx_T) (s : Nat) (a1 : Nat) (v2 : Int) (v3 : Int) (v4 : Int) (h : ah_T) (Q : Option av_T → ah_T → Prop) : Prop :=
 ∀ x2 : Int, x2 = h.2.1 3 9 → -2147483648 ≤ x2 → x2 ≤ 2147483647 → ((x2 = 126 → B_Reader_readEvent_119 G s a1 (v2) (v3) (v4) (1) h Q ) ∧ (¬ x2 = 126 → B_Reader_readEvent_119 G s a1 (v2) (v3) (v4) (0) h Q ))
theorem b_Reader_readEvent_102 {G : cx_T} {s : Nat} {a1 : Nat} (ha1 : isV a1) {v2 : Int} {v3 : Int} {v4 : Int} {h : ah_T} {Q : Option av_T → ah_T → Prop} (hb0 : hb s h) (H : B_Reader_readEvent_102 G s a1 v2 v3 v4 h Q ) : aw G (rm_R 3 0 0) m_Reader_readEvent 0 0 102 [some (av_R (some 2)), some (av_R (some a1)), some (av_I v2), some (av_I v3), some (av_I v4), none] [] h Q := by
  unfold B_Reader_readEvent_102 at H
  have hS : isS s := hb0.2.1
  refine A_aload_n 0 d_Reader_readEvent_102 rfl rfl ?_
  refine A_getOv (z := some 3) T_ok d_Reader_readEvent_103 f_Reader_12 (hb_s hb0 sf_2) (hb_r hb0 rff_2_0) ?_
  refine A_getIf T_ok d_Reader_readEvent_106 f_Reader_50 (hb_s hb0 sf_3) (fun x2 ex2 lx2 ux2 => ?_)
  replace H := H x2 ex2 lx2 ux2
  refine A_bipush d_Reader_readEvent_109 rfl ?_
  refine A_icmp_ne (tgt := 118) d_Reader_readEvent_111 (by decide) (fun c => ?_) (fun c => ?_)
  · replace H := H.2 c
    refine A_iconst d_Reader_readEvent_118 rfl ?_
    refine A_pc (pc' := 119) rfl ?_
    exact b_Reader_readEvent_119 ha1   hb0 H
  · replace H := H.1 c
    refine A_iconst d_Reader_readEvent_114 rfl ?_
    refine A_goto (tgt := 119) d_Reader_readEvent_115 (by decide) ?_
    refine A_pc (pc' := 119) rfl ?_
    exact b_Reader_readEvent_119 ha1   hb0 H
def B_Reader_readEvent_49 (G : cx_T) (s : Nat) (a1 : Nat) (v2 : Int) (v3 : Int) (v4 : Int) (v5 : Int) (h : ah_T) (Q : Option av_T → ah_T → Prop) (X49 : Int → Int → Int → Int → ah_T → Prop) : Prop :=
 ((3 < v5 → B_Reader_readEvent_102 G s a1 (v2) (v3) (v4) h Q ) ∧ (¬ 3 < v5 → ∀ x2 : Int, x2 = h.2.1 3 9 → -2147483648 ≤ x2 → x2 ≤ 2147483647 → ((x2 = 46 → ((v4 = 3 → ∀ x10 : Int, x10 = h.2.1 3 10 → -2147483648 ≤ x10 → x10 ≤ 2147483647 → con G 0 0 0 m_Reader_blame [av_R (some 2), av_I 3, av_I x10] h (fun r h11 => ∃ z13 : Int, r = some (av_I z13) ∧ hb s h11 ∧ (z13 = 0 ∨ z13 = 1) ∧ Q (some (av_I z13)) h11)) ∧ (¬ v4 = 3 → ((-2147483648) ≤ (v4 + 1) ∧ (v4 + 1) ≤ 2147483647) ∧ con G 0 0 0 m_Tokens_next [av_R (some 3)] h (fun r h5 => r = none ∧ hb s h5 ∧ ((-2147483648) ≤ (v5 + 1) ∧ (v5 + 1) ≤ 2147483647) ∧ X49 (v2) (v3) ((v4 + 1)) ((v5 + 1)) h5)))) ∧ (¬ x2 = 46 → B_Reader_readEvent_102 G s a1 (v2) (v3) (v4) h Q ))))
theorem b_Reader_readEvent_49 {G : cx_T} {s : Nat} {a1 : Nat} (ha1 : isV a1) {v2 : Int} {v3 : Int} {v4 : Int} {v5 : Int} {h : ah_T} {Q : Option av_T → ah_T → Prop} {X49 : Int → Int → Int → Int → ah_T → Prop} (hX49 : ∀ (v2 : Int) (v3 : Int) (v4 : Int) (v5 : Int) (h : ah_T), hb s h → X49 v2 v3 v4 v5 h → aw G (rm_R 3 0 0) m_Reader_readEvent 0 0 49 [some (av_R (some 2)), some (av_R (some a1)), some (av_I v2), some (av_I v3), some (av_I v4), some (av_I v5)] [] h Q) (hb0 : hb s h) (H : B_Reader_readEvent_49 G s a1 v2 v3 v4 v5 h Q X49) : aw G (rm_R 3 0 0) m_Reader_readEvent 0 0 49 [some (av_R (some 2)), some (av_R (some a1)), some (av_I v2), some (av_I v3), some (av_I v4), some (av_I v5)] [] h Q := by
  unfold B_Reader_readEvent_49 at H
  have hS : isS s := hb0.2.1
  refine A_iload d_Reader_readEvent_49 rfl ?_
  refine A_iconst d_Reader_readEvent_51 rfl ?_
  refine A_icmp_gt (tgt := 102) d_Reader_readEvent_52 (by decide) (fun c => ?_) (fun c => ?_)
  · replace H := H.1 c
    refine A_pc (pc' := 102) rfl ?_
    refine A_free (L' := [some (av_R (some 2)), some (av_R (some a1)), some (av_I v2), some (av_I v3), some (av_I v4), none]) (And.intro rfl (And.intro rfl (And.intro rfl (And.intro rfl (And.intro rfl trivial))))) ?_
    exact b_Reader_readEvent_102 ha1   hb0 H
  · replace H := H.2 c
    refine A_aload_n 0 d_Reader_readEvent_55 rfl rfl ?_
    refine A_getOv (z := some 3) T_ok d_Reader_readEvent_56 f_Reader_12 (hb_s hb0 sf_2) (hb_r hb0 rff_2_0) ?_
    refine A_getIf T_ok d_Reader_readEvent_59 f_Reader_50 (hb_s hb0 sf_3) (fun x2 ex2 lx2 ux2 => ?_)
    replace H := H x2 ex2 lx2 ux2
    refine A_bipush d_Reader_readEvent_62 rfl ?_
    refine A_icmp_ne (tgt := 102) d_Reader_readEvent_64 (by decide) (fun c => ?_) (fun c => ?_)
    · replace H := H.2 c
      refine A_pc (pc' := 102) rfl ?_
      refine A_free (L' := [some (av_R (some 2)), some (av_R (some a1)), some (av_I v2), some (av_I v3), some (av_I v4), none]) (And.intro rfl (And.intro rfl (And.intro rfl (And.intro rfl (And.intro rfl trivial))))) ?_
      exact b_Reader_readEvent_102 ha1   hb0 H
    · replace H := H.1 c
      refine A_iload d_Reader_readEvent_67 rfl ?_
      refine A_iconst d_Reader_readEvent_69 rfl ?_
      refine A_icmp_ne (tgt := 86) d_Reader_readEvent_70 (by decide) (fun c => ?_) (fun c => ?_)
      · replace H := H.2 c
        have g3 := H.1
        replace H := H.2
        refine A_iincv (z := (v4 + 1)) (L' := [some (av_R (some 2)), some (av_R (some a1)), some (av_I v2), some (av_I v3), some (av_I (v4 + 1)), some (av_I v5)]) d_Reader_readEvent_86 rfl (w32_to (by omega) (by unfold i32; omega)) rfl ?_
        refine A_aload_n 0 d_Reader_readEvent_89 rfl rfl ?_
        refine A_getOv (z := some 3) T_ok d_Reader_readEvent_90 f_Reader_12 (hb_s hb0 sf_2) (hb_r hb0 rff_2_0) ?_
        refine A_callV0 m_Tokens_next T_ok d_Reader_readEvent_93 l_Reader_78 k_Tokens_next (hb_s hb0 sf_3) rfl (by decide +kernel) (by decide) (Nat.le_of_ble_eq_true rfl) H (fun r h5 hq => ?_)
        clear H
        obtain ⟨rfl, hb6, H⟩ := hq
        have g8 := H.1
        replace H := H.2
        refine A_iincv (z := (v5 + 1)) (L' := [some (av_R (some 2)), some (av_R (some a1)), some (av_I v2), some (av_I v3), some (av_I (v4 + 1)), some (av_I (v5 + 1))]) d_Reader_readEvent_96 rfl (w32_to (by omega) (by unfold i32; omega)) rfl ?_
        refine A_goto (tgt := 49) d_Reader_readEvent_99 (by decide) ?_
        refine A_pc (pc' := 49) rfl ?_
        exact hX49 (v2) (v3) ((v4 + 1)) ((v5 + 1)) h5  hb6 H
      · replace H := H.1 c
        refine A_aload_n 0 d_Reader_readEvent_73 rfl rfl ?_
        refine A_iconst d_Reader_readEvent_74 rfl ?_
        refine A_aload_n 0 d_Reader_readEvent_75 rfl rfl ?_
        refine A_getOv (z := some 3) T_ok d_Reader_readEvent_76 f_Reader_12 (hb_s hb0 sf_2) (hb_r hb0 rff_2_0) ?_
        refine A_getIf T_ok d_Reader_readEvent_79 f_Reader_75 (hb_s hb0 sf_3) (fun x10 ex10 lx10 ux10 => ?_)
        replace H := H x10 ex10 lx10 ux10
        refine A_pc (pc' := 82) rfl ?_
        refine A_callV2 m_Reader_blame T_ok d_Reader_readEvent_82 l_Reader_91 k_Reader_blame (hb_s hb0 sf_2) rfl (by decide +kernel) (by decide) (Nat.le_of_ble_eq_true rfl) H (fun r h11 hq => ?_)
        clear H
        obtain ⟨z13, rfl, hb12, H⟩ := hq
        exact A_zret d_Reader_readEvent_85 (by decide) rfl H.1 H.2
theorem lp_Reader_readEvent_49 {G : cx_T} {s : Nat} {a1 : Nat} (ha1 : isV a1) {Q : Option av_T → ah_T → Prop} (I : Int → Int → Int → Int → ah_T → Prop) (μ : Int → Int → Int → Int → ah_T → Nat) (hI : ∀ (v2 : Int) (v3 : Int) (v4 : Int) (v5 : Int) (h : ah_T), hb s h → I v2 v3 v4 v5 h → B_Reader_readEvent_49 G s a1 v2 v3 v4 v5 h Q (fun v2' v3' v4' v5' h' => I v2' v3' v4' v5' h' ∧ μ v2' v3' v4' v5' h' < μ v2 v3 v4 v5 h)) : ∀ (v2 : Int) (v3 : Int) (v4 : Int) (v5 : Int) (h : ah_T), hb s h → I v2 v3 v4 v5 h → aw G (rm_R 3 0 0) m_Reader_readEvent 0 0 49 [some (av_R (some 2)), some (av_R (some a1)), some (av_I v2), some (av_I v3), some (av_I v4), some (av_I v5)] [] h Q := by
  have key : ∀ (n : Nat) (v2 : Int) (v3 : Int) (v4 : Int) (v5 : Int) (h : ah_T), hb s h → I v2 v3 v4 v5 h → μ v2 v3 v4 v5 h < n → aw G (rm_R 3 0 0) m_Reader_readEvent 0 0 49 [some (av_R (some 2)), some (av_R (some a1)), some (av_I v2), some (av_I v3), some (av_I v4), some (av_I v5)] [] h Q := by
    intro n
    induction n with
    | zero => intro v2 v3 v4 v5 h  hb0 hi hm; omega
    | succ n ih => intro v2 v3 v4 v5 h  hb0 hi hm; exact b_Reader_readEvent_49 ha1 (fun v2' v3' v4' v5' h'  hb' hx => ih v2' v3' v4' v5' h'  hb' hx.1 (by have := hx.2; omega))  hb0 (hI v2 v3 v4 v5 h  hb0 hi)
  exact fun v2 v3 v4 v5 h  hb0 hi => key _ v2 v3 v4 v5 h  hb0 hi (Nat.lt_succ_self _)
def B_Reader_readEvent_18 (G : cx_T) (s : Nat) (a1 : Nat) (t0 : Int) (h : ah_T) (Q : Option av_T → ah_T → Prop) (X49 : Int → Int → Int → Int → ah_T → Prop) : Prop :=
 con G 2 0 0 m_Reader_readSound [av_R (some 2), av_R (some a1)] h (fun r h1 => ∃ z3 : Int, r = some (av_I z3) ∧ hb s h1 ∧ ((z3 = 0 → Q (some (av_I 0)) h1) ∧ (¬ z3 = 0 → con G 1 0 0 m_Reader_readNumber [av_R (some 2), av_I 64, av_I 1] h1 (fun r h4 => ∃ z6 : Int, r = some (av_I z6) ∧ hb s h4 ∧ ((z6 = 0 → Q (some (av_I 0)) h4) ∧ (¬ z6 = 0 → X49 (t0) (z6) (0) (0) h4))))))
theorem b_Reader_readEvent_18 {G : cx_T} {s : Nat} {a1 : Nat} (ha1 : isV a1) {t0 : Int} {h : ah_T} {Q : Option av_T → ah_T → Prop} {X49 : Int → Int → Int → Int → ah_T → Prop} (hX49 : ∀ (v2 : Int) (v3 : Int) (v4 : Int) (v5 : Int) (h : ah_T), hb s h → X49 v2 v3 v4 v5 h → aw G (rm_R 3 0 0) m_Reader_readEvent 0 0 49 [some (av_R (some 2)), some (av_R (some a1)), some (av_I v2), some (av_I v3), some (av_I v4), some (av_I v5)] [] h Q) (hb0 : hb s h) (H : B_Reader_readEvent_18 G s a1 t0 h Q X49) : aw G (rm_R 3 0 0) m_Reader_readEvent 0 0 18 [some (av_R (some 2)), some (av_R (some a1)), none, none, none, none] [av_I t0] h Q := by
  unfold B_Reader_readEvent_18 at H
  have hS : isS s := hb0.2.1
  refine A_istore_n 2 (L' := [some (av_R (some 2)), some (av_R (some a1)), some (av_I t0), none, none, none]) d_Reader_readEvent_18 rfl (Nat.le_of_ble_eq_true rfl) rfl ?_
  refine A_aload_n 0 d_Reader_readEvent_19 rfl rfl ?_
  refine A_aload_n 1 d_Reader_readEvent_20 rfl rfl ?_
  refine A_callV1 m_Reader_readSound T_ok d_Reader_readEvent_21 l_Reader_172 k_Reader_readSound (hb_s hb0 sf_2) rfl (by decide +kernel) (by decide) (Nat.le_of_ble_eq_true rfl) H (fun r h1 hq => ?_)
  clear H
  obtain ⟨z3, rfl, hb2, H⟩ := hq
  refine A_if_ne (tgt := 29) d_Reader_readEvent_24 (by decide) (fun c => ?_) (fun c => ?_)
  · replace H := H.2 c
    refine A_aload_n 0 d_Reader_readEvent_29 rfl rfl ?_
    refine A_bipush d_Reader_readEvent_30 rfl ?_
    refine A_iconst d_Reader_readEvent_32 rfl ?_
    refine A_callV2 m_Reader_readNumber T_ok d_Reader_readEvent_33 l_Reader_99 k_Reader_readNumber (hb_s hb2 sf_2) rfl (by decide +kernel) (by decide) (Nat.le_of_ble_eq_true rfl) H (fun r h4 hq => ?_)
    clear H
    obtain ⟨z6, rfl, hb5, H⟩ := hq
    refine A_istore_n 3 (L' := [some (av_R (some 2)), some (av_R (some a1)), some (av_I t0), some (av_I z6), none, none]) d_Reader_readEvent_36 rfl (Nat.le_of_ble_eq_true rfl) rfl ?_
    refine A_iload_n 3 d_Reader_readEvent_37 rfl rfl ?_
    refine A_if_ne (tgt := 43) d_Reader_readEvent_38 (by decide) (fun c => ?_) (fun c => ?_)
    · replace H := H.2 c
      refine A_iconst d_Reader_readEvent_43 rfl ?_
      refine A_istore (L' := [some (av_R (some 2)), some (av_R (some a1)), some (av_I t0), some (av_I z6), some (av_I 0), none]) d_Reader_readEvent_44 (Nat.le_of_ble_eq_true rfl) rfl ?_
      refine A_iconst d_Reader_readEvent_46 rfl ?_
      refine A_istore (L' := [some (av_R (some 2)), some (av_R (some a1)), some (av_I t0), some (av_I z6), some (av_I 0), some (av_I 0)]) d_Reader_readEvent_47 (Nat.le_of_ble_eq_true rfl) rfl ?_
      refine A_pc (pc' := 49) rfl ?_
      exact hX49 (t0) (z6) (0) (0) h4  hb5 H
    · replace H := H.1 c
      refine A_iconst d_Reader_readEvent_41 rfl ?_
      exact A_zret d_Reader_readEvent_42 (by decide) rfl (by decide) H
  · replace H := H.1 c
    refine A_iconst d_Reader_readEvent_27 rfl ?_
    exact A_zret d_Reader_readEvent_28 (by decide) rfl (by decide) H
def B_Reader_readEvent_0 (G : cx_T) (s : Nat) (a1 : Nat) (h : ah_T) (Q : Option av_T → ah_T → Prop) (X49 : Int → Int → Int → Int → ah_T → Prop) : Prop :=
 ∀ x2 : Int, x2 = h.2.1 3 9 → -2147483648 ≤ x2 → x2 ≤ 2147483647 → ((x2 = 266 → B_Reader_readEvent_18 G s a1 (1) h Q X49) ∧ (¬ x2 = 266 → B_Reader_readEvent_18 G s a1 (0) h Q X49))
theorem b_Reader_readEvent_0 {G : cx_T} {s : Nat} {a1 : Nat} (ha1 : isV a1) {h : ah_T} {Q : Option av_T → ah_T → Prop} {X49 : Int → Int → Int → Int → ah_T → Prop} (hX49 : ∀ (v2 : Int) (v3 : Int) (v4 : Int) (v5 : Int) (h : ah_T), hb s h → X49 v2 v3 v4 v5 h → aw G (rm_R 3 0 0) m_Reader_readEvent 0 0 49 [some (av_R (some 2)), some (av_R (some a1)), some (av_I v2), some (av_I v3), some (av_I v4), some (av_I v5)] [] h Q) (hb0 : hb s h) (H : B_Reader_readEvent_0 G s a1 h Q X49) : aw G (rm_R 3 0 0) m_Reader_readEvent 0 0 0 [some (av_R (some 2)), some (av_R (some a1)), none, none, none, none] [] h Q := by
  unfold B_Reader_readEvent_0 at H
  have hS : isS s := hb0.2.1
  refine A_aload_n 0 d_Reader_readEvent_0 rfl rfl ?_
  refine A_getOv (z := some 3) T_ok d_Reader_readEvent_1 f_Reader_12 (hb_s hb0 sf_2) (hb_r hb0 rff_2_0) ?_
  refine A_getIf T_ok d_Reader_readEvent_4 f_Reader_50 (hb_s hb0 sf_3) (fun x2 ex2 lx2 ux2 => ?_)
  replace H := H x2 ex2 lx2 ux2
  refine A_sipush d_Reader_readEvent_7 rfl ?_
  refine A_icmp_ne (tgt := 17) d_Reader_readEvent_10 (by decide) (fun c => ?_) (fun c => ?_)
  · replace H := H.2 c
    refine A_iconst d_Reader_readEvent_17 rfl ?_
    refine A_pc (pc' := 18) rfl ?_
    exact b_Reader_readEvent_18 ha1 hX49  hb0 H
  · replace H := H.1 c
    refine A_iconst d_Reader_readEvent_13 rfl ?_
    refine A_goto (tgt := 18) d_Reader_readEvent_14 (by decide) ?_
    refine A_pc (pc' := 18) rfl ?_
    exact b_Reader_readEvent_18 ha1 hX49  hb0 H
theorem c_Reader_readEvent {G : cx_T} {s : Nat} {a1 : Nat} (ha1 : isV a1) {h : ah_T} {Q : Option av_T → ah_T → Prop} {X49 : Int → Int → Int → Int → ah_T → Prop} (hX49 : ∀ (v2 : Int) (v3 : Int) (v4 : Int) (v5 : Int) (h : ah_T), hb s h → X49 v2 v3 v4 v5 h → aw G (rm_R 3 0 0) m_Reader_readEvent 0 0 49 [some (av_R (some 2)), some (av_R (some a1)), some (av_I v2), some (av_I v3), some (av_I v4), some (av_I v5)] [] h Q) (hb0 : hb s h) (H : B_Reader_readEvent_0 G s a1 h Q X49) : con G 3 0 0 m_Reader_readEvent [av_R (some 2), av_R (some a1)] h Q := by
  have hS : isS s := hb0.2.1
  refine con_of (L := [some (av_R (some 2)), some (av_R (some a1)), none, none, none, none]) (by decide +kernel) (Nat.le_of_ble_eq_true rfl) rfl ?_
  exact b_Reader_readEvent_0 ha1 hX49 hb0 (H )
def B_Reader_readStretch_51 (G : cx_T) (s : Nat) (h : ah_T) (Q : Option av_T → ah_T → Prop) : Prop :=
 Q (some (av_I 0)) h
theorem b_Reader_readStretch_51 {G : cx_T} {s : Nat} {h : ah_T} {Q : Option av_T → ah_T → Prop} (hb0 : hb s h) (H : B_Reader_readStretch_51 G s h Q ) : aw G (rm_R 2 0 0) m_Reader_readStretch 0 0 51 [none, none, none] [] h Q := by
  unfold B_Reader_readStretch_51 at H
  have hS : isS s := hb0.2.1
  refine A_iconst d_Reader_readStretch_51 rfl ?_
  exact A_zret d_Reader_readStretch_52 (by decide) rfl (by decide) H
def B_Reader_readStretch_28 (G : cx_T) (s : Nat) (h : ah_T) (Q : Option av_T → ah_T → Prop) : Prop :=
 Q (some (av_I 0)) h
theorem b_Reader_readStretch_28 {G : cx_T} {s : Nat} {h : ah_T} {Q : Option av_T → ah_T → Prop} (hb0 : hb s h) (H : B_Reader_readStretch_28 G s h Q ) : aw G (rm_R 2 0 0) m_Reader_readStretch 0 0 28 [none, none, none] [] h Q := by
  unfold B_Reader_readStretch_28 at H
  have hS : isS s := hb0.2.1
  refine A_iconst d_Reader_readStretch_28 rfl ?_
  exact A_zret d_Reader_readStretch_29 (by decide) rfl (by decide) H
def B_Reader_readStretch_0 (G : cx_T) (s : Nat) (h : ah_T) (Q : Option av_T → ah_T → Prop) : Prop :=
 con G 0 0 0 m_Tokens_next [av_R (some 3)] h (fun r h2 => r = none ∧ hb s h2 ∧ con G 1 0 0 m_Reader_readNumber [av_R (some 2), av_I 16, av_I 0] h2 (fun r h5 => ∃ z7 : Int, r = some (av_I z7) ∧ hb s h5 ∧ ((z7 = 0 → B_Reader_readStretch_28 G s h5 Q ) ∧ (¬ z7 = 0 → con G 1 0 0 m_Reader_take [av_R (some 2), av_I 47] h5 (fun r h8 => ∃ z10 : Int, r = some (av_I z10) ∧ hb s h8 ∧ ((z10 = 0 → B_Reader_readStretch_28 G s h8 Q ) ∧ (¬ z10 = 0 → con G 1 0 0 m_Reader_readNumber [av_R (some 2), av_I 16, av_I 0] h8 (fun r h11 => ∃ z13 : Int, r = some (av_I z13) ∧ hb s h11 ∧ ((z13 = 0 → B_Reader_readStretch_51 G s h11 Q ) ∧ (¬ z13 = 0 → con G 1 0 0 m_Reader_take [av_R (some 2), av_I 58] h11 (fun r h14 => ∃ z16 : Int, r = some (av_I z16) ∧ hb s h14 ∧ ((z16 = 0 → B_Reader_readStretch_51 G s h14 Q ) ∧ (¬ z16 = 0 → con G 0 0 0 m_Parts_add [av_R (some 9), av_I 123, av_I z7, av_I z13] h14 (fun r h18 => r = none ∧ hb s h18 ∧ Q (some (av_I 1)) h18))))))))))))))
theorem b_Reader_readStretch_0 {G : cx_T} {s : Nat} {h : ah_T} {Q : Option av_T → ah_T → Prop} (hb0 : hb s h) (H : B_Reader_readStretch_0 G s h Q ) : aw G (rm_R 2 0 0) m_Reader_readStretch 0 0 0 [some (av_R (some 2)), none, none] [] h Q := by
  unfold B_Reader_readStretch_0 at H
  have hS : isS s := hb0.2.1
  refine A_aload_n 0 d_Reader_readStretch_0 rfl rfl ?_
  refine A_getOv (z := some 3) T_ok d_Reader_readStretch_1 f_Reader_12 (hb_s hb0 sf_2) (hb_r hb0 rff_2_0) ?_
  refine A_callV0 m_Tokens_next T_ok d_Reader_readStretch_4 l_Reader_78 k_Tokens_next (hb_s hb0 sf_3) rfl (by decide +kernel) (by decide) (Nat.le_of_ble_eq_true rfl) H (fun r h2 hq => ?_)
  clear H
  obtain ⟨rfl, hb3, H⟩ := hq
  refine A_aload_n 0 d_Reader_readStretch_7 rfl rfl ?_
  refine A_bipush d_Reader_readStretch_8 rfl ?_
  refine A_iconst d_Reader_readStretch_10 rfl ?_
  refine A_callV2 m_Reader_readNumber T_ok d_Reader_readStretch_11 l_Reader_99 k_Reader_readNumber (hb_s hb3 sf_2) rfl (by decide +kernel) (by decide) (Nat.le_of_ble_eq_true rfl) H (fun r h5 hq => ?_)
  clear H
  obtain ⟨z7, rfl, hb6, H⟩ := hq
  refine A_istore_n 1 (L' := [some (av_R (some 2)), some (av_I z7), none]) d_Reader_readStretch_14 rfl (Nat.le_of_ble_eq_true rfl) rfl ?_
  refine A_iload_n 1 d_Reader_readStretch_15 rfl rfl ?_
  refine A_if_eq (tgt := 28) d_Reader_readStretch_16 (by decide) (fun c => ?_) (fun c => ?_)
  · replace H := H.1 c
    refine A_pc (pc' := 28) rfl ?_
    refine A_free (L' := [none, none, none]) trivial ?_
    exact b_Reader_readStretch_28    hb6 H
  · replace H := H.2 c
    refine A_aload_n 0 d_Reader_readStretch_19 rfl rfl ?_
    refine A_bipush d_Reader_readStretch_20 rfl ?_
    refine A_callV1 m_Reader_take T_ok d_Reader_readStretch_22 l_Reader_103 k_Reader_take (hb_s hb6 sf_2) rfl (by decide +kernel) (by decide) (Nat.le_of_ble_eq_true rfl) H (fun r h8 hq => ?_)
    clear H
    obtain ⟨z10, rfl, hb9, H⟩ := hq
    refine A_if_ne (tgt := 30) d_Reader_readStretch_25 (by decide) (fun c => ?_) (fun c => ?_)
    · replace H := H.2 c
      refine A_aload_n 0 d_Reader_readStretch_30 rfl rfl ?_
      refine A_bipush d_Reader_readStretch_31 rfl ?_
      refine A_iconst d_Reader_readStretch_33 rfl ?_
      refine A_callV2 m_Reader_readNumber T_ok d_Reader_readStretch_34 l_Reader_99 k_Reader_readNumber (hb_s hb9 sf_2) rfl (by decide +kernel) (by decide) (Nat.le_of_ble_eq_true rfl) H (fun r h11 hq => ?_)
      clear H
      obtain ⟨z13, rfl, hb12, H⟩ := hq
      refine A_istore_n 2 (L' := [some (av_R (some 2)), some (av_I z7), some (av_I z13)]) d_Reader_readStretch_37 rfl (Nat.le_of_ble_eq_true rfl) rfl ?_
      refine A_iload_n 2 d_Reader_readStretch_38 rfl rfl ?_
      refine A_if_eq (tgt := 51) d_Reader_readStretch_39 (by decide) (fun c => ?_) (fun c => ?_)
      · replace H := H.1 c
        refine A_pc (pc' := 51) rfl ?_
        refine A_free (L' := [none, none, none]) trivial ?_
        exact b_Reader_readStretch_51    hb12 H
      · replace H := H.2 c
        refine A_aload_n 0 d_Reader_readStretch_42 rfl rfl ?_
        refine A_bipush d_Reader_readStretch_43 rfl ?_
        refine A_callV1 m_Reader_take T_ok d_Reader_readStretch_45 l_Reader_103 k_Reader_take (hb_s hb12 sf_2) rfl (by decide +kernel) (by decide) (Nat.le_of_ble_eq_true rfl) H (fun r h14 hq => ?_)
        clear H
        obtain ⟨z16, rfl, hb15, H⟩ := hq
        refine A_if_ne (tgt := 53) d_Reader_readStretch_48 (by decide) (fun c => ?_) (fun c => ?_)
        · replace H := H.2 c
          refine A_aload_n 0 d_Reader_readStretch_53 rfl rfl ?_
          refine A_getOv (z := some 9) T_ok d_Reader_readStretch_54 f_Reader_21 (hb_s hb15 sf_2) (hb_r hb15 rff_2_1) ?_
          refine A_bipush d_Reader_readStretch_57 rfl ?_
          refine A_iload_n 1 d_Reader_readStretch_59 rfl rfl ?_
          refine A_iload_n 2 d_Reader_readStretch_60 rfl rfl ?_
          refine A_pc (pc' := 61) rfl ?_
          refine A_callV3 m_Parts_add T_ok d_Reader_readStretch_61 l_Reader_169 k_Parts_add (hb_s hb15 sf_9) rfl (by decide +kernel) (by decide) (Nat.le_of_ble_eq_true rfl) H (fun r h18 hq => ?_)
          clear H
          obtain ⟨rfl, hb19, H⟩ := hq
          refine A_iconst d_Reader_readStretch_64 rfl ?_
          exact A_zret d_Reader_readStretch_65 (by decide) rfl (by decide) H
        · replace H := H.1 c
          refine A_pc (pc' := 51) rfl ?_
          refine A_free (L' := [none, none, none]) trivial ?_
          exact b_Reader_readStretch_51    hb15 H
    · replace H := H.1 c
      refine A_pc (pc' := 28) rfl ?_
      refine A_free (L' := [none, none, none]) trivial ?_
      exact b_Reader_readStretch_28    hb9 H
theorem c_Reader_readStretch {G : cx_T} {s : Nat} {h : ah_T} {Q : Option av_T → ah_T → Prop} (hb0 : hb s h) (H : B_Reader_readStretch_0 G s h Q ) : con G 2 0 0 m_Reader_readStretch [av_R (some 2)] h Q := by
  have hS : isS s := hb0.2.1
  refine con_of (L := [some (av_R (some 2)), none, none]) (by decide +kernel) (Nat.le_of_ble_eq_true rfl) rfl ?_
  exact b_Reader_readStretch_0   hb0 (H )
def B_Reader_readPart_74 (G : cx_T) (s : Nat) (v1 : Int) (h : ah_T) (Q : Option av_T → ah_T → Prop) : Prop :=
 con G 1 0 0 m_Reader_isShallow [av_R (some 2)] h (fun r h1 => ∃ z3 : Int, r = some (av_I z3) ∧ hb s h1 ∧ ((z3 = 0 → Q (some (av_I 0)) h1) ∧ (¬ z3 = 0 → ((v1 = 123 → con G 2 0 0 m_Reader_readStretch [av_R (some 2)] h1 (fun r h12 => ∃ z14 : Int, r = some (av_I z14) ∧ hb s h12 ∧ (z14 = 0 ∨ z14 = 1) ∧ Q (some (av_I z14)) h12)) ∧ (¬ v1 = 123 → con G 0 0 0 m_Parts_add [av_R (some 9), av_I v1, av_I 0, av_I 0] h1 (fun r h5 => r = none ∧ hb s h5 ∧ con G 0 0 0 m_Tokens_next [av_R (some 3)] h5 (fun r h9 => r = none ∧ hb s h9 ∧ Q (some (av_I 1)) h9)))))))
theorem b_Reader_readPart_74 {G : cx_T} {s : Nat} {v1 : Int} {h : ah_T} {Q : Option av_T → ah_T → Prop} (hb0 : hb s h) (H : B_Reader_readPart_74 G s v1 h Q ) : aw G (rm_R 3 0 0) m_Reader_readPart 0 0 74 [some (av_R (some 2)), some (av_I v1)] [] h Q := by
  unfold B_Reader_readPart_74 at H
  have hS : isS s := hb0.2.1
  refine A_aload_n 0 d_Reader_readPart_74 rfl rfl ?_
  refine A_callV0 m_Reader_isShallow T_ok d_Reader_readPart_75 l_Reader_146 k_Reader_isShallow (hb_s hb0 sf_2) rfl (by decide +kernel) (by decide) (Nat.le_of_ble_eq_true rfl) H (fun r h1 hq => ?_)
  clear H
  obtain ⟨z3, rfl, hb2, H⟩ := hq
  refine A_if_ne (tgt := 83) d_Reader_readPart_78 (by decide) (fun c => ?_) (fun c => ?_)
  · replace H := H.2 c
    refine A_iload_n 1 d_Reader_readPart_83 rfl rfl ?_
    refine A_bipush d_Reader_readPart_84 rfl ?_
    refine A_icmp_ne (tgt := 94) d_Reader_readPart_86 (by decide) (fun c => ?_) (fun c => ?_)
    · replace H := H.2 c
      refine A_aload_n 0 d_Reader_readPart_94 rfl rfl ?_
      refine A_getOv (z := some 9) T_ok d_Reader_readPart_95 f_Reader_21 (hb_s hb2 sf_2) (hb_r hb2 rff_2_1) ?_
      refine A_iload_n 1 d_Reader_readPart_98 rfl rfl ?_
      refine A_iconst d_Reader_readPart_99 rfl ?_
      refine A_iconst d_Reader_readPart_100 rfl ?_
      refine A_pc (pc' := 101) rfl ?_
      refine A_callV3 m_Parts_add T_ok d_Reader_readPart_101 l_Reader_169 k_Parts_add (hb_s hb2 sf_9) rfl (by decide +kernel) (by decide) (Nat.le_of_ble_eq_true rfl) H (fun r h5 hq => ?_)
      clear H
      obtain ⟨rfl, hb6, H⟩ := hq
      refine A_aload_n 0 d_Reader_readPart_104 rfl rfl ?_
      refine A_getOv (z := some 3) T_ok d_Reader_readPart_105 f_Reader_12 (hb_s hb6 sf_2) (hb_r hb6 rff_2_0) ?_
      refine A_callV0 m_Tokens_next T_ok d_Reader_readPart_108 l_Reader_78 k_Tokens_next (hb_s hb6 sf_3) rfl (by decide +kernel) (by decide) (Nat.le_of_ble_eq_true rfl) H (fun r h9 hq => ?_)
      clear H
      obtain ⟨rfl, hb10, H⟩ := hq
      refine A_iconst d_Reader_readPart_111 rfl ?_
      exact A_zret d_Reader_readPart_112 (by decide) rfl (by decide) H
    · replace H := H.1 c
      refine A_aload_n 0 d_Reader_readPart_89 rfl rfl ?_
      refine A_callV0 m_Reader_readStretch T_ok d_Reader_readPart_90 l_Reader_166 k_Reader_readStretch (hb_s hb2 sf_2) rfl (by decide +kernel) (by decide) (Nat.le_of_ble_eq_true rfl) H (fun r h12 hq => ?_)
      clear H
      obtain ⟨z14, rfl, hb13, H⟩ := hq
      exact A_zret d_Reader_readPart_93 (by decide) rfl H.1 H.2
  · replace H := H.1 c
    refine A_iconst d_Reader_readPart_81 rfl ?_
    exact A_zret d_Reader_readPart_82 (by decide) rfl (by decide) H
def B_Reader_readPart_26 (G : cx_T) (s : Nat) (v1 : Int) (h : ah_T) (Q : Option av_T → ah_T → Prop) : Prop :=
 con G 1 0 0 m_Parts_addMark [av_R (some 9), av_I v1] h (fun r h2 => ∃ z4 : Int, r = some (av_I z4) ∧ hb s h2 ∧ ((z4 = 0 → con G 0 0 0 m_Reader_refuse [av_R (some 2)] h2 (fun r h9 => ∃ z11 : Int, r = some (av_I z11) ∧ hb s h9 ∧ (z11 = 0 ∨ z11 = 1) ∧ Q (some (av_I z11)) h9)) ∧ (¬ z4 = 0 → con G 0 0 0 m_Tokens_next [av_R (some 3)] h2 (fun r h6 => r = none ∧ hb s h6 ∧ Q (some (av_I 1)) h6))))
theorem b_Reader_readPart_26 {G : cx_T} {s : Nat} {v1 : Int} {h : ah_T} {Q : Option av_T → ah_T → Prop} (hb0 : hb s h) (H : B_Reader_readPart_26 G s v1 h Q ) : aw G (rm_R 3 0 0) m_Reader_readPart 0 0 26 [some (av_R (some 2)), some (av_I v1)] [] h Q := by
  unfold B_Reader_readPart_26 at H
  have hS : isS s := hb0.2.1
  refine A_aload_n 0 d_Reader_readPart_26 rfl rfl ?_
  refine A_getOv (z := some 9) T_ok d_Reader_readPart_27 f_Reader_21 (hb_s hb0 sf_2) (hb_r hb0 rff_2_1) ?_
  refine A_iload_n 1 d_Reader_readPart_30 rfl rfl ?_
  refine A_callV1 m_Parts_addMark T_ok d_Reader_readPart_31 l_Reader_163 k_Parts_addMark (hb_s hb0 sf_9) rfl (by decide +kernel) (by decide) (Nat.le_of_ble_eq_true rfl) H (fun r h2 hq => ?_)
  clear H
  obtain ⟨z4, rfl, hb3, H⟩ := hq
  refine A_if_ne (tgt := 42) d_Reader_readPart_34 (by decide) (fun c => ?_) (fun c => ?_)
  · replace H := H.2 c
    refine A_aload_n 0 d_Reader_readPart_42 rfl rfl ?_
    refine A_getOv (z := some 3) T_ok d_Reader_readPart_43 f_Reader_12 (hb_s hb3 sf_2) (hb_r hb3 rff_2_0) ?_
    refine A_callV0 m_Tokens_next T_ok d_Reader_readPart_46 l_Reader_78 k_Tokens_next (hb_s hb3 sf_3) rfl (by decide +kernel) (by decide) (Nat.le_of_ble_eq_true rfl) H (fun r h6 hq => ?_)
    clear H
    obtain ⟨rfl, hb7, H⟩ := hq
    refine A_iconst d_Reader_readPart_49 rfl ?_
    exact A_zret d_Reader_readPart_50 (by decide) rfl (by decide) H
  · replace H := H.1 c
    refine A_aload_n 0 d_Reader_readPart_37 rfl rfl ?_
    refine A_callV0 m_Reader_refuse T_ok d_Reader_readPart_38 l_Reader_69 k_Reader_refuse (hb_s hb3 sf_2) rfl (by decide +kernel) (by decide) (Nat.le_of_ble_eq_true rfl) H (fun r h9 hq => ?_)
    clear H
    obtain ⟨z11, rfl, hb10, H⟩ := hq
    exact A_zret d_Reader_readPart_41 (by decide) rfl H.1 H.2
def B_Reader_readPart_0 (G : cx_T) (s : Nat) (h : ah_T) (Q : Option av_T → ah_T → Prop) : Prop :=
 ∀ x2 : Int, x2 = h.2.1 3 9 → -2147483648 ≤ x2 → x2 ≤ 2147483647 → ((x2 = 58 → B_Reader_readPart_26 G s (x2) h Q ) ∧ (¬ x2 = 58 → ((x2 = 93 → B_Reader_readPart_26 G s (x2) h Q ) ∧ (¬ x2 = 93 → ((x2 = 125 → B_Reader_readPart_26 G s (x2) h Q ) ∧ (¬ x2 = 125 → ((x2 = 124 → B_Reader_readPart_74 G s (x2) h Q ) ∧ (¬ x2 = 124 → ((x2 = 91 → B_Reader_readPart_74 G s (x2) h Q ) ∧ (¬ x2 = 91 → ((x2 = 123 → B_Reader_readPart_74 G s (x2) h Q ) ∧ (¬ x2 = 123 → con G 0 0 0 m_Reader_refuse [av_R (some 2)] h (fun r h3 => ∃ z5 : Int, r = some (av_I z5) ∧ hb s h3 ∧ (z5 = 0 ∨ z5 = 1) ∧ Q (some (av_I z5)) h3)))))))))))))
theorem b_Reader_readPart_0 {G : cx_T} {s : Nat} {h : ah_T} {Q : Option av_T → ah_T → Prop} (hb0 : hb s h) (H : B_Reader_readPart_0 G s h Q ) : aw G (rm_R 3 0 0) m_Reader_readPart 0 0 0 [some (av_R (some 2)), none] [] h Q := by
  unfold B_Reader_readPart_0 at H
  have hS : isS s := hb0.2.1
  refine A_aload_n 0 d_Reader_readPart_0 rfl rfl ?_
  refine A_getOv (z := some 3) T_ok d_Reader_readPart_1 f_Reader_12 (hb_s hb0 sf_2) (hb_r hb0 rff_2_0) ?_
  refine A_getIf T_ok d_Reader_readPart_4 f_Reader_50 (hb_s hb0 sf_3) (fun x2 ex2 lx2 ux2 => ?_)
  replace H := H x2 ex2 lx2 ux2
  refine A_istore_n 1 (L' := [some (av_R (some 2)), some (av_I x2)]) d_Reader_readPart_7 rfl (Nat.le_of_ble_eq_true rfl) rfl ?_
  refine A_iload_n 1 d_Reader_readPart_8 rfl rfl ?_
  refine A_pc (pc' := 9) rfl ?_
  refine A_bipush d_Reader_readPart_9 rfl ?_
  refine A_icmp_eq (tgt := 26) d_Reader_readPart_11 (by decide) (fun c => ?_) (fun c => ?_)
  · replace H := H.1 c
    refine A_pc (pc' := 26) rfl ?_
    exact b_Reader_readPart_26    hb0 H
  · replace H := H.2 c
    refine A_iload_n 1 d_Reader_readPart_14 rfl rfl ?_
    refine A_bipush d_Reader_readPart_15 rfl ?_
    refine A_icmp_eq (tgt := 26) d_Reader_readPart_17 (by decide) (fun c => ?_) (fun c => ?_)
    · replace H := H.1 c
      refine A_pc (pc' := 26) rfl ?_
      exact b_Reader_readPart_26    hb0 H
    · replace H := H.2 c
      refine A_iload_n 1 d_Reader_readPart_20 rfl rfl ?_
      refine A_bipush d_Reader_readPart_21 rfl ?_
      refine A_icmp_ne (tgt := 51) d_Reader_readPart_23 (by decide) (fun c => ?_) (fun c => ?_)
      · replace H := H.2 c
        refine A_iload_n 1 d_Reader_readPart_51 rfl rfl ?_
        refine A_bipush d_Reader_readPart_52 rfl ?_
        refine A_icmp_eq (tgt := 74) d_Reader_readPart_54 (by decide) (fun c => ?_) (fun c => ?_)
        · replace H := H.1 c
          refine A_pc (pc' := 74) rfl ?_
          exact b_Reader_readPart_74    hb0 H
        · replace H := H.2 c
          refine A_iload_n 1 d_Reader_readPart_57 rfl rfl ?_
          refine A_bipush d_Reader_readPart_58 rfl ?_
          refine A_icmp_eq (tgt := 74) d_Reader_readPart_60 (by decide) (fun c => ?_) (fun c => ?_)
          · replace H := H.1 c
            refine A_pc (pc' := 74) rfl ?_
            exact b_Reader_readPart_74    hb0 H
          · replace H := H.2 c
            refine A_iload_n 1 d_Reader_readPart_63 rfl rfl ?_
            refine A_bipush d_Reader_readPart_64 rfl ?_
            refine A_icmp_eq (tgt := 74) d_Reader_readPart_66 (by decide) (fun c => ?_) (fun c => ?_)
            · replace H := H.1 c
              refine A_pc (pc' := 74) rfl ?_
              exact b_Reader_readPart_74    hb0 H
            · replace H := H.2 c
              refine A_aload_n 0 d_Reader_readPart_69 rfl rfl ?_
              refine A_callV0 m_Reader_refuse T_ok d_Reader_readPart_70 l_Reader_69 k_Reader_refuse (hb_s hb0 sf_2) rfl (by decide +kernel) (by decide) (Nat.le_of_ble_eq_true rfl) H (fun r h3 hq => ?_)
              clear H
              obtain ⟨z5, rfl, hb4, H⟩ := hq
              exact A_zret d_Reader_readPart_73 (by decide) rfl H.1 H.2
      · replace H := H.1 c
        refine A_pc (pc' := 26) rfl ?_
        exact b_Reader_readPart_26    hb0 H
theorem c_Reader_readPart {G : cx_T} {s : Nat} {h : ah_T} {Q : Option av_T → ah_T → Prop} (hb0 : hb s h) (H : B_Reader_readPart_0 G s h Q ) : con G 3 0 0 m_Reader_readPart [av_R (some 2)] h Q := by
  have hS : isS s := hb0.2.1
  refine con_of (L := [some (av_R (some 2)), none]) (by decide +kernel) (Nat.le_of_ble_eq_true rfl) rfl ?_
  exact b_Reader_readPart_0   hb0 (H )
def B_Reader_readVoice_156 (G : cx_T) (s : Nat) (h : ah_T) (Q : Option av_T → ah_T → Prop) : Prop :=
 con G 0 0 0 m_Reader_refuse [av_R (some 2)] h (fun r h1 => ∃ z3 : Int, r = some (av_I z3) ∧ hb s h1 ∧ (z3 = 0 ∨ z3 = 1) ∧ Q (some (av_I z3)) h1)
theorem b_Reader_readVoice_156 {G : cx_T} {s : Nat} {h : ah_T} {Q : Option av_T → ah_T → Prop} (hb0 : hb s h) (H : B_Reader_readVoice_156 G s h Q ) : aw G (rm_R 22 0 0) m_Reader_readVoice 0 0 156 [some (av_R (some 2)), none, none, none, none] [] h Q := by
  unfold B_Reader_readVoice_156 at H
  have hS : isS s := hb0.2.1
  refine A_aload_n 0 d_Reader_readVoice_156 rfl rfl ?_
  refine A_callV0 m_Reader_refuse T_ok d_Reader_readVoice_157 l_Reader_69 k_Reader_refuse (hb_s hb0 sf_2) rfl (by decide +kernel) (by decide) (Nat.le_of_ble_eq_true rfl) H (fun r h1 hq => ?_)
  clear H
  obtain ⟨z3, rfl, hb2, H⟩ := hq
  exact A_zret d_Reader_readVoice_160 (by decide) rfl H.1 H.2
def B_Reader_readVoice_125 (G : cx_T) (s : Nat) (v1 : Int) (v2 : Nat) (h : ah_T) (Q : Option av_T → ah_T → Prop) : Prop :=
 ∀ x1 : Int, x1 = h.2.1 2 6 → -2147483648 ≤ x1 → x1 ≤ 2147483647 → ((x1 = 0 → ∀ x3 : Int, x3 = h.2.1 3 9 → -2147483648 ≤ x3 → x3 ≤ 2147483647 → ((x3 = 59 → ∀ x5 : Int, x5 = h.2.1 9 7 → -2147483648 ≤ x5 → x5 ≤ 2147483647 → ((x5 ≤ 0 → con G 21 0 0 m_Parts_walkInto [av_R (some 9), av_R (some v2)] h (fun r h7 => ∃ z9 : Int, r = some (av_I z9) ∧ hb s h7 ∧ ((z9 = 0 → con G 0 0 0 m_Tokens_next [av_R (some 3)] h7 (fun r h11 => r = none ∧ hb s h11 ∧ Q (some (av_I 1)) h11)) ∧ (¬ z9 = 0 → con G 0 0 0 m_Reader_blame [av_R (some 2), av_I z9, av_I v1] h7 (fun r h14 => ∃ z16 : Int, r = some (av_I z16) ∧ hb s h14 ∧ (z16 = 0 ∨ z16 = 1) ∧ Q (some (av_I z16)) h14))))) ∧ (¬ x5 ≤ 0 → B_Reader_readVoice_156 G s h Q ))) ∧ (¬ x3 = 59 → B_Reader_readVoice_156 G s h Q ))) ∧ (¬ x1 = 0 → Q (some (av_I 0)) h))
theorem b_Reader_readVoice_125 {G : cx_T} {s : Nat} {v1 : Int} {v2 : Nat} {h : ah_T} {Q : Option av_T → ah_T → Prop} (hv2 : isV v2) (hb0 : hb s h) (H : B_Reader_readVoice_125 G s v1 v2 h Q ) : aw G (rm_R 22 0 0) m_Reader_readVoice 0 0 125 [some (av_R (some 2)), some (av_I v1), some (av_R (some v2)), none, none] [] h Q := by
  unfold B_Reader_readVoice_125 at H
  have hS : isS s := hb0.2.1
  refine A_aload_n 0 d_Reader_readVoice_125 rfl rfl ?_
  refine A_getIf T_ok d_Reader_readVoice_126 f_Reader_43 (hb_s hb0 sf_2) (fun x1 ex1 lx1 ux1 => ?_)
  replace H := H x1 ex1 lx1 ux1
  refine A_if_eq (tgt := 134) d_Reader_readVoice_129 (by decide) (fun c => ?_) (fun c => ?_)
  · replace H := H.1 c
    refine A_aload_n 0 d_Reader_readVoice_134 rfl rfl ?_
    refine A_getOv (z := some 3) T_ok d_Reader_readVoice_135 f_Reader_12 (hb_s hb0 sf_2) (hb_r hb0 rff_2_0) ?_
    refine A_getIf T_ok d_Reader_readVoice_138 f_Reader_50 (hb_s hb0 sf_3) (fun x3 ex3 lx3 ux3 => ?_)
    replace H := H x3 ex3 lx3 ux3
    refine A_bipush d_Reader_readVoice_141 rfl ?_
    refine A_icmp_ne (tgt := 156) d_Reader_readVoice_143 (by decide) (fun c => ?_) (fun c => ?_)
    · replace H := H.2 c
      refine A_pc (pc' := 156) rfl ?_
      refine A_free (L' := [some (av_R (some 2)), none, none, none, none]) (And.intro rfl trivial) ?_
      exact b_Reader_readVoice_156    hb0 H
    · replace H := H.1 c
      refine A_aload_n 0 d_Reader_readVoice_146 rfl rfl ?_
      refine A_getOv (z := some 9) T_ok d_Reader_readVoice_147 f_Reader_21 (hb_s hb0 sf_2) (hb_r hb0 rff_2_1) ?_
      refine A_getIf T_ok d_Reader_readVoice_150 f_Reader_156 (hb_s hb0 sf_9) (fun x5 ex5 lx5 ux5 => ?_)
      replace H := H x5 ex5 lx5 ux5
      refine A_if_le (tgt := 161) d_Reader_readVoice_153 (by decide) (fun c => ?_) (fun c => ?_)
      · replace H := H.1 c
        refine A_aload_n 0 d_Reader_readVoice_161 rfl rfl ?_
        refine A_getOv (z := some 9) T_ok d_Reader_readVoice_162 f_Reader_21 (hb_s hb0 sf_2) (hb_r hb0 rff_2_1) ?_
        refine A_aload_n 2 d_Reader_readVoice_165 rfl rfl ?_
        refine A_callV1 m_Parts_walkInto T_ok d_Reader_readVoice_166 l_Reader_159 k_Parts_walkInto (hb_s hb0 sf_9) rfl (by decide +kernel) (by decide) (Nat.le_of_ble_eq_true rfl) H (fun r h7 hq => ?_)
        clear H
        obtain ⟨z9, rfl, hb8, H⟩ := hq
        refine A_istore (L' := [some (av_R (some 2)), some (av_I v1), some (av_R (some v2)), none, some (av_I z9)]) d_Reader_readVoice_169 (Nat.le_of_ble_eq_true rfl) rfl ?_
        refine A_iload d_Reader_readVoice_171 rfl ?_
        refine A_if_eq (tgt := 184) d_Reader_readVoice_173 (by decide) (fun c => ?_) (fun c => ?_)
        · replace H := H.1 c
          refine A_aload_n 0 d_Reader_readVoice_184 rfl rfl ?_
          refine A_getOv (z := some 3) T_ok d_Reader_readVoice_185 f_Reader_12 (hb_s hb8 sf_2) (hb_r hb8 rff_2_0) ?_
          refine A_callV0 m_Tokens_next T_ok d_Reader_readVoice_188 l_Reader_78 k_Tokens_next (hb_s hb8 sf_3) rfl (by decide +kernel) (by decide) (Nat.le_of_ble_eq_true rfl) H (fun r h11 hq => ?_)
          clear H
          obtain ⟨rfl, hb12, H⟩ := hq
          refine A_iconst d_Reader_readVoice_191 rfl ?_
          exact A_zret d_Reader_readVoice_192 (by decide) rfl (by decide) H
        · replace H := H.2 c
          refine A_aload_n 0 d_Reader_readVoice_176 rfl rfl ?_
          refine A_iload d_Reader_readVoice_177 rfl ?_
          refine A_iload_n 1 d_Reader_readVoice_179 rfl rfl ?_
          refine A_callV2 m_Reader_blame T_ok d_Reader_readVoice_180 l_Reader_91 k_Reader_blame (hb_s hb8 sf_2) rfl (by decide +kernel) (by decide) (Nat.le_of_ble_eq_true rfl) H (fun r h14 hq => ?_)
          clear H
          obtain ⟨z16, rfl, hb15, H⟩ := hq
          exact A_zret d_Reader_readVoice_183 (by decide) rfl H.1 H.2
      · replace H := H.2 c
        refine A_pc (pc' := 156) rfl ?_
        refine A_free (L' := [some (av_R (some 2)), none, none, none, none]) (And.intro rfl trivial) ?_
        exact b_Reader_readVoice_156    hb0 H
  · replace H := H.2 c
    refine A_iconst d_Reader_readVoice_132 rfl ?_
    exact A_zret d_Reader_readVoice_133 (by decide) rfl (by decide) H
def B_Reader_readVoice_119 (G : cx_T) (s : Nat) (v1 : Int) (v2 : Nat) (v3 : Int) (v4 : Int) (h : ah_T) (Q : Option av_T → ah_T → Prop) (X51 : Int → Nat → Int → Int → ah_T → Prop) : Prop :=
 ((-2147483648) ≤ (v4 + 1) ∧ (v4 + 1) ≤ 2147483647) ∧ X51 (v1) v2 (v3) ((v4 + 1)) h
theorem b_Reader_readVoice_119 {G : cx_T} {s : Nat} {v1 : Int} {v2 : Nat} {v3 : Int} {v4 : Int} {h : ah_T} {Q : Option av_T → ah_T → Prop} {X51 : Int → Nat → Int → Int → ah_T → Prop} (hX51 : ∀ (v1 : Int) (v2 : Nat) (v3 : Int) (v4 : Int) (h : ah_T), isV v2 → hb s h → X51 v1 v2 v3 v4 h → aw G (rm_R 22 0 0) m_Reader_readVoice 0 0 51 [some (av_R (some 2)), some (av_I v1), some (av_R (some v2)), some (av_I v3), some (av_I v4)] [] h Q) (hv2 : isV v2) (hb0 : hb s h) (H : B_Reader_readVoice_119 G s v1 v2 v3 v4 h Q X51) : aw G (rm_R 22 0 0) m_Reader_readVoice 0 0 119 [some (av_R (some 2)), some (av_I v1), some (av_R (some v2)), some (av_I v3), some (av_I v4)] [] h Q := by
  unfold B_Reader_readVoice_119 at H
  have hS : isS s := hb0.2.1
  have g1 := H.1
  replace H := H.2
  refine A_iincv (z := (v4 + 1)) (L' := [some (av_R (some 2)), some (av_I v1), some (av_R (some v2)), some (av_I v3), some (av_I (v4 + 1))]) d_Reader_readVoice_119 rfl (w32_to (by omega) (by unfold i32; omega)) rfl ?_
  refine A_goto (tgt := 51) d_Reader_readVoice_122 (by decide) ?_
  refine A_pc (pc' := 51) rfl ?_
  exact hX51 (v1) v2 (v3) ((v4 + 1)) h hv2 hb0 H
def B_Reader_readVoice_118 (G : cx_T) (s : Nat) (v1 : Int) (v2 : Nat) (v4 : Int) (t0 : Int) (h : ah_T) (Q : Option av_T → ah_T → Prop) (X51 : Int → Nat → Int → Int → ah_T → Prop) : Prop :=
 B_Reader_readVoice_119 G s (v1) v2 (t0) (v4) h Q X51
theorem b_Reader_readVoice_118 {G : cx_T} {s : Nat} {v1 : Int} {v2 : Nat} {v4 : Int} {t0 : Int} {h : ah_T} {Q : Option av_T → ah_T → Prop} {X51 : Int → Nat → Int → Int → ah_T → Prop} (hX51 : ∀ (v1 : Int) (v2 : Nat) (v3 : Int) (v4 : Int) (h : ah_T), isV v2 → hb s h → X51 v1 v2 v3 v4 h → aw G (rm_R 22 0 0) m_Reader_readVoice 0 0 51 [some (av_R (some 2)), some (av_I v1), some (av_R (some v2)), some (av_I v3), some (av_I v4)] [] h Q) (hv2 : isV v2) (hb0 : hb s h) (H : B_Reader_readVoice_118 G s v1 v2 v4 t0 h Q X51) : aw G (rm_R 22 0 0) m_Reader_readVoice 0 0 118 [some (av_R (some 2)), some (av_I v1), some (av_R (some v2)), none, some (av_I v4)] [av_I t0] h Q := by
  unfold B_Reader_readVoice_118 at H
  have hS : isS s := hb0.2.1
  refine A_istore_n 3 (L' := [some (av_R (some 2)), some (av_I v1), some (av_R (some v2)), some (av_I t0), some (av_I v4)]) d_Reader_readVoice_118 rfl (Nat.le_of_ble_eq_true rfl) rfl ?_
  refine A_pc (pc' := 119) rfl ?_
  exact b_Reader_readVoice_119  hX51 hv2 hb0 H
def B_Reader_readVoice_117 (G : cx_T) (s : Nat) (v1 : Int) (v2 : Nat) (v4 : Int) (h : ah_T) (Q : Option av_T → ah_T → Prop) (X51 : Int → Nat → Int → Int → ah_T → Prop) : Prop :=
 B_Reader_readVoice_118 G s (v1) v2 (v4) (0) h Q X51
theorem b_Reader_readVoice_117 {G : cx_T} {s : Nat} {v1 : Int} {v2 : Nat} {v4 : Int} {h : ah_T} {Q : Option av_T → ah_T → Prop} {X51 : Int → Nat → Int → Int → ah_T → Prop} (hX51 : ∀ (v1 : Int) (v2 : Nat) (v3 : Int) (v4 : Int) (h : ah_T), isV v2 → hb s h → X51 v1 v2 v3 v4 h → aw G (rm_R 22 0 0) m_Reader_readVoice 0 0 51 [some (av_R (some 2)), some (av_I v1), some (av_R (some v2)), some (av_I v3), some (av_I v4)] [] h Q) (hv2 : isV v2) (hb0 : hb s h) (H : B_Reader_readVoice_117 G s v1 v2 v4 h Q X51) : aw G (rm_R 22 0 0) m_Reader_readVoice 0 0 117 [some (av_R (some 2)), some (av_I v1), some (av_R (some v2)), none, some (av_I v4)] [] h Q := by
  unfold B_Reader_readVoice_117 at H
  have hS : isS s := hb0.2.1
  refine A_iconst d_Reader_readVoice_117 rfl ?_
  refine A_pc (pc' := 118) rfl ?_
  exact b_Reader_readVoice_118  hX51 hv2 hb0 H
def B_Reader_readVoice_90 (G : cx_T) (s : Nat) (v1 : Int) (v2 : Nat) (v4 : Int) (t0 : Int) (h : ah_T) (Q : Option av_T → ah_T → Prop) (X51 : Int → Nat → Int → Int → ah_T → Prop) : Prop :=
 B_Reader_readVoice_119 G s (v1) v2 (t0) (v4) h Q X51
theorem b_Reader_readVoice_90 {G : cx_T} {s : Nat} {v1 : Int} {v2 : Nat} {v4 : Int} {t0 : Int} {h : ah_T} {Q : Option av_T → ah_T → Prop} {X51 : Int → Nat → Int → Int → ah_T → Prop} (hX51 : ∀ (v1 : Int) (v2 : Nat) (v3 : Int) (v4 : Int) (h : ah_T), isV v2 → hb s h → X51 v1 v2 v3 v4 h → aw G (rm_R 22 0 0) m_Reader_readVoice 0 0 51 [some (av_R (some 2)), some (av_I v1), some (av_R (some v2)), some (av_I v3), some (av_I v4)] [] h Q) (hv2 : isV v2) (hb0 : hb s h) (H : B_Reader_readVoice_90 G s v1 v2 v4 t0 h Q X51) : aw G (rm_R 22 0 0) m_Reader_readVoice 0 0 90 [some (av_R (some 2)), some (av_I v1), some (av_R (some v2)), none, some (av_I v4)] [av_I t0] h Q := by
  unfold B_Reader_readVoice_90 at H
  have hS : isS s := hb0.2.1
  refine A_istore_n 3 (L' := [some (av_R (some 2)), some (av_I v1), some (av_R (some v2)), some (av_I t0), some (av_I v4)]) d_Reader_readVoice_90 rfl (Nat.le_of_ble_eq_true rfl) rfl ?_
  refine A_goto (tgt := 119) d_Reader_readVoice_91 (by decide) ?_
  refine A_pc (pc' := 119) rfl ?_
  exact b_Reader_readVoice_119  hX51 hv2 hb0 H
def B_Reader_readVoice_89 (G : cx_T) (s : Nat) (v1 : Int) (v2 : Nat) (v4 : Int) (h : ah_T) (Q : Option av_T → ah_T → Prop) (X51 : Int → Nat → Int → Int → ah_T → Prop) : Prop :=
 B_Reader_readVoice_90 G s (v1) v2 (v4) (0) h Q X51
theorem b_Reader_readVoice_89 {G : cx_T} {s : Nat} {v1 : Int} {v2 : Nat} {v4 : Int} {h : ah_T} {Q : Option av_T → ah_T → Prop} {X51 : Int → Nat → Int → Int → ah_T → Prop} (hX51 : ∀ (v1 : Int) (v2 : Nat) (v3 : Int) (v4 : Int) (h : ah_T), isV v2 → hb s h → X51 v1 v2 v3 v4 h → aw G (rm_R 22 0 0) m_Reader_readVoice 0 0 51 [some (av_R (some 2)), some (av_I v1), some (av_R (some v2)), some (av_I v3), some (av_I v4)] [] h Q) (hv2 : isV v2) (hb0 : hb s h) (H : B_Reader_readVoice_89 G s v1 v2 v4 h Q X51) : aw G (rm_R 22 0 0) m_Reader_readVoice 0 0 89 [some (av_R (some 2)), some (av_I v1), some (av_R (some v2)), none, some (av_I v4)] [] h Q := by
  unfold B_Reader_readVoice_89 at H
  have hS : isS s := hb0.2.1
  refine A_iconst d_Reader_readVoice_89 rfl ?_
  refine A_pc (pc' := 90) rfl ?_
  exact b_Reader_readVoice_90  hX51 hv2 hb0 H
def B_Reader_readVoice_51 (G : cx_T) (s : Nat) (v1 : Int) (v2 : Nat) (v3 : Int) (v4 : Int) (h : ah_T) (Q : Option av_T → ah_T → Prop) (X51 : Int → Nat → Int → Int → ah_T → Prop) : Prop :=
 ((2000 < v4 → B_Reader_readVoice_125 G s (v1) v2 h Q ) ∧ (¬ 2000 < v4 → ((v3 = 0 → B_Reader_readVoice_125 G s (v1) v2 h Q ) ∧ (¬ v3 = 0 → con G 0 0 0 m_Reader_beginsEvent [av_R (some 2)] h (fun r h1 => ∃ z3 : Int, r = some (av_I z3) ∧ hb s h1 ∧ ((z3 = 0 → ∀ x5 : Int, x5 = h1.2.1 3 9 → -2147483648 ≤ x5 → x5 ≤ 2147483647 → ((x5 = 59 → B_Reader_readVoice_117 G s (v1) v2 (v4) h1 Q X51) ∧ (¬ x5 = 59 → con G 3 0 0 m_Reader_readPart [av_R (some 2)] h1 (fun r h6 => ∃ z8 : Int, r = some (av_I z8) ∧ hb s h6 ∧ ((z8 = 0 → B_Reader_readVoice_117 G s (v1) v2 (v4) h6 Q X51) ∧ (¬ z8 = 0 → B_Reader_readVoice_118 G s (v1) v2 (v4) (1) h6 Q X51)))))) ∧ (¬ z3 = 0 → con G 1 0 0 m_Reader_isShallow [av_R (some 2)] h1 (fun r h9 => ∃ z11 : Int, r = some (av_I z11) ∧ hb s h9 ∧ ((z11 = 0 → B_Reader_readVoice_89 G s (v1) v2 (v4) h9 Q X51) ∧ (¬ z11 = 0 → con G 3 0 0 m_Reader_readEvent [av_R (some 2), av_R (some v2)] h9 (fun r h12 => ∃ z14 : Int, r = some (av_I z14) ∧ hb s h12 ∧ ((z14 = 0 → B_Reader_readVoice_89 G s (v1) v2 (v4) h12 Q X51) ∧ (¬ z14 = 0 → B_Reader_readVoice_90 G s (v1) v2 (v4) (1) h12 Q X51)))))))))))))
theorem b_Reader_readVoice_51 {G : cx_T} {s : Nat} {v1 : Int} {v2 : Nat} {v3 : Int} {v4 : Int} {h : ah_T} {Q : Option av_T → ah_T → Prop} {X51 : Int → Nat → Int → Int → ah_T → Prop} (hX51 : ∀ (v1 : Int) (v2 : Nat) (v3 : Int) (v4 : Int) (h : ah_T), isV v2 → hb s h → X51 v1 v2 v3 v4 h → aw G (rm_R 22 0 0) m_Reader_readVoice 0 0 51 [some (av_R (some 2)), some (av_I v1), some (av_R (some v2)), some (av_I v3), some (av_I v4)] [] h Q) (hv2 : isV v2) (hb0 : hb s h) (H : B_Reader_readVoice_51 G s v1 v2 v3 v4 h Q X51) : aw G (rm_R 22 0 0) m_Reader_readVoice 0 0 51 [some (av_R (some 2)), some (av_I v1), some (av_R (some v2)), some (av_I v3), some (av_I v4)] [] h Q := by
  unfold B_Reader_readVoice_51 at H
  have hS : isS s := hb0.2.1
  refine A_iload d_Reader_readVoice_51 rfl ?_
  refine A_sipush d_Reader_readVoice_53 rfl ?_
  refine A_icmp_gt (tgt := 125) d_Reader_readVoice_56 (by decide) (fun c => ?_) (fun c => ?_)
  · replace H := H.1 c
    refine A_pc (pc' := 125) rfl ?_
    refine A_free (L' := [some (av_R (some 2)), some (av_I v1), some (av_R (some v2)), none, none]) (And.intro rfl (And.intro rfl (And.intro rfl trivial))) ?_
    exact b_Reader_readVoice_125   hv2 hb0 H
  · replace H := H.2 c
    refine A_iload_n 3 d_Reader_readVoice_59 rfl rfl ?_
    refine A_if_eq (tgt := 125) d_Reader_readVoice_60 (by decide) (fun c => ?_) (fun c => ?_)
    · replace H := H.1 c
      refine A_pc (pc' := 125) rfl ?_
      refine A_free (L' := [some (av_R (some 2)), some (av_I v1), some (av_R (some v2)), none, none]) (And.intro rfl (And.intro rfl (And.intro rfl trivial))) ?_
      exact b_Reader_readVoice_125   hv2 hb0 H
    · replace H := H.2 c
      refine A_aload_n 0 d_Reader_readVoice_63 rfl rfl ?_
      refine A_callV0 m_Reader_beginsEvent T_ok d_Reader_readVoice_64 l_Reader_143 k_Reader_beginsEvent (hb_s hb0 sf_2) rfl (by decide +kernel) (by decide) (Nat.le_of_ble_eq_true rfl) H (fun r h1 hq => ?_)
      clear H
      obtain ⟨z3, rfl, hb2, H⟩ := hq
      refine A_if_eq (tgt := 94) d_Reader_readVoice_67 (by decide) (fun c => ?_) (fun c => ?_)
      · replace H := H.1 c
        refine A_aload_n 0 d_Reader_readVoice_94 rfl rfl ?_
        refine A_getOv (z := some 3) T_ok d_Reader_readVoice_95 f_Reader_12 (hb_s hb2 sf_2) (hb_r hb2 rff_2_0) ?_
        refine A_getIf T_ok d_Reader_readVoice_98 f_Reader_50 (hb_s hb2 sf_3) (fun x5 ex5 lx5 ux5 => ?_)
        replace H := H x5 ex5 lx5 ux5
        refine A_bipush d_Reader_readVoice_101 rfl ?_
        refine A_icmp_eq (tgt := 117) d_Reader_readVoice_103 (by decide) (fun c => ?_) (fun c => ?_)
        · replace H := H.1 c
          refine A_pc (pc' := 117) rfl ?_
          refine A_free (L' := [some (av_R (some 2)), some (av_I v1), some (av_R (some v2)), none, some (av_I v4)]) (And.intro rfl (And.intro rfl (And.intro rfl (And.intro rfl trivial)))) ?_
          exact b_Reader_readVoice_117  hX51 hv2 hb2 H
        · replace H := H.2 c
          refine A_aload_n 0 d_Reader_readVoice_106 rfl rfl ?_
          refine A_callV0 m_Reader_readPart T_ok d_Reader_readVoice_107 l_Reader_153 k_Reader_readPart (hb_s hb2 sf_2) rfl (by decide +kernel) (by decide) (Nat.le_of_ble_eq_true rfl) H (fun r h6 hq => ?_)
          clear H
          obtain ⟨z8, rfl, hb7, H⟩ := hq
          refine A_if_eq (tgt := 117) d_Reader_readVoice_110 (by decide) (fun c => ?_) (fun c => ?_)
          · replace H := H.1 c
            refine A_pc (pc' := 117) rfl ?_
            refine A_free (L' := [some (av_R (some 2)), some (av_I v1), some (av_R (some v2)), none, some (av_I v4)]) (And.intro rfl (And.intro rfl (And.intro rfl (And.intro rfl trivial)))) ?_
            exact b_Reader_readVoice_117  hX51 hv2 hb7 H
          · replace H := H.2 c
            refine A_iconst d_Reader_readVoice_113 rfl ?_
            refine A_goto (tgt := 118) d_Reader_readVoice_114 (by decide) ?_
            refine A_pc (pc' := 118) rfl ?_
            refine A_free (L' := [some (av_R (some 2)), some (av_I v1), some (av_R (some v2)), none, some (av_I v4)]) (And.intro rfl (And.intro rfl (And.intro rfl (And.intro rfl trivial)))) ?_
            exact b_Reader_readVoice_118  hX51 hv2 hb7 H
      · replace H := H.2 c
        refine A_aload_n 0 d_Reader_readVoice_70 rfl rfl ?_
        refine A_callV0 m_Reader_isShallow T_ok d_Reader_readVoice_71 l_Reader_146 k_Reader_isShallow (hb_s hb2 sf_2) rfl (by decide +kernel) (by decide) (Nat.le_of_ble_eq_true rfl) H (fun r h9 hq => ?_)
        clear H
        obtain ⟨z11, rfl, hb10, H⟩ := hq
        refine A_if_eq (tgt := 89) d_Reader_readVoice_74 (by decide) (fun c => ?_) (fun c => ?_)
        · replace H := H.1 c
          refine A_pc (pc' := 89) rfl ?_
          refine A_free (L' := [some (av_R (some 2)), some (av_I v1), some (av_R (some v2)), none, some (av_I v4)]) (And.intro rfl (And.intro rfl (And.intro rfl (And.intro rfl trivial)))) ?_
          exact b_Reader_readVoice_89  hX51 hv2 hb10 H
        · replace H := H.2 c
          refine A_aload_n 0 d_Reader_readVoice_77 rfl rfl ?_
          refine A_aload_n 2 d_Reader_readVoice_78 rfl rfl ?_
          refine A_callV1 m_Reader_readEvent T_ok d_Reader_readVoice_79 l_Reader_149 k_Reader_readEvent (hb_s hb10 sf_2) rfl (by decide +kernel) (by decide) (Nat.le_of_ble_eq_true rfl) H (fun r h12 hq => ?_)
          clear H
          obtain ⟨z14, rfl, hb13, H⟩ := hq
          refine A_if_eq (tgt := 89) d_Reader_readVoice_82 (by decide) (fun c => ?_) (fun c => ?_)
          · replace H := H.1 c
            refine A_pc (pc' := 89) rfl ?_
            refine A_free (L' := [some (av_R (some 2)), some (av_I v1), some (av_R (some v2)), none, some (av_I v4)]) (And.intro rfl (And.intro rfl (And.intro rfl (And.intro rfl trivial)))) ?_
            exact b_Reader_readVoice_89  hX51 hv2 hb13 H
          · replace H := H.2 c
            refine A_iconst d_Reader_readVoice_85 rfl ?_
            refine A_goto (tgt := 90) d_Reader_readVoice_86 (by decide) ?_
            refine A_pc (pc' := 90) rfl ?_
            refine A_free (L' := [some (av_R (some 2)), some (av_I v1), some (av_R (some v2)), none, some (av_I v4)]) (And.intro rfl (And.intro rfl (And.intro rfl (And.intro rfl trivial)))) ?_
            exact b_Reader_readVoice_90  hX51 hv2 hb13 H
theorem lp_Reader_readVoice_51 {G : cx_T} {s : Nat} {Q : Option av_T → ah_T → Prop} (I : Int → Nat → Int → Int → ah_T → Prop) (μ : Int → Nat → Int → Int → ah_T → Nat) (hI : ∀ (v1 : Int) (v2 : Nat) (v3 : Int) (v4 : Int) (h : ah_T), isV v2 → hb s h → I v1 v2 v3 v4 h → B_Reader_readVoice_51 G s v1 v2 v3 v4 h Q (fun v1' v2' v3' v4' h' => I v1' v2' v3' v4' h' ∧ μ v1' v2' v3' v4' h' < μ v1 v2 v3 v4 h)) : ∀ (v1 : Int) (v2 : Nat) (v3 : Int) (v4 : Int) (h : ah_T), isV v2 → hb s h → I v1 v2 v3 v4 h → aw G (rm_R 22 0 0) m_Reader_readVoice 0 0 51 [some (av_R (some 2)), some (av_I v1), some (av_R (some v2)), some (av_I v3), some (av_I v4)] [] h Q := by
  have key : ∀ (n : Nat) (v1 : Int) (v2 : Nat) (v3 : Int) (v4 : Int) (h : ah_T), isV v2 → hb s h → I v1 v2 v3 v4 h → μ v1 v2 v3 v4 h < n → aw G (rm_R 22 0 0) m_Reader_readVoice 0 0 51 [some (av_R (some 2)), some (av_I v1), some (av_R (some v2)), some (av_I v3), some (av_I v4)] [] h Q := by
    intro n
    induction n with
    | zero => intro v1 v2 v3 v4 h hv0 hb0 hi hm; omega
    | succ n ih => intro v1 v2 v3 v4 h hv0 hb0 hi hm; exact b_Reader_readVoice_51  (fun v1' v2' v3' v4' h' hv0 hb' hx => ih v1' v2' v3' v4' h' hv0 hb' hx.1 (by have := hx.2; omega)) hv0 hb0 (hI v1 v2 v3 v4 h hv0 hb0 hi)
  exact fun v1 v2 v3 v4 h hv0 hb0 hi => key _ v1 v2 v3 v4 h hv0 hb0 hi (Nat.lt_succ_self _)
def B_Reader_readVoice_0 (G : cx_T) (s : Nat) (h : ah_T) (Q : Option av_T → ah_T → Prop) (X51 : Int → Nat → Int → Int → ah_T → Prop) : Prop :=
 ∀ x2 : Int, x2 = h.2.1 3 10 → -2147483648 ≤ x2 → x2 ≤ 2147483647 → con G 1 0 0 m_Score_newVoice [av_R (some s)] h (fun r h4 => ∃ oz6 : Option Nat, r = some (av_R oz6) ∧ hb s h4 ∧ ((oz6 = none ∧ con G 0 0 0 m_Reader_blame [av_R (some 2), av_I 3, av_I x2] h4 (fun r h7 => ∃ z9 : Int, r = some (av_I z9) ∧ hb s h7 ∧ (z9 = 0 ∨ z9 = 1) ∧ Q (some (av_I z9)) h7)) ∨ ∃ z6 : Nat, oz6 = some z6 ∧ isV z6 ∧ con G 0 0 0 m_Tokens_next [av_R (some 3)] h4 (fun r h11 => r = none ∧ hb s h11 ∧ con G 0 0 0 m_Parts_clear [av_R (some 9)] h11 (fun r h15 => r = none ∧ hb s h15 ∧ ∀ h18 : ah_T, h18 = st_i h15 2 4 0 → X51 (x2) z6 (1) (0) h18))))
theorem b_Reader_readVoice_0 {G : cx_T} {s : Nat} {h : ah_T} {Q : Option av_T → ah_T → Prop} {X51 : Int → Nat → Int → Int → ah_T → Prop} (hX51 : ∀ (v1 : Int) (v2 : Nat) (v3 : Int) (v4 : Int) (h : ah_T), isV v2 → hb s h → X51 v1 v2 v3 v4 h → aw G (rm_R 22 0 0) m_Reader_readVoice 0 0 51 [some (av_R (some 2)), some (av_I v1), some (av_R (some v2)), some (av_I v3), some (av_I v4)] [] h Q) (hb0 : hb s h) (H : B_Reader_readVoice_0 G s h Q X51) : aw G (rm_R 22 0 0) m_Reader_readVoice 0 0 0 [some (av_R (some 2)), none, none, none, none] [] h Q := by
  unfold B_Reader_readVoice_0 at H
  have hS : isS s := hb0.2.1
  refine A_aload_n 0 d_Reader_readVoice_0 rfl rfl ?_
  refine A_getOv (z := some 3) T_ok d_Reader_readVoice_1 f_Reader_12 (hb_s hb0 sf_2) (hb_r hb0 rff_2_0) ?_
  refine A_getIf T_ok d_Reader_readVoice_4 f_Reader_75 (hb_s hb0 sf_3) (fun x2 ex2 lx2 ux2 => ?_)
  replace H := H x2 ex2 lx2 ux2
  refine A_istore_n 1 (L' := [some (av_R (some 2)), some (av_I x2), none, none, none]) d_Reader_readVoice_7 rfl (Nat.le_of_ble_eq_true rfl) rfl ?_
  refine A_aload_n 0 d_Reader_readVoice_8 rfl rfl ?_
  refine A_pc (pc' := 9) rfl ?_
  refine A_getOv (z := some s) T_ok d_Reader_readVoice_9 f_Reader_32 (hb_s hb0 sf_2) hb0.2.2.2.1 ?_
  refine A_callV0 m_Score_newVoice T_ok d_Reader_readVoice_12 l_Reader_135 k_Score_newVoice (hs_S hb0 hS) rfl (by decide +kernel) (by decide) (Nat.le_of_ble_eq_true rfl) H (fun r h4 hq => ?_)
  clear H
  obtain ⟨oz6, rfl, hb5, H⟩ := hq
  rcases H with ⟨H1, H⟩ | ⟨z6, H1, tz6, H⟩
  · subst H1
    refine A_astore_n 2 (L' := [some (av_R (some 2)), some (av_I x2), some (av_R none), none, none]) d_Reader_readVoice_15 rfl (Nat.le_of_ble_eq_true rfl) rfl ?_
    refine A_aload_n 2 d_Reader_readVoice_16 rfl rfl ?_
    refine A_ifnonnull (tgt := 27) d_Reader_readVoice_17 (by decide) (fun a q => by cases q) (fun _ => ?_)
    refine A_aload_n 0 d_Reader_readVoice_20 rfl rfl ?_
    refine A_iconst d_Reader_readVoice_21 rfl ?_
    refine A_iload_n 1 d_Reader_readVoice_22 rfl rfl ?_
    refine A_callV2 m_Reader_blame T_ok d_Reader_readVoice_23 l_Reader_91 k_Reader_blame (hb_s hb5 sf_2) rfl (by decide +kernel) (by decide) (Nat.le_of_ble_eq_true rfl) H (fun r h7 hq => ?_)
    clear H
    obtain ⟨z9, rfl, hb8, H⟩ := hq
    exact A_zret d_Reader_readVoice_26 (by decide) rfl H.1 H.2
  · subst H1
    refine A_astore_n 2 (L' := [some (av_R (some 2)), some (av_I x2), some (av_R (some z6)), none, none]) d_Reader_readVoice_15 rfl (Nat.le_of_ble_eq_true rfl) rfl ?_
    refine A_aload_n 2 d_Reader_readVoice_16 rfl rfl ?_
    refine A_ifnonnull (tgt := 27) d_Reader_readVoice_17 (by decide) (fun _ _ => ?_) (fun q => by cases q)
    refine A_aload_n 0 d_Reader_readVoice_27 rfl rfl ?_
    refine A_getOv (z := some 3) T_ok d_Reader_readVoice_28 f_Reader_12 (hb_s hb5 sf_2) (hb_r hb5 rff_2_0) ?_
    refine A_callV0 m_Tokens_next T_ok d_Reader_readVoice_31 l_Reader_78 k_Tokens_next (hb_s hb5 sf_3) rfl (by decide +kernel) (by decide) (Nat.le_of_ble_eq_true rfl) H (fun r h11 hq => ?_)
    clear H
    obtain ⟨rfl, hb12, H⟩ := hq
    refine A_aload_n 0 d_Reader_readVoice_34 rfl rfl ?_
    refine A_getOv (z := some 9) T_ok d_Reader_readVoice_35 f_Reader_21 (hb_s hb12 sf_2) (hb_r hb12 rff_2_1) ?_
    refine A_callV0 m_Parts_clear T_ok d_Reader_readVoice_38 l_Reader_139 k_Parts_clear (hb_s hb12 sf_9) rfl (by decide +kernel) (by decide) (Nat.le_of_ble_eq_true rfl) H (fun r h15 hq => ?_)
    clear H
    obtain ⟨rfl, hb16, H⟩ := hq
    refine A_aload_n 0 d_Reader_readVoice_41 rfl rfl ?_
    refine A_iconst d_Reader_readVoice_42 rfl ?_
    refine A_putI T_ok d_Reader_readVoice_43 f_Reader_140 (hb_s hb16 sf_2) fin_f ?_
    refine A_hn (fun h18 eh18 => ?_)
    have hb19 := hb_i hb16 eh18
    replace H := H h18 eh18
    refine A_iconst d_Reader_readVoice_46 rfl ?_
    refine A_istore_n 3 (L' := [some (av_R (some 2)), some (av_I x2), some (av_R (some z6)), some (av_I 1), none]) d_Reader_readVoice_47 rfl (Nat.le_of_ble_eq_true rfl) rfl ?_
    refine A_pc (pc' := 48) rfl ?_
    refine A_iconst d_Reader_readVoice_48 rfl ?_
    refine A_istore (L' := [some (av_R (some 2)), some (av_I x2), some (av_R (some z6)), some (av_I 1), some (av_I 0)]) d_Reader_readVoice_49 (Nat.le_of_ble_eq_true rfl) rfl ?_
    refine A_pc (pc' := 51) rfl ?_
    exact hX51 (x2) z6 (1) (0) h18 tz6 hb19 H
theorem c_Reader_readVoice {G : cx_T} {s : Nat} {h : ah_T} {Q : Option av_T → ah_T → Prop} {X51 : Int → Nat → Int → Int → ah_T → Prop} (hX51 : ∀ (v1 : Int) (v2 : Nat) (v3 : Int) (v4 : Int) (h : ah_T), isV v2 → hb s h → X51 v1 v2 v3 v4 h → aw G (rm_R 22 0 0) m_Reader_readVoice 0 0 51 [some (av_R (some 2)), some (av_I v1), some (av_R (some v2)), some (av_I v3), some (av_I v4)] [] h Q) (hb0 : hb s h) (H : B_Reader_readVoice_0 G s h Q X51) : con G 22 0 0 m_Reader_readVoice [av_R (some 2)] h Q := by
  have hS : isS s := hb0.2.1
  refine con_of (L := [some (av_R (some 2)), none, none, none, none]) (by decide +kernel) (Nat.le_of_ble_eq_true rfl) rfl ?_
  exact b_Reader_readVoice_0  hX51 hb0 (H )
def B_Reader_read_156 (G : cx_T) (s : Nat) (a2 : Int) (h : ah_T) (Q : Option av_T → ah_T → Prop) : Prop :=
 ∀ x1 : Int, x1 = h.2.1 2 6 → -2147483648 ≤ x1 → x1 ≤ 2147483647 → Q (some (av_I x1)) h
theorem b_Reader_read_156 {G : cx_T} {s : Nat} {a2 : Int} {h : ah_T} {Q : Option av_T → ah_T → Prop} (hb0 : hb s h) (H : B_Reader_read_156 G s a2 h Q ) : aw G (rm_R 23 0 0) m_Reader_read 0 0 156 [some (av_R (some 2)), none, none, none, none] [] h Q := by
  unfold B_Reader_read_156 at H
  have hS : isS s := hb0.2.1
  refine A_aload_n 0 d_Reader_read_156 rfl rfl ?_
  refine A_getIf T_ok d_Reader_read_157 f_Reader_43 (hb_s hb0 sf_2) (fun x1 ex1 lx1 ux1 => ?_)
  replace H := H x1 ex1 lx1 ux1
  exact A_iret d_Reader_read_160 (by decide) rfl H
def B_Reader_read_150 (G : cx_T) (s : Nat) (a2 : Int) (v3 : Int) (v4 : Int) (h : ah_T) (Q : Option av_T → ah_T → Prop) (X31 : Int → Int → ah_T → Prop) : Prop :=
 ((-2147483648) ≤ (v4 + 1) ∧ (v4 + 1) ≤ 2147483647) ∧ X31 (v3) ((v4 + 1)) h
theorem b_Reader_read_150 {G : cx_T} {s : Nat} {a2 : Int} {v3 : Int} {v4 : Int} {h : ah_T} {Q : Option av_T → ah_T → Prop} {X31 : Int → Int → ah_T → Prop} (hX31 : ∀ (v3 : Int) (v4 : Int) (h : ah_T), hb s h → X31 v3 v4 h → aw G (rm_R 23 0 0) m_Reader_read 0 0 31 [some (av_R (some 2)), none, none, some (av_I v3), some (av_I v4)] [] h Q) (hb0 : hb s h) (H : B_Reader_read_150 G s a2 v3 v4 h Q X31) : aw G (rm_R 23 0 0) m_Reader_read 0 0 150 [some (av_R (some 2)), none, none, some (av_I v3), some (av_I v4)] [] h Q := by
  unfold B_Reader_read_150 at H
  have hS : isS s := hb0.2.1
  have g1 := H.1
  replace H := H.2
  refine A_iincv (z := (v4 + 1)) (L' := [some (av_R (some 2)), none, none, some (av_I v3), some (av_I (v4 + 1))]) d_Reader_read_150 rfl (w32_to (by omega) (by unfold i32; omega)) rfl ?_
  refine A_goto (tgt := 31) d_Reader_read_153 (by decide) ?_
  refine A_pc (pc' := 31) rfl ?_
  exact hX31 (v3) ((v4 + 1)) h  hb0 H
def B_Reader_read_149 (G : cx_T) (s : Nat) (a2 : Int) (v4 : Int) (t0 : Int) (h : ah_T) (Q : Option av_T → ah_T → Prop) (X31 : Int → Int → ah_T → Prop) : Prop :=
 B_Reader_read_150 G s a2 (t0) (v4) h Q X31
theorem b_Reader_read_149 {G : cx_T} {s : Nat} {a2 : Int} {v4 : Int} {t0 : Int} {h : ah_T} {Q : Option av_T → ah_T → Prop} {X31 : Int → Int → ah_T → Prop} (hX31 : ∀ (v3 : Int) (v4 : Int) (h : ah_T), hb s h → X31 v3 v4 h → aw G (rm_R 23 0 0) m_Reader_read 0 0 31 [some (av_R (some 2)), none, none, some (av_I v3), some (av_I v4)] [] h Q) (hb0 : hb s h) (H : B_Reader_read_149 G s a2 v4 t0 h Q X31) : aw G (rm_R 23 0 0) m_Reader_read 0 0 149 [some (av_R (some 2)), none, none, none, some (av_I v4)] [av_I t0] h Q := by
  unfold B_Reader_read_149 at H
  have hS : isS s := hb0.2.1
  refine A_istore_n 3 (L' := [some (av_R (some 2)), none, none, some (av_I t0), some (av_I v4)]) d_Reader_read_149 rfl (Nat.le_of_ble_eq_true rfl) rfl ?_
  refine A_pc (pc' := 150) rfl ?_
  exact b_Reader_read_150  hX31  hb0 H
def B_Reader_read_148 (G : cx_T) (s : Nat) (a2 : Int) (v4 : Int) (h : ah_T) (Q : Option av_T → ah_T → Prop) (X31 : Int → Int → ah_T → Prop) : Prop :=
 B_Reader_read_149 G s a2 (v4) (0) h Q X31
theorem b_Reader_read_148 {G : cx_T} {s : Nat} {a2 : Int} {v4 : Int} {h : ah_T} {Q : Option av_T → ah_T → Prop} {X31 : Int → Int → ah_T → Prop} (hX31 : ∀ (v3 : Int) (v4 : Int) (h : ah_T), hb s h → X31 v3 v4 h → aw G (rm_R 23 0 0) m_Reader_read 0 0 31 [some (av_R (some 2)), none, none, some (av_I v3), some (av_I v4)] [] h Q) (hb0 : hb s h) (H : B_Reader_read_148 G s a2 v4 h Q X31) : aw G (rm_R 23 0 0) m_Reader_read 0 0 148 [some (av_R (some 2)), none, none, none, some (av_I v4)] [] h Q := by
  unfold B_Reader_read_148 at H
  have hS : isS s := hb0.2.1
  refine A_iconst d_Reader_read_148 rfl ?_
  refine A_pc (pc' := 149) rfl ?_
  exact b_Reader_read_149  hX31  hb0 H
def B_Reader_read_31 (G : cx_T) (s : Nat) (a2 : Int) (v3 : Int) (v4 : Int) (h : ah_T) (Q : Option av_T → ah_T → Prop) (X31 : Int → Int → ah_T → Prop) : Prop :=
 ((2000 ≤ v4 → B_Reader_read_156 G s a2 h Q ) ∧ (¬ 2000 ≤ v4 → ((v3 = 0 → B_Reader_read_156 G s a2 h Q ) ∧ (¬ v3 = 0 → ∀ x2 : Int, x2 = h.2.1 3 9 → -2147483648 ≤ x2 → x2 ≤ 2147483647 → ((x2 = 261 → con G 2 0 0 m_Reader_readTime [av_R (some 2)] h (fun r h3 => ∃ z5 : Int, r = some (av_I z5) ∧ hb s h3 ∧ B_Reader_read_150 G s a2 (z5) (v4) h3 Q X31)) ∧ (x2 = 262 → con G 22 0 0 m_Reader_readVoice [av_R (some 2)] h (fun r h6 => ∃ z8 : Int, r = some (av_I z8) ∧ hb s h6 ∧ B_Reader_read_150 G s a2 (z8) (v4) h6 Q X31)) ∧ (x2 = 263 → con G 2 0 0 m_Reader_readLine [av_R (some 2)] h (fun r h9 => ∃ z11 : Int, r = some (av_I z11) ∧ hb s h9 ∧ B_Reader_read_150 G s a2 (z11) (v4) h9 Q X31)) ∧ (x2 = 264 → con G 2 0 0 m_Reader_readRule [av_R (some 2)] h (fun r h12 => ∃ z14 : Int, r = some (av_I z14) ∧ hb s h12 ∧ B_Reader_read_150 G s a2 (z14) (v4) h12 Q X31)) ∧ (x2 = 265 → con G 2 0 0 m_Reader_readRow [av_R (some 2)] h (fun r h15 => ∃ z17 : Int, r = some (av_I z17) ∧ hb s h15 ∧ B_Reader_read_150 G s a2 (z17) (v4) h15 Q X31)) ∧ ((x2 < 261 ∨ 265 < x2) → ((x2 = 256 → B_Reader_read_148 G s a2 (v4) h Q X31) ∧ (¬ x2 = 256 → con G 0 0 0 m_Reader_refuse [av_R (some 2)] h (fun r h20 => ∃ z22 : Int, r = some (av_I z22) ∧ hb s h20 ∧ ((z22 = 0 → B_Reader_read_148 G s a2 (v4) h20 Q X31) ∧ (¬ z22 = 0 → B_Reader_read_149 G s a2 (v4) (1) h20 Q X31)))))))))))
theorem b_Reader_read_31 {G : cx_T} {s : Nat} {a2 : Int} {v3 : Int} {v4 : Int} {h : ah_T} {Q : Option av_T → ah_T → Prop} {X31 : Int → Int → ah_T → Prop} (hX31 : ∀ (v3 : Int) (v4 : Int) (h : ah_T), hb s h → X31 v3 v4 h → aw G (rm_R 23 0 0) m_Reader_read 0 0 31 [some (av_R (some 2)), none, none, some (av_I v3), some (av_I v4)] [] h Q) (hb0 : hb s h) (H : B_Reader_read_31 G s a2 v3 v4 h Q X31) : aw G (rm_R 23 0 0) m_Reader_read 0 0 31 [some (av_R (some 2)), none, none, some (av_I v3), some (av_I v4)] [] h Q := by
  unfold B_Reader_read_31 at H
  have hS : isS s := hb0.2.1
  refine A_iload d_Reader_read_31 rfl ?_
  refine A_sipush d_Reader_read_33 rfl ?_
  refine A_icmp_ge (tgt := 156) d_Reader_read_36 (by decide) (fun c => ?_) (fun c => ?_)
  · replace H := H.1 c
    refine A_pc (pc' := 156) rfl ?_
    refine A_free (L' := [some (av_R (some 2)), none, none, none, none]) (And.intro rfl trivial) ?_
    exact b_Reader_read_156    hb0 H
  · replace H := H.2 c
    refine A_iload_n 3 d_Reader_read_39 rfl rfl ?_
    refine A_if_eq (tgt := 156) d_Reader_read_40 (by decide) (fun c => ?_) (fun c => ?_)
    · replace H := H.1 c
      refine A_pc (pc' := 156) rfl ?_
      refine A_free (L' := [some (av_R (some 2)), none, none, none, none]) (And.intro rfl trivial) ?_
      exact b_Reader_read_156    hb0 H
    · replace H := H.2 c
      refine A_aload_n 0 d_Reader_read_43 rfl rfl ?_
      refine A_getOv (z := some 3) T_ok d_Reader_read_44 f_Reader_12 (hb_s hb0 sf_2) (hb_r hb0 rff_2_0) ?_
      refine A_getIf T_ok d_Reader_read_47 f_Reader_50 (hb_s hb0 sf_3) (fun x2 ex2 lx2 ux2 => ?_)
      replace H := H x2 ex2 lx2 ux2
      rcases (by omega : x2 = 261 ∨ x2 = 262 ∨ x2 = 263 ∨ x2 = 264 ∨ x2 = 265 ∨ (x2 < 261 ∨ 265 < x2)) with c | c | c | c | c | c
      · replace H := H.1 c
        refine A_tabIn (tgt := 84) d_Reader_read_50 (by omega) (by omega) (by rw [c]; rfl) (by decide) ?_
        refine A_aload_n 0 d_Reader_read_84 rfl rfl ?_
        refine A_callV0 m_Reader_readTime T_ok d_Reader_read_85 l_Reader_53 k_Reader_readTime (hb_s hb0 sf_2) rfl (by decide +kernel) (by decide) (Nat.le_of_ble_eq_true rfl) H (fun r h3 hq => ?_)
        clear H
        obtain ⟨z5, rfl, hb4, H⟩ := hq
        refine A_istore_n 3 (L' := [some (av_R (some 2)), none, none, some (av_I z5), some (av_I v4)]) d_Reader_read_88 rfl (Nat.le_of_ble_eq_true rfl) rfl ?_
        refine A_goto (tgt := 150) d_Reader_read_89 (by decide) ?_
        refine A_pc (pc' := 150) rfl ?_
        exact b_Reader_read_150  hX31  hb4 H
      · replace H := H.2.1 c
        refine A_tabIn (tgt := 92) d_Reader_read_50 (by omega) (by omega) (by rw [c]; rfl) (by decide) ?_
        refine A_aload_n 0 d_Reader_read_92 rfl rfl ?_
        refine A_callV0 m_Reader_readVoice T_ok d_Reader_read_93 l_Reader_57 k_Reader_readVoice (hb_s hb0 sf_2) rfl (by decide +kernel) (by decide) (Nat.le_of_ble_eq_true rfl) H (fun r h6 hq => ?_)
        clear H
        obtain ⟨z8, rfl, hb7, H⟩ := hq
        refine A_istore_n 3 (L' := [some (av_R (some 2)), none, none, some (av_I z8), some (av_I v4)]) d_Reader_read_96 rfl (Nat.le_of_ble_eq_true rfl) rfl ?_
        refine A_goto (tgt := 150) d_Reader_read_97 (by decide) ?_
        refine A_pc (pc' := 150) rfl ?_
        exact b_Reader_read_150  hX31  hb7 H
      · replace H := H.2.2.1 c
        refine A_tabIn (tgt := 100) d_Reader_read_50 (by omega) (by omega) (by rw [c]; rfl) (by decide) ?_
        refine A_aload_n 0 d_Reader_read_100 rfl rfl ?_
        refine A_callV0 m_Reader_readLine T_ok d_Reader_read_101 l_Reader_60 k_Reader_readLine (hb_s hb0 sf_2) rfl (by decide +kernel) (by decide) (Nat.le_of_ble_eq_true rfl) H (fun r h9 hq => ?_)
        clear H
        obtain ⟨z11, rfl, hb10, H⟩ := hq
        refine A_istore_n 3 (L' := [some (av_R (some 2)), none, none, some (av_I z11), some (av_I v4)]) d_Reader_read_104 rfl (Nat.le_of_ble_eq_true rfl) rfl ?_
        refine A_goto (tgt := 150) d_Reader_read_105 (by decide) ?_
        refine A_pc (pc' := 150) rfl ?_
        exact b_Reader_read_150  hX31  hb10 H
      · replace H := H.2.2.2.1 c
        refine A_tabIn (tgt := 108) d_Reader_read_50 (by omega) (by omega) (by rw [c]; rfl) (by decide) ?_
        refine A_aload_n 0 d_Reader_read_108 rfl rfl ?_
        refine A_callV0 m_Reader_readRule T_ok d_Reader_read_109 l_Reader_63 k_Reader_readRule (hb_s hb0 sf_2) rfl (by decide +kernel) (by decide) (Nat.le_of_ble_eq_true rfl) H (fun r h12 hq => ?_)
        clear H
        obtain ⟨z14, rfl, hb13, H⟩ := hq
        refine A_istore_n 3 (L' := [some (av_R (some 2)), none, none, some (av_I z14), some (av_I v4)]) d_Reader_read_112 rfl (Nat.le_of_ble_eq_true rfl) rfl ?_
        refine A_goto (tgt := 150) d_Reader_read_113 (by decide) ?_
        refine A_pc (pc' := 150) rfl ?_
        exact b_Reader_read_150  hX31  hb13 H
      · replace H := H.2.2.2.2.1 c
        refine A_tabIn (tgt := 116) d_Reader_read_50 (by omega) (by omega) (by rw [c]; rfl) (by decide) ?_
        refine A_aload_n 0 d_Reader_read_116 rfl rfl ?_
        refine A_callV0 m_Reader_readRow T_ok d_Reader_read_117 l_Reader_66 k_Reader_readRow (hb_s hb0 sf_2) rfl (by decide +kernel) (by decide) (Nat.le_of_ble_eq_true rfl) H (fun r h15 hq => ?_)
        clear H
        obtain ⟨z17, rfl, hb16, H⟩ := hq
        refine A_istore_n 3 (L' := [some (av_R (some 2)), none, none, some (av_I z17), some (av_I v4)]) d_Reader_read_120 rfl (Nat.le_of_ble_eq_true rfl) rfl ?_
        refine A_goto (tgt := 150) d_Reader_read_121 (by decide) ?_
        refine A_pc (pc' := 150) rfl ?_
        exact b_Reader_read_150  hX31  hb16 H
      · replace H := H.2.2.2.2.2 c
        refine A_tabOut (tgt := 124) d_Reader_read_50 (by omega) (by decide) ?_
        refine A_aload_n 0 d_Reader_read_124 rfl rfl ?_
        refine A_getOv (z := some 3) T_ok d_Reader_read_125 f_Reader_12 (hb_s hb0 sf_2) (hb_r hb0 rff_2_0) ?_
        refine A_getIv (z := x2) T_ok d_Reader_read_128 f_Reader_50 (hb_s hb0 sf_3) ex2.symm ?_
        refine A_sipush d_Reader_read_131 rfl ?_
        refine A_icmp_eq (tgt := 148) d_Reader_read_134 (by decide) (fun c => ?_) (fun c => ?_)
        · replace H := H.1 c
          refine A_pc (pc' := 148) rfl ?_
          refine A_free (L' := [some (av_R (some 2)), none, none, none, some (av_I v4)]) (And.intro rfl (And.intro rfl trivial)) ?_
          exact b_Reader_read_148  hX31  hb0 H
        · replace H := H.2 c
          refine A_aload_n 0 d_Reader_read_137 rfl rfl ?_
          refine A_callV0 m_Reader_refuse T_ok d_Reader_read_138 l_Reader_69 k_Reader_refuse (hb_s hb0 sf_2) rfl (by decide +kernel) (by decide) (Nat.le_of_ble_eq_true rfl) H (fun r h20 hq => ?_)
          clear H
          obtain ⟨z22, rfl, hb21, H⟩ := hq
          refine A_if_eq (tgt := 148) d_Reader_read_141 (by decide) (fun c => ?_) (fun c => ?_)
          · replace H := H.1 c
            refine A_pc (pc' := 148) rfl ?_
            refine A_free (L' := [some (av_R (some 2)), none, none, none, some (av_I v4)]) (And.intro rfl (And.intro rfl trivial)) ?_
            exact b_Reader_read_148  hX31  hb21 H
          · replace H := H.2 c
            refine A_iconst d_Reader_read_144 rfl ?_
            refine A_goto (tgt := 149) d_Reader_read_145 (by decide) ?_
            refine A_pc (pc' := 149) rfl ?_
            refine A_free (L' := [some (av_R (some 2)), none, none, none, some (av_I v4)]) (And.intro rfl (And.intro rfl trivial)) ?_
            exact b_Reader_read_149  hX31  hb21 H
theorem lp_Reader_read_31 {G : cx_T} {s : Nat} {a2 : Int} {Q : Option av_T → ah_T → Prop} (I : Int → Int → ah_T → Prop) (μ : Int → Int → ah_T → Nat) (hI : ∀ (v3 : Int) (v4 : Int) (h : ah_T), hb s h → I v3 v4 h → B_Reader_read_31 G s a2 v3 v4 h Q (fun v3' v4' h' => I v3' v4' h' ∧ μ v3' v4' h' < μ v3 v4 h)) : ∀ (v3 : Int) (v4 : Int) (h : ah_T), hb s h → I v3 v4 h → aw G (rm_R 23 0 0) m_Reader_read 0 0 31 [some (av_R (some 2)), none, none, some (av_I v3), some (av_I v4)] [] h Q := by
  have key : ∀ (n : Nat) (v3 : Int) (v4 : Int) (h : ah_T), hb s h → I v3 v4 h → μ v3 v4 h < n → aw G (rm_R 23 0 0) m_Reader_read 0 0 31 [some (av_R (some 2)), none, none, some (av_I v3), some (av_I v4)] [] h Q := by
    intro n
    induction n with
    | zero => intro v3 v4 h  hb0 hi hm; omega
    | succ n ih => intro v3 v4 h  hb0 hi hm; exact b_Reader_read_31  (fun v3' v4' h'  hb' hx => ih v3' v4' h'  hb' hx.1 (by have := hx.2; omega))  hb0 (hI v3 v4 h  hb0 hi)
  exact fun v3 v4 h  hb0 hi => key _ v3 v4 h  hb0 hi (Nat.lt_succ_self _)
def B_Reader_read_0 (G : cx_T) (s : Nat) (a2 : Int) (h : ah_T) (Q : Option av_T → ah_T → Prop) (X31 : Int → Int → ah_T → Prop) : Prop :=
 con G 0 0 0 m_Score_clear [av_R (some s)] h (fun r h2 => r = none ∧ hb s h2 ∧ ∀ h5 : ah_T, h5 = st_i h2 2 3 0 → ∀ h7 : ah_T, h7 = st_i h5 2 6 0 → con G 9 0 0 m_Tokens_cutAll [av_R (some 3), av_R (some 1), av_I a2] h7 (fun r h10 => r = none ∧ hb s h10 ∧ X31 (1) (0) h10))
theorem b_Reader_read_0 {G : cx_T} {s : Nat} {a2 : Int} {h : ah_T} {Q : Option av_T → ah_T → Prop} {X31 : Int → Int → ah_T → Prop} (hX31 : ∀ (v3 : Int) (v4 : Int) (h : ah_T), hb s h → X31 v3 v4 h → aw G (rm_R 23 0 0) m_Reader_read 0 0 31 [some (av_R (some 2)), none, none, some (av_I v3), some (av_I v4)] [] h Q) (hb0 : hb s h) (H : B_Reader_read_0 G s a2 h Q X31) : aw G (rm_R 23 0 0) m_Reader_read 0 0 0 [some (av_R (some 2)), some (av_R (some 1)), some (av_I a2), none, none] [] h Q := by
  unfold B_Reader_read_0 at H
  have hS : isS s := hb0.2.1
  refine A_aload_n 0 d_Reader_read_0 rfl rfl ?_
  refine A_getOv (z := some s) T_ok d_Reader_read_1 f_Reader_32 (hb_s hb0 sf_2) hb0.2.2.2.1 ?_
  refine A_callV0 m_Score_clear T_ok d_Reader_read_4 l_Reader_36 k_Score_clear (hs_S hb0 hS) rfl (by decide +kernel) (by decide) (Nat.le_of_ble_eq_true rfl) H (fun r h2 hq => ?_)
  clear H
  obtain ⟨rfl, hb3, H⟩ := hq
  refine A_aload_n 0 d_Reader_read_7 rfl rfl ?_
  refine A_iconst d_Reader_read_8 rfl ?_
  refine A_putI T_ok d_Reader_read_9 f_Reader_39 (hb_s hb3 sf_2) fin_f ?_
  refine A_hn (fun h5 eh5 => ?_)
  have hb6 := hb_i hb3 eh5
  replace H := H h5 eh5
  refine A_aload_n 0 d_Reader_read_12 rfl rfl ?_
  refine A_iconst d_Reader_read_13 rfl ?_
  refine A_pc (pc' := 14) rfl ?_
  refine A_putI T_ok d_Reader_read_14 f_Reader_43 (hb_s hb6 sf_2) fin_f ?_
  refine A_hn (fun h7 eh7 => ?_)
  have hb8 := hb_i hb6 eh7
  replace H := H h7 eh7
  refine A_aload_n 0 d_Reader_read_17 rfl rfl ?_
  refine A_getOv (z := some 3) T_ok d_Reader_read_18 f_Reader_12 (hb_s hb8 sf_2) (hb_r hb8 rff_2_0) ?_
  refine A_aload_n 1 d_Reader_read_21 rfl rfl ?_
  refine A_iload_n 2 d_Reader_read_22 rfl rfl ?_
  refine A_callV2 m_Tokens_cutAll T_ok d_Reader_read_23 l_Reader_46 k_Tokens_cutAll (hb_s hb8 sf_3) rfl (by decide +kernel) (by decide) (Nat.le_of_ble_eq_true rfl) H (fun r h10 hq => ?_)
  clear H
  obtain ⟨rfl, hb11, H⟩ := hq
  refine A_iconst d_Reader_read_26 rfl ?_
  refine A_istore_n 3 (L' := [some (av_R (some 2)), some (av_R (some 1)), some (av_I a2), some (av_I 1), none]) d_Reader_read_27 rfl (Nat.le_of_ble_eq_true rfl) rfl ?_
  refine A_iconst d_Reader_read_28 rfl ?_
  refine A_istore (L' := [some (av_R (some 2)), some (av_R (some 1)), some (av_I a2), some (av_I 1), some (av_I 0)]) d_Reader_read_29 (Nat.le_of_ble_eq_true rfl) rfl ?_
  refine A_pc (pc' := 31) rfl ?_
  refine A_free (L' := [some (av_R (some 2)), none, none, some (av_I 1), some (av_I 0)]) (And.intro rfl (And.intro rfl (And.intro rfl trivial))) ?_
  exact hX31 (1) (0) h10  hb11 H
theorem c_Reader_read {G : cx_T} {s : Nat} {a2 : Int} {h : ah_T} {Q : Option av_T → ah_T → Prop} {X31 : Int → Int → ah_T → Prop} (hX31 : ∀ (v3 : Int) (v4 : Int) (h : ah_T), hb s h → X31 v3 v4 h → aw G (rm_R 23 0 0) m_Reader_read 0 0 31 [some (av_R (some 2)), none, none, some (av_I v3), some (av_I v4)] [] h Q) (hb0 : hb s h) (H : i32 a2 → B_Reader_read_0 G s a2 h Q X31) : con G 23 0 0 m_Reader_read [av_R (some 2), av_R (some 1), av_I a2] h Q := by
  have hS : isS s := hb0.2.1
  refine con_of (L := [some (av_R (some 2)), some (av_R (some 1)), some (av_I a2), none, none]) (by decide +kernel) (Nat.le_of_ble_eq_true rfl) rfl ?_
  refine A_locI 2 rfl (fun ra2 => ?_)
  exact b_Reader_read_0  hX31 hb0 (H ra2)
def B_Parts_clear_0 (G : cx_T) (s : Nat) (h : ah_T) (Q : Option av_T → ah_T → Prop) : Prop :=
 ∀ h1 : ah_T, h1 = st_i h 9 4 0 → ∀ h3 : ah_T, h3 = st_i h1 9 7 0 → Q none h3
theorem b_Parts_clear_0 {G : cx_T} {s : Nat} {h : ah_T} {Q : Option av_T → ah_T → Prop} (hb0 : hb s h) (H : B_Parts_clear_0 G s h Q ) : aw G (rm_R 0 0 0) m_Parts_clear 0 0 0 [some (av_R (some 9))] [] h Q := by
  unfold B_Parts_clear_0 at H
  have hS : isS s := hb0.2.1
  refine A_aload_n 0 d_Parts_clear_0 rfl rfl ?_
  refine A_iconst d_Parts_clear_1 rfl ?_
  refine A_putI T_ok d_Parts_clear_2 f_Parts_30 (hb_s hb0 sf_9) fin_f ?_
  refine A_hn (fun h1 eh1 => ?_)
  have hb2 := hb_i hb0 eh1
  replace H := H h1 eh1
  refine A_aload_n 0 d_Parts_clear_5 rfl rfl ?_
  refine A_iconst d_Parts_clear_6 rfl ?_
  refine A_pc (pc' := 7) rfl ?_
  refine A_putI T_ok d_Parts_clear_7 f_Parts_34 (hb_s hb2 sf_9) fin_f ?_
  refine A_hn (fun h3 eh3 => ?_)
  have hb4 := hb_i hb2 eh3
  replace H := H h3 eh3
  exact A_vret d_Parts_clear_10 (by decide) rfl H
theorem c_Parts_clear {G : cx_T} {s : Nat} {h : ah_T} {Q : Option av_T → ah_T → Prop} (hb0 : hb s h) (H : B_Parts_clear_0 G s h Q ) : con G 0 0 0 m_Parts_clear [av_R (some 9)] h Q := by
  have hS : isS s := hb0.2.1
  refine con_of (L := [some (av_R (some 9))]) (by decide +kernel) (Nat.le_of_ble_eq_true rfl) rfl ?_
  exact b_Parts_clear_0   hb0 (H )
def B_Parts_add_70 (G : cx_T) (s : Nat) (a1 : Int) (a2 : Int) (a3 : Int) (h : ah_T) (Q : Option av_T → ah_T → Prop) : Prop :=
 ∀ x2 : Int, x2 = h.2.1 9 4 → -2147483648 ≤ x2 → x2 ≤ 2147483647 → (0 ≤ x2 ∧ x2 < 2000) ∧ ∀ h4 : ah_T, h4 = st_i h 10 (x2).toNat a1 → ∀ h8 : ah_T, h8 = st_i h4 12 (x2).toNat a2 → ∀ h12 : ah_T, h12 = st_i h8 13 (x2).toNat a3 → ∀ h17 : ah_T, h17 = st_i h12 11 (x2).toNat x2 → ((-2147483648) ≤ (x2 + 1) ∧ (x2 + 1) ≤ 2147483647) ∧ ∀ h21 : ah_T, h21 = st_i h17 9 4 (x2 + 1) → Q none h21
theorem b_Parts_add_70 {G : cx_T} {s : Nat} {a1 : Int} {a2 : Int} {a3 : Int} {h : ah_T} {Q : Option av_T → ah_T → Prop} (hb0 : hb s h) (H : B_Parts_add_70 G s a1 a2 a3 h Q ) : aw G (rm_R 0 0 0) m_Parts_add 0 0 70 [some (av_R (some 9)), some (av_I a1), some (av_I a2), some (av_I a3)] [] h Q := by
  unfold B_Parts_add_70 at H
  have hS : isS s := hb0.2.1
  refine A_aload_n 0 d_Parts_add_70 rfl rfl ?_
  refine A_getAv (z := some 10) T_ok d_Parts_add_71 f_Parts_9 (hb_s hb0 sf_9) (hb_r hb0 rff_9_0) ?_
  refine A_aload_n 0 d_Parts_add_74 rfl rfl ?_
  refine A_getIf T_ok d_Parts_add_75 f_Parts_30 (hb_s hb0 sf_9) (fun x2 ex2 lx2 ux2 => ?_)
  replace H := H x2 ex2 lx2 ux2
  refine A_iload_n 1 d_Parts_add_78 rfl rfl ?_
  refine A_pc (pc' := 79) rfl ?_
  have g3 := H.1
  replace H := H.2
  refine A_iastoreN d_Parts_add_79 (hb_s hb0 sf_10) g3.1 g3.2 ?_
  refine A_hn (fun h4 eh4 => ?_)
  have hb5 := hb_i hb0 eh4
  replace H := H h4 eh4
  refine A_aload_n 0 d_Parts_add_80 rfl rfl ?_
  refine A_getAv (z := some 12) T_ok d_Parts_add_81 f_Parts_18 (hb_s hb5 sf_9) (hb_r hb5 rff_9_2) ?_
  refine A_aload_n 0 d_Parts_add_84 rfl rfl ?_
  refine A_getIv (z := x2) T_ok d_Parts_add_85 f_Parts_30 (hb_s hb5 sf_9) ((mm_i eh4 (fun q => absurd q.1 (by decide))).trans ex2.symm) ?_
  refine A_iload_n 2 d_Parts_add_88 rfl rfl ?_
  refine A_pc (pc' := 89) rfl ?_
  refine A_iastoreN d_Parts_add_89 (hb_s hb5 sf_12) g3.1 g3.2 ?_
  refine A_hn (fun h8 eh8 => ?_)
  have hb9 := hb_i hb5 eh8
  replace H := H h8 eh8
  refine A_aload_n 0 d_Parts_add_90 rfl rfl ?_
  refine A_getAv (z := some 13) T_ok d_Parts_add_91 f_Parts_21 (hb_s hb9 sf_9) (hb_r hb9 rff_9_3) ?_
  refine A_aload_n 0 d_Parts_add_94 rfl rfl ?_
  refine A_getIv (z := x2) T_ok d_Parts_add_95 f_Parts_30 (hb_s hb9 sf_9) ((mm_i eh8 (fun q => absurd q.1 (by decide))).trans ((mm_i eh4 (fun q => absurd q.1 (by decide))).trans ex2.symm)) ?_
  refine A_iload_n 3 d_Parts_add_98 rfl rfl ?_
  refine A_pc (pc' := 99) rfl ?_
  refine A_iastoreN d_Parts_add_99 (hb_s hb9 sf_13) g3.1 g3.2 ?_
  refine A_hn (fun h12 eh12 => ?_)
  have hb13 := hb_i hb9 eh12
  replace H := H h12 eh12
  refine A_aload_n 0 d_Parts_add_100 rfl rfl ?_
  refine A_getAv (z := some 11) T_ok d_Parts_add_101 f_Parts_15 (hb_s hb13 sf_9) (hb_r hb13 rff_9_1) ?_
  refine A_aload_n 0 d_Parts_add_104 rfl rfl ?_
  refine A_getIv (z := x2) T_ok d_Parts_add_105 f_Parts_30 (hb_s hb13 sf_9) ((mm_i eh12 (fun q => absurd q.1 (by decide))).trans ((mm_i eh8 (fun q => absurd q.1 (by decide))).trans ((mm_i eh4 (fun q => absurd q.1 (by decide))).trans ex2.symm))) ?_
  refine A_aload_n 0 d_Parts_add_108 rfl rfl ?_
  refine A_pc (pc' := 109) rfl ?_
  refine A_getIv (z := x2) T_ok d_Parts_add_109 f_Parts_30 (hb_s hb13 sf_9) ((mm_i eh12 (fun q => absurd q.1 (by decide))).trans ((mm_i eh8 (fun q => absurd q.1 (by decide))).trans ((mm_i eh4 (fun q => absurd q.1 (by decide))).trans ex2.symm))) ?_
  refine A_iastoreN d_Parts_add_112 (hb_s hb13 sf_11) g3.1 g3.2 ?_
  refine A_hn (fun h17 eh17 => ?_)
  have hb18 := hb_i hb13 eh17
  replace H := H h17 eh17
  refine A_aload_n 0 d_Parts_add_113 rfl rfl ?_
  refine A_dupR d_Parts_add_114 ?_
  refine A_getIv (z := x2) T_ok d_Parts_add_115 f_Parts_30 (hb_s hb18 sf_9) ((mm_i eh17 (fun q => absurd q.1 (by decide))).trans ((mm_i eh12 (fun q => absurd q.1 (by decide))).trans ((mm_i eh8 (fun q => absurd q.1 (by decide))).trans ((mm_i eh4 (fun q => absurd q.1 (by decide))).trans ex2.symm)))) ?_
  refine A_iconst d_Parts_add_118 rfl ?_
  refine A_pc (pc' := 119) rfl ?_
  have g20 := H.1
  replace H := H.2
  refine A_iaddv (z := (x2 + 1)) d_Parts_add_119 (w32_to (by omega) (by unfold i32; omega)) ?_
  refine A_putI T_ok d_Parts_add_120 f_Parts_30 (hb_s hb18 sf_9) fin_f ?_
  refine A_hn (fun h21 eh21 => ?_)
  have hb22 := hb_i hb18 eh21
  replace H := H h21 eh21
  exact A_vret d_Parts_add_123 (by decide) rfl H
def B_Parts_add_25 (G : cx_T) (s : Nat) (a1 : Int) (a2 : Int) (a3 : Int) (h : ah_T) (Q : Option av_T → ah_T → Prop) : Prop :=
 ∀ x1 : Int, x1 = h.2.1 9 7 → -2147483648 ≤ x1 → x1 ≤ 2147483647 → ((7 ≤ x1 → B_Parts_add_70 G s a1 a2 a3 h Q ) ∧ (¬ 7 ≤ x1 → ∀ x4 : Int, x4 = h.2.1 9 4 → -2147483648 ≤ x4 → x4 ≤ 2147483647 → (0 ≤ x1 ∧ x1 < 7) ∧ ∀ h6 : ah_T, h6 = st_i h 14 (x1).toNat x4 → ∀ h11 : ah_T, h11 = st_i h6 15 (x1).toNat x4 → ((-2147483648) ≤ (x1 + 1) ∧ (x1 + 1) ≤ 2147483647) ∧ ∀ h15 : ah_T, h15 = st_i h11 9 7 (x1 + 1) → B_Parts_add_70 G s a1 a2 a3 h15 Q ))
theorem b_Parts_add_25 {G : cx_T} {s : Nat} {a1 : Int} {a2 : Int} {a3 : Int} {h : ah_T} {Q : Option av_T → ah_T → Prop} (hb0 : hb s h) (H : B_Parts_add_25 G s a1 a2 a3 h Q ) : aw G (rm_R 0 0 0) m_Parts_add 0 0 25 [some (av_R (some 9)), some (av_I a1), some (av_I a2), some (av_I a3)] [] h Q := by
  unfold B_Parts_add_25 at H
  have hS : isS s := hb0.2.1
  refine A_aload_n 0 d_Parts_add_25 rfl rfl ?_
  refine A_getIf T_ok d_Parts_add_26 f_Parts_34 (hb_s hb0 sf_9) (fun x1 ex1 lx1 ux1 => ?_)
  replace H := H x1 ex1 lx1 ux1
  refine A_bipush d_Parts_add_29 rfl ?_
  refine A_icmp_ge (tgt := 70) d_Parts_add_31 (by decide) (fun c => ?_) (fun c => ?_)
  · replace H := H.1 c
    refine A_pc (pc' := 70) rfl ?_
    exact b_Parts_add_70    hb0 H
  · replace H := H.2 c
    refine A_aload_n 0 d_Parts_add_34 rfl rfl ?_
    refine A_getAv (z := some 14) T_ok d_Parts_add_35 f_Parts_24 (hb_s hb0 sf_9) (hb_r hb0 rff_9_5) ?_
    refine A_aload_n 0 d_Parts_add_38 rfl rfl ?_
    refine A_getIv (z := x1) T_ok d_Parts_add_39 f_Parts_34 (hb_s hb0 sf_9) ex1.symm ?_
    refine A_aload_n 0 d_Parts_add_42 rfl rfl ?_
    refine A_pc (pc' := 43) rfl ?_
    refine A_getIf T_ok d_Parts_add_43 f_Parts_30 (hb_s hb0 sf_9) (fun x4 ex4 lx4 ux4 => ?_)
    replace H := H x4 ex4 lx4 ux4
    have g5 := H.1
    replace H := H.2
    refine A_iastoreN d_Parts_add_46 (hb_s hb0 sf_14) g5.1 g5.2 ?_
    refine A_hn (fun h6 eh6 => ?_)
    have hb7 := hb_i hb0 eh6
    replace H := H h6 eh6
    refine A_aload_n 0 d_Parts_add_47 rfl rfl ?_
    refine A_getAv (z := some 15) T_ok d_Parts_add_48 f_Parts_27 (hb_s hb7 sf_9) (hb_r hb7 rff_9_6) ?_
    refine A_aload_n 0 d_Parts_add_51 rfl rfl ?_
    refine A_getIv (z := x1) T_ok d_Parts_add_52 f_Parts_34 (hb_s hb7 sf_9) ((mm_i eh6 (fun q => absurd q.1 (by decide))).trans ex1.symm) ?_
    refine A_pc (pc' := 55) rfl ?_
    refine A_aload_n 0 d_Parts_add_55 rfl rfl ?_
    refine A_getIv (z := x4) T_ok d_Parts_add_56 f_Parts_30 (hb_s hb7 sf_9) ((mm_i eh6 (fun q => absurd q.1 (by decide))).trans ex4.symm) ?_
    refine A_iastoreN d_Parts_add_59 (hb_s hb7 sf_15) g5.1 g5.2 ?_
    refine A_hn (fun h11 eh11 => ?_)
    have hb12 := hb_i hb7 eh11
    replace H := H h11 eh11
    refine A_aload_n 0 d_Parts_add_60 rfl rfl ?_
    refine A_dupR d_Parts_add_61 ?_
    refine A_getIv (z := x1) T_ok d_Parts_add_62 f_Parts_34 (hb_s hb12 sf_9) ((mm_i eh11 (fun q => absurd q.1 (by decide))).trans ((mm_i eh6 (fun q => absurd q.1 (by decide))).trans ex1.symm)) ?_
    refine A_pc (pc' := 65) rfl ?_
    refine A_iconst d_Parts_add_65 rfl ?_
    have g14 := H.1
    replace H := H.2
    refine A_iaddv (z := (x1 + 1)) d_Parts_add_66 (w32_to (by omega) (by unfold i32; omega)) ?_
    refine A_putI T_ok d_Parts_add_67 f_Parts_34 (hb_s hb12 sf_9) fin_f ?_
    refine A_hn (fun h15 eh15 => ?_)
    have hb16 := hb_i hb12 eh15
    replace H := H h15 eh15
    refine A_pc (pc' := 70) rfl ?_
    exact b_Parts_add_70    hb16 H
def B_Parts_add_0 (G : cx_T) (s : Nat) (a1 : Int) (a2 : Int) (a3 : Int) (h : ah_T) (Q : Option av_T → ah_T → Prop) : Prop :=
 ∀ x1 : Int, x1 = h.2.1 9 4 → -2147483648 ≤ x1 → x1 ≤ 2147483647 → ((x1 < 2000 → ((a1 = 91 → B_Parts_add_25 G s a1 a2 a3 h Q ) ∧ (¬ a1 = 91 → ((a1 = 123 → B_Parts_add_25 G s a1 a2 a3 h Q ) ∧ (¬ a1 = 123 → B_Parts_add_70 G s a1 a2 a3 h Q ))))) ∧ (¬ x1 < 2000 → Q none h))
theorem b_Parts_add_0 {G : cx_T} {s : Nat} {a1 : Int} {a2 : Int} {a3 : Int} {h : ah_T} {Q : Option av_T → ah_T → Prop} (hb0 : hb s h) (H : B_Parts_add_0 G s a1 a2 a3 h Q ) : aw G (rm_R 0 0 0) m_Parts_add 0 0 0 [some (av_R (some 9)), some (av_I a1), some (av_I a2), some (av_I a3)] [] h Q := by
  unfold B_Parts_add_0 at H
  have hS : isS s := hb0.2.1
  refine A_aload_n 0 d_Parts_add_0 rfl rfl ?_
  refine A_getIf T_ok d_Parts_add_1 f_Parts_30 (hb_s hb0 sf_9) (fun x1 ex1 lx1 ux1 => ?_)
  replace H := H x1 ex1 lx1 ux1
  refine A_aload_n 0 d_Parts_add_4 rfl rfl ?_
  refine A_getAv (z := some 10) T_ok d_Parts_add_5 f_Parts_9 (hb_s hb0 sf_9) (hb_r hb0 rff_9_0) ?_
  refine A_alenN d_Parts_add_8 (hb_s hb0 sf_10) (by decide) (by decide) ?_
  refine A_pc (pc' := 9) rfl ?_
  refine A_icmp_lt (tgt := 13) d_Parts_add_9 (by decide) (fun c => ?_) (fun c => ?_)
  · replace H := H.1 c
    refine A_iload_n 1 d_Parts_add_13 rfl rfl ?_
    refine A_bipush d_Parts_add_14 rfl ?_
    refine A_icmp_eq (tgt := 25) d_Parts_add_16 (by decide) (fun c => ?_) (fun c => ?_)
    · replace H := H.1 c
      refine A_pc (pc' := 25) rfl ?_
      exact b_Parts_add_25    hb0 H
    · replace H := H.2 c
      refine A_iload_n 1 d_Parts_add_19 rfl rfl ?_
      refine A_bipush d_Parts_add_20 rfl ?_
      refine A_icmp_ne (tgt := 70) d_Parts_add_22 (by decide) (fun c => ?_) (fun c => ?_)
      · replace H := H.2 c
        refine A_pc (pc' := 70) rfl ?_
        exact b_Parts_add_70    hb0 H
      · replace H := H.1 c
        refine A_pc (pc' := 25) rfl ?_
        exact b_Parts_add_25    hb0 H
  · replace H := H.2 c
    exact A_vret d_Parts_add_12 (by decide) rfl H
theorem c_Parts_add {G : cx_T} {s : Nat} {a1 : Int} {a2 : Int} {a3 : Int} {h : ah_T} {Q : Option av_T → ah_T → Prop} (hb0 : hb s h) (H : i32 a1 → i32 a2 → i32 a3 → B_Parts_add_0 G s a1 a2 a3 h Q ) : con G 0 0 0 m_Parts_add [av_R (some 9), av_I a1, av_I a2, av_I a3] h Q := by
  have hS : isS s := hb0.2.1
  refine con_of (L := [some (av_R (some 9)), some (av_I a1), some (av_I a2), some (av_I a3)]) (by decide +kernel) (Nat.le_of_ble_eq_true rfl) rfl ?_
  refine A_locI 1 rfl (fun ra1 => ?_)
  refine A_locI 2 rfl (fun ra2 => ?_)
  refine A_locI 3 rfl (fun ra3 => ?_)
  exact b_Parts_add_0   hb0 (H ra1 ra2 ra3)
def B_Parts_addMark_115 (G : cx_T) (s : Nat) (a1 : Int) (h : ah_T) (Q : Option av_T → ah_T → Prop) : Prop :=
 Q (some (av_I 1)) h
theorem b_Parts_addMark_115 {G : cx_T} {s : Nat} {a1 : Int} {h : ah_T} {Q : Option av_T → ah_T → Prop} (hb0 : hb s h) (H : B_Parts_addMark_115 G s a1 h Q ) : aw G (rm_R 1 0 0) m_Parts_addMark 0 0 115 [none, none, none] [] h Q := by
  unfold B_Parts_addMark_115 at H
  have hS : isS s := hb0.2.1
  refine A_iconst d_Parts_addMark_115 rfl ?_
  exact A_zret d_Parts_addMark_116 (by decide) rfl (by decide) H
def B_Parts_addMark_62 (G : cx_T) (s : Nat) (a1 : Int) (v2 : Int) (t0 : Int) (t1 : Int) (h : ah_T) (Q : Option av_T → ah_T → Prop) : Prop :=
 ((t0 = t1 → (0 ≤ v2 ∧ v2 < 7) ∧ ∀ x3 : Int, x3 = h.2.1 15 (v2).toNat → -2147483648 ≤ x3 → x3 ≤ 2147483647 → ∀ x5 : Int, x5 = h.2.1 9 4 → -2147483648 ≤ x5 → x5 ≤ 2147483647 → (0 ≤ x3 ∧ x3 < 2000) ∧ ∀ h7 : ah_T, h7 = st_i h 11 (x3).toNat x5 → ∀ h11 : ah_T, h11 = st_i h7 15 (v2).toNat x5 → con G 0 0 0 m_Parts_add [av_R (some 9), av_I a1, av_I 0, av_I 0] h11 (fun r h13 => r = none ∧ hb s h13 ∧ ((a1 = 58 → B_Parts_addMark_115 G s a1 h13 Q ) ∧ (¬ a1 = 58 → ∀ x16 : Int, x16 = h13.2.1 9 7 → -2147483648 ≤ x16 → x16 ≤ 2147483647 → ((-2147483648) ≤ (x16 - 1) ∧ (x16 - 1) ≤ 2147483647) ∧ ∀ h18 : ah_T, h18 = st_i h13 9 7 (x16 - 1) → B_Parts_addMark_115 G s a1 h18 Q )))) ∧ (¬ t0 = t1 → Q (some (av_I 0)) h))
theorem b_Parts_addMark_62 {G : cx_T} {s : Nat} {a1 : Int} {v2 : Int} {t0 : Int} {t1 : Int} {h : ah_T} {Q : Option av_T → ah_T → Prop} (hb0 : hb s h) (H : B_Parts_addMark_62 G s a1 v2 t0 t1 h Q ) : aw G (rm_R 1 0 0) m_Parts_addMark 0 0 62 [some (av_R (some 9)), some (av_I a1), some (av_I v2)] [av_I t1, av_I t0] h Q := by
  unfold B_Parts_addMark_62 at H
  have hS : isS s := hb0.2.1
  refine A_icmp_eq (tgt := 67) d_Parts_addMark_62 (by decide) (fun c => ?_) (fun c => ?_)
  · replace H := H.1 c
    refine A_aload_n 0 d_Parts_addMark_67 rfl rfl ?_
    refine A_getAv (z := some 11) T_ok d_Parts_addMark_68 f_Parts_15 (hb_s hb0 sf_9) (hb_r hb0 rff_9_1) ?_
    refine A_aload_n 0 d_Parts_addMark_71 rfl rfl ?_
    refine A_getAv (z := some 15) T_ok d_Parts_addMark_72 f_Parts_27 (hb_s hb0 sf_9) (hb_r hb0 rff_9_6) ?_
    refine A_iload_n 2 d_Parts_addMark_75 rfl rfl ?_
    refine A_pc (pc' := 76) rfl ?_
    have g4 := H.1
    replace H := H.2
    refine A_ialoadf d_Parts_addMark_76 (hb_s hb0 sf_15) g4.1 g4.2 (fun x3 ex3 lx3 ux3 => ?_)
    replace H := H x3 ex3 lx3 ux3
    refine A_aload_n 0 d_Parts_addMark_77 rfl rfl ?_
    refine A_getIf T_ok d_Parts_addMark_78 f_Parts_30 (hb_s hb0 sf_9) (fun x5 ex5 lx5 ux5 => ?_)
    replace H := H x5 ex5 lx5 ux5
    have g6 := H.1
    replace H := H.2
    refine A_iastoreN d_Parts_addMark_81 (hb_s hb0 sf_11) g6.1 g6.2 ?_
    refine A_hn (fun h7 eh7 => ?_)
    have hb8 := hb_i hb0 eh7
    replace H := H h7 eh7
    refine A_aload_n 0 d_Parts_addMark_82 rfl rfl ?_
    refine A_getAv (z := some 15) T_ok d_Parts_addMark_83 f_Parts_27 (hb_s hb8 sf_9) (hb_r hb8 rff_9_6) ?_
    refine A_pc (pc' := 86) rfl ?_
    refine A_iload_n 2 d_Parts_addMark_86 rfl rfl ?_
    refine A_aload_n 0 d_Parts_addMark_87 rfl rfl ?_
    refine A_getIv (z := x5) T_ok d_Parts_addMark_88 f_Parts_30 (hb_s hb8 sf_9) ((mm_i eh7 (fun q => absurd q.1 (by decide))).trans ex5.symm) ?_
    refine A_iastoreN d_Parts_addMark_91 (hb_s hb8 sf_15) g4.1 g4.2 ?_
    refine A_hn (fun h11 eh11 => ?_)
    have hb12 := hb_i hb8 eh11
    replace H := H h11 eh11
    refine A_aload_n 0 d_Parts_addMark_92 rfl rfl ?_
    refine A_iload_n 1 d_Parts_addMark_93 rfl rfl ?_
    refine A_pc (pc' := 94) rfl ?_
    refine A_iconst d_Parts_addMark_94 rfl ?_
    refine A_iconst d_Parts_addMark_95 rfl ?_
    refine A_callV3 m_Parts_add T_ok d_Parts_addMark_96 l_Parts_37 k_Parts_add (hb_s hb12 sf_9) rfl (by decide +kernel) (by decide) (Nat.le_of_ble_eq_true rfl) H (fun r h13 hq => ?_)
    clear H
    obtain ⟨rfl, hb14, H⟩ := hq
    refine A_iload_n 1 d_Parts_addMark_99 rfl rfl ?_
    refine A_bipush d_Parts_addMark_100 rfl ?_
    refine A_icmp_eq (tgt := 115) d_Parts_addMark_102 (by decide) (fun c => ?_) (fun c => ?_)
    · replace H := H.1 c
      refine A_pc (pc' := 115) rfl ?_
      refine A_free (L' := [none, none, none]) trivial ?_
      exact b_Parts_addMark_115    hb14 H
    · replace H := H.2 c
      refine A_aload_n 0 d_Parts_addMark_105 rfl rfl ?_
      refine A_dupR d_Parts_addMark_106 ?_
      refine A_getIf T_ok d_Parts_addMark_107 f_Parts_34 (hb_s hb14 sf_9) (fun x16 ex16 lx16 ux16 => ?_)
      replace H := H x16 ex16 lx16 ux16
      refine A_iconst d_Parts_addMark_110 rfl ?_
      have g17 := H.1
      replace H := H.2
      refine A_isubv (z := (x16 - 1)) d_Parts_addMark_111 (w32_to (by omega) (by unfold i32; omega)) ?_
      refine A_pc (pc' := 112) rfl ?_
      refine A_putI T_ok d_Parts_addMark_112 f_Parts_34 (hb_s hb14 sf_9) fin_f ?_
      refine A_hn (fun h18 eh18 => ?_)
      have hb19 := hb_i hb14 eh18
      replace H := H h18 eh18
      refine A_pc (pc' := 115) rfl ?_
      refine A_free (L' := [none, none, none]) trivial ?_
      exact b_Parts_addMark_115    hb19 H
  · replace H := H.2 c
    refine A_iconst d_Parts_addMark_65 rfl ?_
    exact A_zret d_Parts_addMark_66 (by decide) rfl (by decide) H
def B_Parts_addMark_29 (G : cx_T) (s : Nat) (a1 : Int) (h : ah_T) (Q : Option av_T → ah_T → Prop) : Prop :=
 Q (some (av_I 0)) h
theorem b_Parts_addMark_29 {G : cx_T} {s : Nat} {a1 : Int} {h : ah_T} {Q : Option av_T → ah_T → Prop} (hb0 : hb s h) (H : B_Parts_addMark_29 G s a1 h Q ) : aw G (rm_R 1 0 0) m_Parts_addMark 0 0 29 [none, none, none] [] h Q := by
  unfold B_Parts_addMark_29 at H
  have hS : isS s := hb0.2.1
  refine A_iconst d_Parts_addMark_29 rfl ?_
  exact A_zret d_Parts_addMark_30 (by decide) rfl (by decide) H
def B_Parts_addMark_0 (G : cx_T) (s : Nat) (a1 : Int) (h : ah_T) (Q : Option av_T → ah_T → Prop) : Prop :=
 ∀ x1 : Int, x1 = h.2.1 9 7 → -2147483648 ≤ x1 → x1 ≤ 2147483647 → ((x1 < 1 → B_Parts_addMark_29 G s a1 h Q ) ∧ (¬ x1 < 1 → ((7 < x1 → B_Parts_addMark_29 G s a1 h Q ) ∧ (¬ 7 < x1 → ∀ x3 : Int, x3 = h.2.1 9 4 → -2147483648 ≤ x3 → x3 ≤ 2147483647 → ((x3 < 2000 → ((-2147483648) ≤ (x1 - 1) ∧ (x1 - 1) ≤ 2147483647) ∧ (0 ≤ (x1 - 1) ∧ (x1 - 1) < 7) ∧ ∀ x9 : Int, x9 = h.2.1 14 ((x1 - 1)).toNat → -2147483648 ≤ x9 → x9 ≤ 2147483647 → (0 ≤ x9 ∧ x9 < 2000) ∧ ∀ x11 : Int, x11 = h.2.1 10 (x9).toNat → -2147483648 ≤ x11 → x11 ≤ 2147483647 → ((a1 = 125 → B_Parts_addMark_62 G s a1 ((x1 - 1)) (x11) (123) h Q ) ∧ (¬ a1 = 125 → B_Parts_addMark_62 G s a1 ((x1 - 1)) (x11) (91) h Q ))) ∧ (¬ x3 < 2000 → B_Parts_addMark_29 G s a1 h Q ))))))
theorem b_Parts_addMark_0 {G : cx_T} {s : Nat} {a1 : Int} {h : ah_T} {Q : Option av_T → ah_T → Prop} (hb0 : hb s h) (H : B_Parts_addMark_0 G s a1 h Q ) : aw G (rm_R 1 0 0) m_Parts_addMark 0 0 0 [some (av_R (some 9)), some (av_I a1), none] [] h Q := by
  unfold B_Parts_addMark_0 at H
  have hS : isS s := hb0.2.1
  refine A_aload_n 0 d_Parts_addMark_0 rfl rfl ?_
  refine A_getIf T_ok d_Parts_addMark_1 f_Parts_34 (hb_s hb0 sf_9) (fun x1 ex1 lx1 ux1 => ?_)
  replace H := H x1 ex1 lx1 ux1
  refine A_iconst d_Parts_addMark_4 rfl ?_
  refine A_icmp_lt (tgt := 29) d_Parts_addMark_5 (by decide) (fun c => ?_) (fun c => ?_)
  · replace H := H.1 c
    refine A_pc (pc' := 29) rfl ?_
    refine A_free (L' := [none, none, none]) trivial ?_
    exact b_Parts_addMark_29    hb0 H
  · replace H := H.2 c
    refine A_aload_n 0 d_Parts_addMark_8 rfl rfl ?_
    refine A_getIv (z := x1) T_ok d_Parts_addMark_9 f_Parts_34 (hb_s hb0 sf_9) ex1.symm ?_
    refine A_bipush d_Parts_addMark_12 rfl ?_
    refine A_icmp_gt (tgt := 29) d_Parts_addMark_14 (by decide) (fun c => ?_) (fun c => ?_)
    · replace H := H.1 c
      refine A_pc (pc' := 29) rfl ?_
      refine A_free (L' := [none, none, none]) trivial ?_
      exact b_Parts_addMark_29    hb0 H
    · replace H := H.2 c
      refine A_aload_n 0 d_Parts_addMark_17 rfl rfl ?_
      refine A_getIf T_ok d_Parts_addMark_18 f_Parts_30 (hb_s hb0 sf_9) (fun x3 ex3 lx3 ux3 => ?_)
      replace H := H x3 ex3 lx3 ux3
      refine A_aload_n 0 d_Parts_addMark_21 rfl rfl ?_
      refine A_getAv (z := some 10) T_ok d_Parts_addMark_22 f_Parts_9 (hb_s hb0 sf_9) (hb_r hb0 rff_9_0) ?_
      refine A_alenN d_Parts_addMark_25 (hb_s hb0 sf_10) (by decide) (by decide) ?_
      refine A_pc (pc' := 26) rfl ?_
      refine A_icmp_lt (tgt := 31) d_Parts_addMark_26 (by decide) (fun c => ?_) (fun c => ?_)
      · replace H := H.1 c
        refine A_aload_n 0 d_Parts_addMark_31 rfl rfl ?_
        refine A_getIv (z := x1) T_ok d_Parts_addMark_32 f_Parts_34 (hb_s hb0 sf_9) ex1.symm ?_
        refine A_iconst d_Parts_addMark_35 rfl ?_
        have g6 := H.1
        replace H := H.2
        refine A_isubv (z := (x1 - 1)) d_Parts_addMark_36 (w32_to (by omega) (by unfold i32; omega)) ?_
        refine A_istore_n 2 (L' := [some (av_R (some 9)), some (av_I a1), some (av_I (x1 - 1))]) d_Parts_addMark_37 rfl (Nat.le_of_ble_eq_true rfl) rfl ?_
        refine A_pc (pc' := 38) rfl ?_
        refine A_aload_n 0 d_Parts_addMark_38 rfl rfl ?_
        refine A_getAv (z := some 10) T_ok d_Parts_addMark_39 f_Parts_9 (hb_s hb0 sf_9) (hb_r hb0 rff_9_0) ?_
        refine A_aload_n 0 d_Parts_addMark_42 rfl rfl ?_
        refine A_getAv (z := some 14) T_ok d_Parts_addMark_43 f_Parts_24 (hb_s hb0 sf_9) (hb_r hb0 rff_9_5) ?_
        refine A_iload_n 2 d_Parts_addMark_46 rfl rfl ?_
        have g10 := H.1
        replace H := H.2
        refine A_ialoadf d_Parts_addMark_47 (hb_s hb0 sf_14) g10.1 g10.2 (fun x9 ex9 lx9 ux9 => ?_)
        replace H := H x9 ex9 lx9 ux9
        refine A_pc (pc' := 48) rfl ?_
        have g12 := H.1
        replace H := H.2
        refine A_ialoadf d_Parts_addMark_48 (hb_s hb0 sf_10) g12.1 g12.2 (fun x11 ex11 lx11 ux11 => ?_)
        replace H := H x11 ex11 lx11 ux11
        refine A_iload_n 1 d_Parts_addMark_49 rfl rfl ?_
        refine A_bipush d_Parts_addMark_50 rfl ?_
        refine A_icmp_ne (tgt := 60) d_Parts_addMark_52 (by decide) (fun c => ?_) (fun c => ?_)
        · replace H := H.2 c
          refine A_bipush d_Parts_addMark_60 rfl ?_
          refine A_pc (pc' := 62) rfl ?_
          exact b_Parts_addMark_62    hb0 H
        · replace H := H.1 c
          refine A_bipush d_Parts_addMark_55 rfl ?_
          refine A_goto (tgt := 62) d_Parts_addMark_57 (by decide) ?_
          refine A_pc (pc' := 62) rfl ?_
          exact b_Parts_addMark_62    hb0 H
      · replace H := H.2 c
        refine A_pc (pc' := 29) rfl ?_
        refine A_free (L' := [none, none, none]) trivial ?_
        exact b_Parts_addMark_29    hb0 H
theorem c_Parts_addMark {G : cx_T} {s : Nat} {a1 : Int} {h : ah_T} {Q : Option av_T → ah_T → Prop} (hb0 : hb s h) (H : i32 a1 → B_Parts_addMark_0 G s a1 h Q ) : con G 1 0 0 m_Parts_addMark [av_R (some 9), av_I a1] h Q := by
  have hS : isS s := hb0.2.1
  refine con_of (L := [some (av_R (some 9)), some (av_I a1), none]) (by decide +kernel) (Nat.le_of_ble_eq_true rfl) rfl ?_
  refine A_locI 1 rfl (fun ra1 => ?_)
  exact b_Parts_addMark_0   hb0 (H ra1)
def B_Parts_meetLine_23 (G : cx_T) (s : Nat) (a1 : Nat) (h : ah_T) (Q : Option av_T → ah_T → Prop) : Prop :=
 Q none h
theorem b_Parts_meetLine_23 {G : cx_T} {s : Nat} {a1 : Nat} (ha1 : isV a1) {h : ah_T} {Q : Option av_T → ah_T → Prop} (hb0 : hb s h) (H : B_Parts_meetLine_23 G s a1 h Q ) : aw G (rm_R 1 0 0) m_Parts_meetLine 0 0 23 [none, none] [] h Q := by
  unfold B_Parts_meetLine_23 at H
  have hS : isS s := hb0.2.1
  exact A_vret d_Parts_meetLine_23 (by decide) rfl H
def B_Parts_meetLine_0 (G : cx_T) (s : Nat) (a1 : Nat) (h : ah_T) (Q : Option av_T → ah_T → Prop) : Prop :=
 ∀ x1 : Int, x1 = h.2.1 9 10 → -2147483648 ≤ x1 → x1 ≤ 2147483647 → ((-2147483648) ≤ (x1 + 1) ∧ (x1 + 1) ≤ 2147483647) ∧ ∀ h3 : ah_T, h3 = st_i h 9 10 (x1 + 1) → ((100 < (x1 + 1) → B_Parts_meetLine_23 G s a1 h3 Q ) ∧ (¬ 100 < (x1 + 1) → con G 0 0 0 m_Voice_addBar [av_R (some a1)] h3 (fun r h6 => r = none ∧ hb s h6 ∧ B_Parts_meetLine_23 G s a1 h6 Q )))
theorem b_Parts_meetLine_0 {G : cx_T} {s : Nat} {a1 : Nat} (ha1 : isV a1) {h : ah_T} {Q : Option av_T → ah_T → Prop} (hb0 : hb s h) (H : B_Parts_meetLine_0 G s a1 h Q ) : aw G (rm_R 1 0 0) m_Parts_meetLine 0 0 0 [some (av_R (some 9)), some (av_R (some a1))] [] h Q := by
  unfold B_Parts_meetLine_0 at H
  have hS : isS s := hb0.2.1
  refine A_aload_n 0 d_Parts_meetLine_0 rfl rfl ?_
  refine A_dupR d_Parts_meetLine_1 ?_
  refine A_getIf T_ok d_Parts_meetLine_2 f_Parts_52 (hb_s hb0 sf_9) (fun x1 ex1 lx1 ux1 => ?_)
  replace H := H x1 ex1 lx1 ux1
  refine A_iconst d_Parts_meetLine_5 rfl ?_
  have g2 := H.1
  replace H := H.2
  refine A_iaddv (z := (x1 + 1)) d_Parts_meetLine_6 (w32_to (by omega) (by unfold i32; omega)) ?_
  refine A_pc (pc' := 7) rfl ?_
  refine A_putI T_ok d_Parts_meetLine_7 f_Parts_52 (hb_s hb0 sf_9) fin_f ?_
  refine A_hn (fun h3 eh3 => ?_)
  have hb4 := hb_i hb0 eh3
  replace H := H h3 eh3
  refine A_aload_n 0 d_Parts_meetLine_10 rfl rfl ?_
  refine A_getIv (z := (x1 + 1)) T_ok d_Parts_meetLine_11 f_Parts_52 (hb_s hb4 sf_9) (mv_i eh3) ?_
  refine A_bipush d_Parts_meetLine_14 rfl ?_
  refine A_icmp_gt (tgt := 23) d_Parts_meetLine_16 (by decide) (fun c => ?_) (fun c => ?_)
  · replace H := H.1 c
    refine A_pc (pc' := 23) rfl ?_
    refine A_free (L' := [none, none]) trivial ?_
    exact b_Parts_meetLine_23 ha1   hb4 H
  · replace H := H.2 c
    refine A_aload_n 1 d_Parts_meetLine_19 rfl rfl ?_
    refine A_callV0 m_Voice_addBar T_ok d_Parts_meetLine_20 l_Parts_84 k_Voice_addBar (hs_V hb4 ha1) rfl (by decide +kernel) (by decide) (Nat.le_of_ble_eq_true rfl) H (fun r h6 hq => ?_)
    clear H
    obtain ⟨rfl, hb7, H⟩ := hq
    refine A_pc (pc' := 23) rfl ?_
    refine A_free (L' := [none, none]) trivial ?_
    exact b_Parts_meetLine_23 ha1   hb7 H
theorem c_Parts_meetLine {G : cx_T} {s : Nat} {a1 : Nat} (ha1 : isV a1) {h : ah_T} {Q : Option av_T → ah_T → Prop} (hb0 : hb s h) (H : B_Parts_meetLine_0 G s a1 h Q ) : con G 1 0 0 m_Parts_meetLine [av_R (some 9), av_R (some a1)] h Q := by
  have hS : isS s := hb0.2.1
  refine con_of (L := [some (av_R (some 9)), some (av_R (some a1))]) (by decide +kernel) (Nat.le_of_ble_eq_true rfl) rfl ?_
  exact b_Parts_meetLine_0 ha1  hb0 (H )
def B_Parts_walkRepeat_169 (G : cx_T) (s : Nat) (dd : Nat) (a1 : Nat) (a2 : Int) (a3 : Int) (a4 : Int) (a5 : Int) (v9 : Int) (h : ah_T) (Q : Option av_T → ah_T → Prop) : Prop :=
 Q (some (av_I v9)) h
theorem b_Parts_walkRepeat_169 {G : cx_T} {s : Nat} {dd : Nat} {a1 : Nat} {a2 : Int} {a3 : Int} {a4 : Int} {a5 : Int} (hdd : 4 ≤ dd) (ha1 : isV a1) {v9 : Int} {h : ah_T} {Q : Option av_T → ah_T → Prop} (hb0 : hb s h) (H : B_Parts_walkRepeat_169 G s dd a1 a2 a3 a4 a5 v9 h Q ) : aw G (rm_R (dd + 1) 0 0) m_Parts_walkRepeat 0 0 169 [none, none, none, none, none, none, none, none, none, some (av_I v9), none] [] h Q := by
  unfold B_Parts_walkRepeat_169 at H
  have hS : isS s := hb0.2.1
  refine A_iload d_Parts_walkRepeat_169 rfl ?_
  exact A_iret d_Parts_walkRepeat_171 (And.intro (Nat.zero_le _) (Nat.zero_le _)) rfl H
def B_Parts_walkRepeat_84 (G : cx_T) (s : Nat) (dd : Nat) (a1 : Nat) (a2 : Int) (a3 : Int) (a4 : Int) (a5 : Int) (v8 : Int) (v9 : Int) (v10 : Int) (h : ah_T) (Q : Option av_T → ah_T → Prop) (X84 : Int → Int → Int → ah_T → Prop) : Prop :=
 ((2000 ≤ v10 → B_Parts_walkRepeat_169 G s dd a1 a2 a3 a4 a5 (v9) h Q ) ∧ (¬ 2000 ≤ v10 → (0 ≤ v9 ∧ v9 < 2000) ∧ ∀ x2 : Int, x2 = h.2.1 10 (v9).toNat → -2147483648 ≤ x2 → x2 ≤ 2147483647 → ((x2 = 58 → ∀ x4 : Int, x4 = h.2.1 9 8 → -2147483648 ≤ x4 → x4 ≤ 2147483647 → ((-2147483648) ≤ (x4 + 1) ∧ (x4 + 1) ≤ 2147483647) ∧ ∀ h6 : ah_T, h6 = st_i h 9 8 (x4 + 1) → ((-2147483648) ≤ (a2 + 1) ∧ (a2 + 1) ≤ 2147483647) ∧ ((-2147483648) ≤ (a3 + 1) ∧ (a3 + 1) ≤ 2147483647) ∧ con G dd 0 0 m_Parts_walkThrough [av_R (some 9), av_R (some a1), av_I (a2 + 1), av_I v8, av_I (a3 + 1), av_L a4, av_L a5] h6 (fun r h10 => r = none ∧ hb s h10 ∧ ((-2147483648) ≤ (v9 + 1) ∧ (v9 + 1) ≤ 2147483647) ∧ ∀ x15 : Int, x15 = h10.2.1 11 (v9).toNat → -2147483648 ≤ x15 → x15 ≤ 2147483647 → con G dd 0 0 m_Parts_walkThrough [av_R (some 9), av_R (some a1), av_I (v9 + 1), av_I x15, av_I (a3 + 1), av_L a4, av_L a5] h10 (fun r h16 => r = none ∧ hb s h16 ∧ ∀ x20 : Int, x20 = h16.2.1 11 (v9).toNat → -2147483648 ≤ x20 → x20 ≤ 2147483647 → ((-2147483648) ≤ (v10 + 1) ∧ (v10 + 1) ≤ 2147483647) ∧ X84 (v8) (x20) ((v10 + 1)) h16))) ∧ (¬ x2 = 58 → B_Parts_walkRepeat_169 G s dd a1 a2 a3 a4 a5 (v9) h Q ))))
theorem b_Parts_walkRepeat_84 {G : cx_T} {s : Nat} {dd : Nat} {a1 : Nat} {a2 : Int} {a3 : Int} {a4 : Int} {a5 : Int} (hdd : 4 ≤ dd) (ha1 : isV a1) {v8 : Int} {v9 : Int} {v10 : Int} {h : ah_T} {Q : Option av_T → ah_T → Prop} {X84 : Int → Int → Int → ah_T → Prop} (hX84 : ∀ (v8 : Int) (v9 : Int) (v10 : Int) (h : ah_T), hb s h → X84 v8 v9 v10 h → aw G (rm_R (dd + 1) 0 0) m_Parts_walkRepeat 0 0 84 [some (av_R (some 9)), some (av_R (some a1)), some (av_I a2), some (av_I a3), some (av_L a4), none, some (av_L a5), none, some (av_I v8), some (av_I v9), some (av_I v10)] [] h Q) (hb0 : hb s h) (H : B_Parts_walkRepeat_84 G s dd a1 a2 a3 a4 a5 v8 v9 v10 h Q X84) : aw G (rm_R (dd + 1) 0 0) m_Parts_walkRepeat 0 0 84 [some (av_R (some 9)), some (av_R (some a1)), some (av_I a2), some (av_I a3), some (av_L a4), none, some (av_L a5), none, some (av_I v8), some (av_I v9), some (av_I v10)] [] h Q := by
  unfold B_Parts_walkRepeat_84 at H
  have hS : isS s := hb0.2.1
  refine A_iload d_Parts_walkRepeat_84 rfl ?_
  refine A_sipush d_Parts_walkRepeat_86 rfl ?_
  refine A_icmp_ge (tgt := 169) d_Parts_walkRepeat_89 (by decide) (fun c => ?_) (fun c => ?_)
  · replace H := H.1 c
    refine A_pc (pc' := 169) rfl ?_
    refine A_free (L' := [none, none, none, none, none, none, none, none, none, some (av_I v9), none]) (And.intro rfl trivial) ?_
    exact b_Parts_walkRepeat_169 hdd ha1   hb0 H
  · replace H := H.2 c
    refine A_aload_n 0 d_Parts_walkRepeat_92 rfl rfl ?_
    refine A_getAv (z := some 10) T_ok d_Parts_walkRepeat_93 f_Parts_9 (hb_s hb0 sf_9) (hb_r hb0 rff_9_0) ?_
    refine A_iload d_Parts_walkRepeat_96 rfl ?_
    have g3 := H.1
    replace H := H.2
    refine A_ialoadf d_Parts_walkRepeat_98 (hb_s hb0 sf_10) g3.1 g3.2 (fun x2 ex2 lx2 ux2 => ?_)
    replace H := H x2 ex2 lx2 ux2
    refine A_bipush d_Parts_walkRepeat_99 rfl ?_
    refine A_pc (pc' := 101) rfl ?_
    refine A_icmp_ne (tgt := 169) d_Parts_walkRepeat_101 (by decide) (fun c => ?_) (fun c => ?_)
    · replace H := H.2 c
      refine A_pc (pc' := 169) rfl ?_
      refine A_free (L' := [none, none, none, none, none, none, none, none, none, some (av_I v9), none]) (And.intro rfl trivial) ?_
      exact b_Parts_walkRepeat_169 hdd ha1   hb0 H
    · replace H := H.1 c
      refine A_aload_n 0 d_Parts_walkRepeat_104 rfl rfl ?_
      refine A_dupR d_Parts_walkRepeat_105 ?_
      refine A_getIf T_ok d_Parts_walkRepeat_106 f_Parts_46 (hb_s hb0 sf_9) (fun x4 ex4 lx4 ux4 => ?_)
      replace H := H x4 ex4 lx4 ux4
      refine A_iconst d_Parts_walkRepeat_109 rfl ?_
      have g5 := H.1
      replace H := H.2
      refine A_iaddv (z := (x4 + 1)) d_Parts_walkRepeat_110 (w32_to (by omega) (by unfold i32; omega)) ?_
      refine A_pc (pc' := 111) rfl ?_
      refine A_putI T_ok d_Parts_walkRepeat_111 f_Parts_46 (hb_s hb0 sf_9) fin_f ?_
      refine A_hn (fun h6 eh6 => ?_)
      have hb7 := hb_i hb0 eh6
      replace H := H h6 eh6
      refine A_aload_n 0 d_Parts_walkRepeat_114 rfl rfl ?_
      refine A_aload_n 1 d_Parts_walkRepeat_115 rfl rfl ?_
      refine A_iload_n 2 d_Parts_walkRepeat_116 rfl rfl ?_
      refine A_iconst d_Parts_walkRepeat_117 rfl ?_
      have g8 := H.1
      replace H := H.2
      refine A_iaddv (z := (a2 + 1)) d_Parts_walkRepeat_118 (w32_to (by omega) (by unfold i32; omega)) ?_
      refine A_pc (pc' := 119) rfl ?_
      refine A_iload d_Parts_walkRepeat_119 rfl ?_
      refine A_iload_n 3 d_Parts_walkRepeat_121 rfl rfl ?_
      refine A_iconst d_Parts_walkRepeat_122 rfl ?_
      have g9 := H.1
      replace H := H.2
      refine A_iaddv (z := (a3 + 1)) d_Parts_walkRepeat_123 (w32_to (by omega) (by unfold i32; omega)) ?_
      refine A_lload d_Parts_walkRepeat_124 rfl ?_
      refine A_lload d_Parts_walkRepeat_126 rfl ?_
      refine A_pc (pc' := 128) rfl ?_
      refine A_callV6 m_Parts_walkThrough T_ok d_Parts_walkRepeat_128 l_Parts_59 k_Parts_walkThrough (hb_s hb7 sf_9) rfl ⟨by show dd + 1 ≤ dd + 1; omega, by show 8 + (11 + 11) + 48 * dd ≤ 48 * (dd + 1); omega⟩ (And.intro (Nat.zero_le _) (Nat.zero_le _)) (Nat.le_of_ble_eq_true rfl) H (fun r h10 hq => ?_)
      clear H
      obtain ⟨rfl, hb11, H⟩ := hq
      refine A_aload_n 0 d_Parts_walkRepeat_131 rfl rfl ?_
      refine A_aload_n 1 d_Parts_walkRepeat_132 rfl rfl ?_
      refine A_iload d_Parts_walkRepeat_133 rfl ?_
      refine A_iconst d_Parts_walkRepeat_135 rfl ?_
      have g13 := H.1
      replace H := H.2
      refine A_iaddv (z := (v9 + 1)) d_Parts_walkRepeat_136 (w32_to (by omega) (by unfold i32; omega)) ?_
      refine A_pc (pc' := 137) rfl ?_
      refine A_aload_n 0 d_Parts_walkRepeat_137 rfl rfl ?_
      refine A_getAv (z := some 11) T_ok d_Parts_walkRepeat_138 f_Parts_15 (hb_s hb11 sf_9) (hb_r hb11 rff_9_1) ?_
      refine A_iload d_Parts_walkRepeat_141 rfl ?_
      refine A_ialoadf d_Parts_walkRepeat_143 (hb_s hb11 sf_11) g3.1 g3.2 (fun x15 ex15 lx15 ux15 => ?_)
      replace H := H x15 ex15 lx15 ux15
      refine A_iload_n 3 d_Parts_walkRepeat_144 rfl rfl ?_
      refine A_iconst d_Parts_walkRepeat_145 rfl ?_
      refine A_pc (pc' := 146) rfl ?_
      refine A_iaddv (z := (a3 + 1)) d_Parts_walkRepeat_146 (w32_to (by omega) (by unfold i32; omega)) ?_
      refine A_lload d_Parts_walkRepeat_147 rfl ?_
      refine A_lload d_Parts_walkRepeat_149 rfl ?_
      refine A_callV6 m_Parts_walkThrough T_ok d_Parts_walkRepeat_151 l_Parts_59 k_Parts_walkThrough (hb_s hb11 sf_9) rfl ⟨by show dd + 1 ≤ dd + 1; omega, by show 8 + (11 + 11) + 48 * dd ≤ 48 * (dd + 1); omega⟩ (And.intro (Nat.zero_le _) (Nat.zero_le _)) (Nat.le_of_ble_eq_true rfl) H (fun r h16 hq => ?_)
      clear H
      obtain ⟨rfl, hb17, H⟩ := hq
      refine A_aload_n 0 d_Parts_walkRepeat_154 rfl rfl ?_
      refine A_getAv (z := some 11) T_ok d_Parts_walkRepeat_155 f_Parts_15 (hb_s hb17 sf_9) (hb_r hb17 rff_9_1) ?_
      refine A_iload d_Parts_walkRepeat_158 rfl ?_
      refine A_ialoadf d_Parts_walkRepeat_160 (hb_s hb17 sf_11) g3.1 g3.2 (fun x20 ex20 lx20 ux20 => ?_)
      replace H := H x20 ex20 lx20 ux20
      refine A_istore (L' := [some (av_R (some 9)), some (av_R (some a1)), some (av_I a2), some (av_I a3), some (av_L a4), none, some (av_L a5), none, some (av_I v8), some (av_I x20), some (av_I v10)]) d_Parts_walkRepeat_161 (Nat.le_of_ble_eq_true rfl) rfl ?_
      refine A_pc (pc' := 163) rfl ?_
      have g21 := H.1
      replace H := H.2
      refine A_iincv (z := (v10 + 1)) (L' := [some (av_R (some 9)), some (av_R (some a1)), some (av_I a2), some (av_I a3), some (av_L a4), none, some (av_L a5), none, some (av_I v8), some (av_I x20), some (av_I (v10 + 1))]) d_Parts_walkRepeat_163 rfl (w32_to (by omega) (by unfold i32; omega)) rfl ?_
      refine A_goto (tgt := 84) d_Parts_walkRepeat_166 (by decide) ?_
      refine A_pc (pc' := 84) rfl ?_
      exact hX84 (v8) (x20) ((v10 + 1)) h16  hb17 H
theorem lp_Parts_walkRepeat_84 {G : cx_T} {s : Nat} {dd : Nat} {a1 : Nat} {a2 : Int} {a3 : Int} {a4 : Int} {a5 : Int} (hdd : 4 ≤ dd) (ha1 : isV a1) {Q : Option av_T → ah_T → Prop} (I : Int → Int → Int → ah_T → Prop) (μ : Int → Int → Int → ah_T → Nat) (hI : ∀ (v8 : Int) (v9 : Int) (v10 : Int) (h : ah_T), hb s h → I v8 v9 v10 h → B_Parts_walkRepeat_84 G s dd a1 a2 a3 a4 a5 v8 v9 v10 h Q (fun v8' v9' v10' h' => I v8' v9' v10' h' ∧ μ v8' v9' v10' h' < μ v8 v9 v10 h)) : ∀ (v8 : Int) (v9 : Int) (v10 : Int) (h : ah_T), hb s h → I v8 v9 v10 h → aw G (rm_R (dd + 1) 0 0) m_Parts_walkRepeat 0 0 84 [some (av_R (some 9)), some (av_R (some a1)), some (av_I a2), some (av_I a3), some (av_L a4), none, some (av_L a5), none, some (av_I v8), some (av_I v9), some (av_I v10)] [] h Q := by
  have key : ∀ (n : Nat) (v8 : Int) (v9 : Int) (v10 : Int) (h : ah_T), hb s h → I v8 v9 v10 h → μ v8 v9 v10 h < n → aw G (rm_R (dd + 1) 0 0) m_Parts_walkRepeat 0 0 84 [some (av_R (some 9)), some (av_R (some a1)), some (av_I a2), some (av_I a3), some (av_L a4), none, some (av_L a5), none, some (av_I v8), some (av_I v9), some (av_I v10)] [] h Q := by
    intro n
    induction n with
    | zero => intro v8 v9 v10 h  hb0 hi hm; omega
    | succ n ih => intro v8 v9 v10 h  hb0 hi hm; exact b_Parts_walkRepeat_84 hdd ha1 (fun v8' v9' v10' h'  hb' hx => ih v8' v9' v10' h'  hb' hx.1 (by have := hx.2; omega))  hb0 (hI v8 v9 v10 h  hb0 hi)
  exact fun v8 v9 v10 h  hb0 hi => key _ v8 v9 v10 h  hb0 hi (Nat.lt_succ_self _)
def B_Parts_walkRepeat_0 (G : cx_T) (s : Nat) (dd : Nat) (a1 : Nat) (a2 : Int) (a3 : Int) (a4 : Int) (a5 : Int) (h : ah_T) (Q : Option av_T → ah_T → Prop) (X84 : Int → Int → Int → ah_T → Prop) : Prop :=
 (0 ≤ a2 ∧ a2 < 2000) ∧ ∀ x2 : Int, x2 = h.2.1 11 (a2).toNat → -2147483648 ≤ x2 → x2 ≤ 2147483647 → (0 ≤ x2 ∧ x2 < 2000) ∧ ∀ x5 : Int, x5 = h.2.1 10 (x2).toNat → -2147483648 ≤ x5 → x5 ≤ 2147483647 → ((x5 = 58 → X84 (x2) (x2) (0) h) ∧ (¬ x5 = 58 → ∀ x7 : Int, x7 = h.2.1 9 8 → -2147483648 ≤ x7 → x7 ≤ 2147483647 → ((-2147483648) ≤ (x7 + 1) ∧ (x7 + 1) ≤ 2147483647) ∧ ∀ h9 : ah_T, h9 = st_i h 9 8 (x7 + 1) → ((-2147483648) ≤ (a2 + 1) ∧ (a2 + 1) ≤ 2147483647) ∧ ((-2147483648) ≤ (a3 + 1) ∧ (a3 + 1) ≤ 2147483647) ∧ con G dd 0 0 m_Parts_walkThrough [av_R (some 9), av_R (some a1), av_I (a2 + 1), av_I x2, av_I (a3 + 1), av_L a4, av_L a5] h9 (fun r h13 => r = none ∧ hb s h13 ∧ ∀ x16 : Int, x16 = h13.2.1 9 8 → -2147483648 ≤ x16 → x16 ≤ 2147483647 → ((-2147483648) ≤ (x16 + 1) ∧ (x16 + 1) ≤ 2147483647) ∧ ∀ h18 : ah_T, h18 = st_i h13 9 8 (x16 + 1) → con G dd 0 0 m_Parts_walkThrough [av_R (some 9), av_R (some a1), av_I (a2 + 1), av_I x2, av_I (a3 + 1), av_L a4, av_L a5] h18 (fun r h20 => r = none ∧ hb s h20 ∧ Q (some (av_I x2)) h20))))
theorem b_Parts_walkRepeat_0 {G : cx_T} {s : Nat} {dd : Nat} {a1 : Nat} {a2 : Int} {a3 : Int} {a4 : Int} {a5 : Int} (hdd : 4 ≤ dd) (ha1 : isV a1) {h : ah_T} {Q : Option av_T → ah_T → Prop} {X84 : Int → Int → Int → ah_T → Prop} (hX84 : ∀ (v8 : Int) (v9 : Int) (v10 : Int) (h : ah_T), hb s h → X84 v8 v9 v10 h → aw G (rm_R (dd + 1) 0 0) m_Parts_walkRepeat 0 0 84 [some (av_R (some 9)), some (av_R (some a1)), some (av_I a2), some (av_I a3), some (av_L a4), none, some (av_L a5), none, some (av_I v8), some (av_I v9), some (av_I v10)] [] h Q) (hb0 : hb s h) (H : B_Parts_walkRepeat_0 G s dd a1 a2 a3 a4 a5 h Q X84) : aw G (rm_R (dd + 1) 0 0) m_Parts_walkRepeat 0 0 0 [some (av_R (some 9)), some (av_R (some a1)), some (av_I a2), some (av_I a3), some (av_L a4), none, some (av_L a5), none, none, none, none] [] h Q := by
  unfold B_Parts_walkRepeat_0 at H
  have hS : isS s := hb0.2.1
  refine A_aload_n 0 d_Parts_walkRepeat_0 rfl rfl ?_
  refine A_getAv (z := some 11) T_ok d_Parts_walkRepeat_1 f_Parts_15 (hb_s hb0 sf_9) (hb_r hb0 rff_9_1) ?_
  refine A_iload_n 2 d_Parts_walkRepeat_4 rfl rfl ?_
  have g3 := H.1
  replace H := H.2
  refine A_ialoadf d_Parts_walkRepeat_5 (hb_s hb0 sf_11) g3.1 g3.2 (fun x2 ex2 lx2 ux2 => ?_)
  replace H := H x2 ex2 lx2 ux2
  refine A_istore (L' := [some (av_R (some 9)), some (av_R (some a1)), some (av_I a2), some (av_I a3), some (av_L a4), none, some (av_L a5), none, some (av_I x2), none, none]) d_Parts_walkRepeat_6 (Nat.le_of_ble_eq_true rfl) rfl ?_
  refine A_pc (pc' := 8) rfl ?_
  refine A_aload_n 0 d_Parts_walkRepeat_8 rfl rfl ?_
  refine A_getAv (z := some 10) T_ok d_Parts_walkRepeat_9 f_Parts_9 (hb_s hb0 sf_9) (hb_r hb0 rff_9_0) ?_
  refine A_iload d_Parts_walkRepeat_12 rfl ?_
  have g6 := H.1
  replace H := H.2
  refine A_ialoadf d_Parts_walkRepeat_14 (hb_s hb0 sf_10) g6.1 g6.2 (fun x5 ex5 lx5 ux5 => ?_)
  replace H := H x5 ex5 lx5 ux5
  refine A_bipush d_Parts_walkRepeat_15 rfl ?_
  refine A_icmp_eq (tgt := 77) d_Parts_walkRepeat_17 (by decide) (fun c => ?_) (fun c => ?_)
  · replace H := H.1 c
    refine A_iload d_Parts_walkRepeat_77 rfl ?_
    refine A_istore (L' := [some (av_R (some 9)), some (av_R (some a1)), some (av_I a2), some (av_I a3), some (av_L a4), none, some (av_L a5), none, some (av_I x2), some (av_I x2), none]) d_Parts_walkRepeat_79 (Nat.le_of_ble_eq_true rfl) rfl ?_
    refine A_iconst d_Parts_walkRepeat_81 rfl ?_
    refine A_istore (L' := [some (av_R (some 9)), some (av_R (some a1)), some (av_I a2), some (av_I a3), some (av_L a4), none, some (av_L a5), none, some (av_I x2), some (av_I x2), some (av_I 0)]) d_Parts_walkRepeat_82 (Nat.le_of_ble_eq_true rfl) rfl ?_
    refine A_pc (pc' := 84) rfl ?_
    exact hX84 (x2) (x2) (0) h  hb0 H
  · replace H := H.2 c
    refine A_aload_n 0 d_Parts_walkRepeat_20 rfl rfl ?_
    refine A_dupR d_Parts_walkRepeat_21 ?_
    refine A_getIf T_ok d_Parts_walkRepeat_22 f_Parts_46 (hb_s hb0 sf_9) (fun x7 ex7 lx7 ux7 => ?_)
    replace H := H x7 ex7 lx7 ux7
    refine A_iconst d_Parts_walkRepeat_25 rfl ?_
    have g8 := H.1
    replace H := H.2
    refine A_iaddv (z := (x7 + 1)) d_Parts_walkRepeat_26 (w32_to (by omega) (by unfold i32; omega)) ?_
    refine A_pc (pc' := 27) rfl ?_
    refine A_putI T_ok d_Parts_walkRepeat_27 f_Parts_46 (hb_s hb0 sf_9) fin_f ?_
    refine A_hn (fun h9 eh9 => ?_)
    have hb10 := hb_i hb0 eh9
    replace H := H h9 eh9
    refine A_aload_n 0 d_Parts_walkRepeat_30 rfl rfl ?_
    refine A_aload_n 1 d_Parts_walkRepeat_31 rfl rfl ?_
    refine A_iload_n 2 d_Parts_walkRepeat_32 rfl rfl ?_
    refine A_iconst d_Parts_walkRepeat_33 rfl ?_
    have g11 := H.1
    replace H := H.2
    refine A_iaddv (z := (a2 + 1)) d_Parts_walkRepeat_34 (w32_to (by omega) (by unfold i32; omega)) ?_
    refine A_pc (pc' := 35) rfl ?_
    refine A_iload d_Parts_walkRepeat_35 rfl ?_
    refine A_iload_n 3 d_Parts_walkRepeat_37 rfl rfl ?_
    refine A_iconst d_Parts_walkRepeat_38 rfl ?_
    have g12 := H.1
    replace H := H.2
    refine A_iaddv (z := (a3 + 1)) d_Parts_walkRepeat_39 (w32_to (by omega) (by unfold i32; omega)) ?_
    refine A_lload d_Parts_walkRepeat_40 rfl ?_
    refine A_lload d_Parts_walkRepeat_42 rfl ?_
    refine A_pc (pc' := 44) rfl ?_
    refine A_callV6 m_Parts_walkThrough T_ok d_Parts_walkRepeat_44 l_Parts_59 k_Parts_walkThrough (hb_s hb10 sf_9) rfl ⟨by show dd + 1 ≤ dd + 1; omega, by show 8 + (11 + 11) + 48 * dd ≤ 48 * (dd + 1); omega⟩ (And.intro (Nat.zero_le _) (Nat.zero_le _)) (Nat.le_of_ble_eq_true rfl) H (fun r h13 hq => ?_)
    clear H
    obtain ⟨rfl, hb14, H⟩ := hq
    refine A_aload_n 0 d_Parts_walkRepeat_47 rfl rfl ?_
    refine A_dupR d_Parts_walkRepeat_48 ?_
    refine A_getIf T_ok d_Parts_walkRepeat_49 f_Parts_46 (hb_s hb14 sf_9) (fun x16 ex16 lx16 ux16 => ?_)
    replace H := H x16 ex16 lx16 ux16
    refine A_iconst d_Parts_walkRepeat_52 rfl ?_
    have g17 := H.1
    replace H := H.2
    refine A_iaddv (z := (x16 + 1)) d_Parts_walkRepeat_53 (w32_to (by omega) (by unfold i32; omega)) ?_
    refine A_pc (pc' := 54) rfl ?_
    refine A_putI T_ok d_Parts_walkRepeat_54 f_Parts_46 (hb_s hb14 sf_9) fin_f ?_
    refine A_hn (fun h18 eh18 => ?_)
    have hb19 := hb_i hb14 eh18
    replace H := H h18 eh18
    refine A_aload_n 0 d_Parts_walkRepeat_57 rfl rfl ?_
    refine A_aload_n 1 d_Parts_walkRepeat_58 rfl rfl ?_
    refine A_iload_n 2 d_Parts_walkRepeat_59 rfl rfl ?_
    refine A_iconst d_Parts_walkRepeat_60 rfl ?_
    refine A_iaddv (z := (a2 + 1)) d_Parts_walkRepeat_61 (w32_to (by omega) (by unfold i32; omega)) ?_
    refine A_pc (pc' := 62) rfl ?_
    refine A_iload d_Parts_walkRepeat_62 rfl ?_
    refine A_iload_n 3 d_Parts_walkRepeat_64 rfl rfl ?_
    refine A_iconst d_Parts_walkRepeat_65 rfl ?_
    refine A_iaddv (z := (a3 + 1)) d_Parts_walkRepeat_66 (w32_to (by omega) (by unfold i32; omega)) ?_
    refine A_lload d_Parts_walkRepeat_67 rfl ?_
    refine A_lload d_Parts_walkRepeat_69 rfl ?_
    refine A_pc (pc' := 71) rfl ?_
    refine A_callV6 m_Parts_walkThrough T_ok d_Parts_walkRepeat_71 l_Parts_59 k_Parts_walkThrough (hb_s hb19 sf_9) rfl ⟨by show dd + 1 ≤ dd + 1; omega, by show 8 + (11 + 11) + 48 * dd ≤ 48 * (dd + 1); omega⟩ (And.intro (Nat.zero_le _) (Nat.zero_le _)) (Nat.le_of_ble_eq_true rfl) H (fun r h20 hq => ?_)
    clear H
    obtain ⟨rfl, hb21, H⟩ := hq
    refine A_iload d_Parts_walkRepeat_74 rfl ?_
    exact A_iret d_Parts_walkRepeat_76 (And.intro (Nat.zero_le _) (Nat.zero_le _)) rfl H
theorem c_Parts_walkRepeat {G : cx_T} {s : Nat} {dd : Nat} {a1 : Nat} {a2 : Int} {a3 : Int} {a4 : Int} {a5 : Int} (hdd : 4 ≤ dd) (ha1 : isV a1) {h : ah_T} {Q : Option av_T → ah_T → Prop} {X84 : Int → Int → Int → ah_T → Prop} (hX84 : ∀ (v8 : Int) (v9 : Int) (v10 : Int) (h : ah_T), hb s h → X84 v8 v9 v10 h → aw G (rm_R (dd + 1) 0 0) m_Parts_walkRepeat 0 0 84 [some (av_R (some 9)), some (av_R (some a1)), some (av_I a2), some (av_I a3), some (av_L a4), none, some (av_L a5), none, some (av_I v8), some (av_I v9), some (av_I v10)] [] h Q) (hb0 : hb s h) (H : i32 a2 → i32 a3 → i64 a4 → i64 a5 → B_Parts_walkRepeat_0 G s dd a1 a2 a3 a4 a5 h Q X84) : con G (dd + 1) 0 0 m_Parts_walkRepeat [av_R (some 9), av_R (some a1), av_I a2, av_I a3, av_L a4, av_L a5] h Q := by
  have hS : isS s := hb0.2.1
  refine con_of (L := [some (av_R (some 9)), some (av_R (some a1)), some (av_I a2), some (av_I a3), some (av_L a4), none, some (av_L a5), none, none, none, none]) (by decide +kernel) (Nat.le_of_ble_eq_true rfl) rfl ?_
  refine A_locI 2 rfl (fun ra2 => ?_)
  refine A_locI 3 rfl (fun ra3 => ?_)
  refine A_locL 4 rfl (fun ra4 => ?_)
  refine A_locL 6 rfl (fun ra6 => ?_)
  exact b_Parts_walkRepeat_0 hdd ha1 hX84 hb0 (H ra2 ra3 ra4 ra6)
def B_Parts_walkThrough_218 (G : cx_T) (s : Nat) (dd : Nat) (a1 : Nat) (a2 : Int) (a3 : Int) (a4 : Int) (a5 : Int) (a6 : Int) (h : ah_T) (Q : Option av_T → ah_T → Prop) : Prop :=
 Q none h
theorem b_Parts_walkThrough_218 {G : cx_T} {s : Nat} {dd : Nat} {a1 : Nat} {a2 : Int} {a3 : Int} {a4 : Int} {a5 : Int} {a6 : Int} (hdd : 4 ≤ dd) (ha1 : isV a1) {h : ah_T} {Q : Option av_T → ah_T → Prop} (hb0 : hb s h) (H : B_Parts_walkThrough_218 G s dd a1 a2 a3 a4 a5 a6 h Q ) : aw G (rm_R (dd + 1) 0 0) m_Parts_walkThrough 0 0 218 [none, none, none, none, none, none, none, none, none, none, none] [] h Q := by
  unfold B_Parts_walkThrough_218 at H
  have hS : isS s := hb0.2.1
  exact A_vret d_Parts_walkThrough_218 (And.intro (Nat.zero_le _) (Nat.zero_le _)) rfl H
def B_Parts_walkThrough_212 (G : cx_T) (s : Nat) (dd : Nat) (a1 : Nat) (a2 : Int) (a3 : Int) (a4 : Int) (a5 : Int) (a6 : Int) (v9 : Int) (h : ah_T) (Q : Option av_T → ah_T → Prop) (X11 : Int → ah_T → Prop) : Prop :=
 ((-2147483648) ≤ (v9 + 1) ∧ (v9 + 1) ≤ 2147483647) ∧ X11 ((v9 + 1)) h
theorem b_Parts_walkThrough_212 {G : cx_T} {s : Nat} {dd : Nat} {a1 : Nat} {a2 : Int} {a3 : Int} {a4 : Int} {a5 : Int} {a6 : Int} (hdd : 4 ≤ dd) (ha1 : isV a1) {v9 : Int} {h : ah_T} {Q : Option av_T → ah_T → Prop} {X11 : Int → ah_T → Prop} (hX11 : ∀ (v9 : Int) (h : ah_T), hb s h → X11 v9 h → aw G (rm_R (dd + 1) 0 0) m_Parts_walkThrough 0 0 11 [some (av_R (some 9)), some (av_R (some a1)), none, some (av_I a3), some (av_I a4), some (av_L a5), none, some (av_L a6), none, some (av_I v9), none] [] h Q) (hb0 : hb s h) (H : B_Parts_walkThrough_212 G s dd a1 a2 a3 a4 a5 a6 v9 h Q X11) : aw G (rm_R (dd + 1) 0 0) m_Parts_walkThrough 0 0 212 [some (av_R (some 9)), some (av_R (some a1)), none, some (av_I a3), some (av_I a4), some (av_L a5), none, some (av_L a6), none, some (av_I v9), none] [] h Q := by
  unfold B_Parts_walkThrough_212 at H
  have hS : isS s := hb0.2.1
  have g1 := H.1
  replace H := H.2
  refine A_iincv (z := (v9 + 1)) (L' := [some (av_R (some 9)), some (av_R (some a1)), none, some (av_I a3), some (av_I a4), some (av_L a5), none, some (av_L a6), none, some (av_I (v9 + 1)), none]) d_Parts_walkThrough_212 rfl (w32_to (by omega) (by unfold i32; omega)) rfl ?_
  refine A_goto (tgt := 11) d_Parts_walkThrough_215 (by decide) ?_
  refine A_pc (pc' := 11) rfl ?_
  exact hX11 ((v9 + 1)) h  hb0 H
def B_Parts_walkThrough_11 (G : cx_T) (s : Nat) (dd : Nat) (a1 : Nat) (a2 : Int) (a3 : Int) (a4 : Int) (a5 : Int) (a6 : Int) (v9 : Int) (h : ah_T) (Q : Option av_T → ah_T → Prop) (X11 : Int → ah_T → Prop) : Prop :=
 ((a3 ≤ v9 → B_Parts_walkThrough_218 G s dd a1 a2 a3 a4 a5 a6 h Q ) ∧ (¬ a3 ≤ v9 → ∀ x1 : Int, x1 = h.2.1 9 4 → -2147483648 ≤ x1 → x1 ≤ 2147483647 → ((x1 ≤ v9 → B_Parts_walkThrough_218 G s dd a1 a2 a3 a4 a5 a6 h Q ) ∧ (¬ x1 ≤ v9 → ∀ x2 : Int, x2 = h.2.1 9 8 → -2147483648 ≤ x2 → x2 ≤ 2147483647 → ((2000 < x2 → B_Parts_walkThrough_218 G s dd a1 a2 a3 a4 a5 a6 h Q ) ∧ (¬ 2000 < x2 → ((-2147483648) ≤ (x2 + 1) ∧ (x2 + 1) ≤ 2147483647) ∧ ∀ h5 : ah_T, h5 = st_i h 9 8 (x2 + 1) → (0 ≤ v9 ∧ v9 < 2000) ∧ ∀ x8 : Int, x8 = h5.2.1 10 (v9).toNat → -2147483648 ≤ x8 → x8 ≤ 2147483647 → ((x8 = 91 → con G dd 0 0 m_Parts_walkRepeat [av_R (some 9), av_R (some a1), av_I v9, av_I a4, av_L a5, av_L a6] h5 (fun r h44 => ∃ z46 : Int, r = some (av_I z46) ∧ hb s h44 ∧ ∀ x47 : Int, x47 = (if v9 < z46 then z46 else v9) → -2147483648 ≤ x47 → x47 ≤ 2147483647 → B_Parts_walkThrough_212 G s dd a1 a2 a3 a4 a5 a6 (x47) h44 Q X11)) ∧ (¬ x8 = 91 → ((x8 = 123 → ((-2147483648) ≤ (v9 + 1) ∧ (v9 + 1) ≤ 2147483647) ∧ ∀ x28 : Int, x28 = h5.2.1 11 (v9).toNat → -2147483648 ≤ x28 → x28 ≤ 2147483647 → ((-2147483648) ≤ (a4 + 1) ∧ (a4 + 1) ≤ 2147483647) ∧ ∀ x31 : Int, x31 = h5.2.1 13 (v9).toNat → -2147483648 ≤ x31 → x31 ≤ 2147483647 → ∀ x32 : Int, x32 = a5 * x31 → ((-9223372036854775808) ≤ x32 ∧ x32 ≤ 9223372036854775807) ∧ ∀ x35 : Int, x35 = h5.2.1 12 (v9).toNat → -2147483648 ≤ x35 → x35 ≤ 2147483647 → ∀ x36 : Int, x36 = a6 * x35 → ((-9223372036854775808) ≤ x36 ∧ x36 ≤ 9223372036854775807) ∧ con G dd 0 0 m_Parts_walkThrough [av_R (some 9), av_R (some a1), av_I (v9 + 1), av_I x28, av_I (a4 + 1), av_L x32, av_L x36] h5 (fun r h38 => r = none ∧ hb s h38 ∧ ∀ x42 : Int, x42 = h38.2.1 11 (v9).toNat → -2147483648 ≤ x42 → x42 ≤ 2147483647 → ∀ x43 : Int, x43 = (if v9 < x42 then x42 else v9) → -2147483648 ≤ x43 → x43 ≤ 2147483647 → B_Parts_walkThrough_212 G s dd a1 a2 a3 a4 a5 a6 (x43) h38 Q X11)) ∧ (¬ x8 = 123 → ((x8 = 124 → con G 1 0 0 m_Parts_meetLine [av_R (some 9), av_R (some a1)] h5 (fun r h23 => r = none ∧ hb s h23 ∧ B_Parts_walkThrough_212 G s dd a1 a2 a3 a4 a5 a6 (v9) h23 Q X11)) ∧ (¬ x8 = 124 → ∀ x10 : Int, x10 = h5.2.1 9 9 → -2147483648 ≤ x10 → x10 ≤ 2147483647 → ((-2147483648) ≤ (x10 + 1) ∧ (x10 + 1) ≤ 2147483647) ∧ ∀ h12 : ah_T, h12 = st_i h5 9 9 (x10 + 1) → ((300 < (x10 + 1) → B_Parts_walkThrough_212 G s dd a1 a2 a3 a4 a5 a6 (v9) h12 Q X11) ∧ (¬ 300 < (x10 + 1) → ∀ x15 : Int, x15 = h12.2.1 9 11 → (x15 = 0 ∨ x15 = 1) → ((x15 = 0 → B_Parts_walkThrough_212 G s dd a1 a2 a3 a4 a5 a6 (v9) h12 Q X11) ∧ (¬ x15 = 0 → ∀ x17 : Int, x17 = h12.2.1 12 (v9).toNat → -2147483648 ≤ x17 → x17 ≤ 2147483647 → con G 1 0 0 m_Voice_addEvent [av_R (some a1), av_I x17, av_L a5, av_L a6] h12 (fun r h18 => ∃ z20 : Int, r = some (av_I z20) ∧ hb s h18 ∧ (z20 = 0 ∨ z20 = 1) ∧ ∀ h21 : ah_T, h21 = st_i h18 9 11 z20 → B_Parts_walkThrough_212 G s dd a1 a2 a3 a4 a5 a6 (v9) h21 Q X11)))))))))))))))))
theorem b_Parts_walkThrough_11 {G : cx_T} {s : Nat} {dd : Nat} {a1 : Nat} {a2 : Int} {a3 : Int} {a4 : Int} {a5 : Int} {a6 : Int} (hdd : 4 ≤ dd) (ha1 : isV a1) {v9 : Int} {h : ah_T} {Q : Option av_T → ah_T → Prop} {X11 : Int → ah_T → Prop} (hX11 : ∀ (v9 : Int) (h : ah_T), hb s h → X11 v9 h → aw G (rm_R (dd + 1) 0 0) m_Parts_walkThrough 0 0 11 [some (av_R (some 9)), some (av_R (some a1)), none, some (av_I a3), some (av_I a4), some (av_L a5), none, some (av_L a6), none, some (av_I v9), none] [] h Q) (hb0 : hb s h) (H : B_Parts_walkThrough_11 G s dd a1 a2 a3 a4 a5 a6 v9 h Q X11) : aw G (rm_R (dd + 1) 0 0) m_Parts_walkThrough 0 0 11 [some (av_R (some 9)), some (av_R (some a1)), none, some (av_I a3), some (av_I a4), some (av_L a5), none, some (av_L a6), none, some (av_I v9), none] [] h Q := by
  unfold B_Parts_walkThrough_11 at H
  have hS : isS s := hb0.2.1
  refine A_iload d_Parts_walkThrough_11 rfl ?_
  refine A_iload_n 3 d_Parts_walkThrough_13 rfl rfl ?_
  refine A_icmp_ge (tgt := 218) d_Parts_walkThrough_14 (by decide) (fun c => ?_) (fun c => ?_)
  · replace H := H.1 c
    refine A_pc (pc' := 218) rfl ?_
    refine A_free (L' := [none, none, none, none, none, none, none, none, none, none, none]) trivial ?_
    exact b_Parts_walkThrough_218 hdd ha1   hb0 H
  · replace H := H.2 c
    refine A_iload d_Parts_walkThrough_17 rfl ?_
    refine A_aload_n 0 d_Parts_walkThrough_19 rfl rfl ?_
    refine A_getIf T_ok d_Parts_walkThrough_20 f_Parts_30 (hb_s hb0 sf_9) (fun x1 ex1 lx1 ux1 => ?_)
    replace H := H x1 ex1 lx1 ux1
    refine A_icmp_ge (tgt := 218) d_Parts_walkThrough_23 (by decide) (fun c => ?_) (fun c => ?_)
    · replace H := H.1 c
      refine A_pc (pc' := 218) rfl ?_
      refine A_free (L' := [none, none, none, none, none, none, none, none, none, none, none]) trivial ?_
      exact b_Parts_walkThrough_218 hdd ha1   hb0 H
    · replace H := H.2 c
      refine A_aload_n 0 d_Parts_walkThrough_26 rfl rfl ?_
      refine A_getIf T_ok d_Parts_walkThrough_27 f_Parts_46 (hb_s hb0 sf_9) (fun x2 ex2 lx2 ux2 => ?_)
      replace H := H x2 ex2 lx2 ux2
      refine A_sipush d_Parts_walkThrough_30 rfl ?_
      refine A_icmp_gt (tgt := 218) d_Parts_walkThrough_33 (by decide) (fun c => ?_) (fun c => ?_)
      · replace H := H.1 c
        refine A_pc (pc' := 218) rfl ?_
        refine A_free (L' := [none, none, none, none, none, none, none, none, none, none, none]) trivial ?_
        exact b_Parts_walkThrough_218 hdd ha1   hb0 H
      · replace H := H.2 c
        refine A_aload_n 0 d_Parts_walkThrough_36 rfl rfl ?_
        refine A_dupR d_Parts_walkThrough_37 ?_
        refine A_getIv (z := x2) T_ok d_Parts_walkThrough_38 f_Parts_46 (hb_s hb0 sf_9) ex2.symm ?_
        refine A_iconst d_Parts_walkThrough_41 rfl ?_
        have g4 := H.1
        replace H := H.2
        refine A_iaddv (z := (x2 + 1)) d_Parts_walkThrough_42 (w32_to (by omega) (by unfold i32; omega)) ?_
        refine A_pc (pc' := 43) rfl ?_
        refine A_putI T_ok d_Parts_walkThrough_43 f_Parts_46 (hb_s hb0 sf_9) fin_f ?_
        refine A_hn (fun h5 eh5 => ?_)
        have hb6 := hb_i hb0 eh5
        replace H := H h5 eh5
        refine A_aload_n 0 d_Parts_walkThrough_46 rfl rfl ?_
        refine A_getAv (z := some 10) T_ok d_Parts_walkThrough_47 f_Parts_9 (hb_s hb6 sf_9) (hb_r hb6 rff_9_0) ?_
        refine A_iload d_Parts_walkThrough_50 rfl ?_
        have g9 := H.1
        replace H := H.2
        refine A_ialoadf d_Parts_walkThrough_52 (hb_s hb6 sf_10) g9.1 g9.2 (fun x8 ex8 lx8 ux8 => ?_)
        replace H := H x8 ex8 lx8 ux8
        refine A_istore (L' := [some (av_R (some 9)), some (av_R (some a1)), none, some (av_I a3), some (av_I a4), some (av_L a5), none, some (av_L a6), none, some (av_I v9), some (av_I x8)]) d_Parts_walkThrough_53 (Nat.le_of_ble_eq_true rfl) rfl ?_
        refine A_pc (pc' := 55) rfl ?_
        refine A_iload d_Parts_walkThrough_55 rfl ?_
        refine A_bipush d_Parts_walkThrough_57 rfl ?_
        refine A_icmp_ne (tgt := 85) d_Parts_walkThrough_59 (by decide) (fun c => ?_) (fun c => ?_)
        · replace H := H.2 c
          refine A_iload d_Parts_walkThrough_85 rfl ?_
          refine A_bipush d_Parts_walkThrough_87 rfl ?_
          refine A_icmp_ne (tgt := 151) d_Parts_walkThrough_89 (by decide) (fun c => ?_) (fun c => ?_)
          · replace H := H.2 c
            refine A_iload d_Parts_walkThrough_151 rfl ?_
            refine A_bipush d_Parts_walkThrough_153 rfl ?_
            refine A_icmp_ne (tgt := 166) d_Parts_walkThrough_155 (by decide) (fun c => ?_) (fun c => ?_)
            · replace H := H.2 c
              refine A_aload_n 0 d_Parts_walkThrough_166 rfl rfl ?_
              refine A_dupR d_Parts_walkThrough_167 ?_
              refine A_getIf T_ok d_Parts_walkThrough_168 f_Parts_49 (hb_s hb6 sf_9) (fun x10 ex10 lx10 ux10 => ?_)
              replace H := H x10 ex10 lx10 ux10
              refine A_iconst d_Parts_walkThrough_171 rfl ?_
              have g11 := H.1
              replace H := H.2
              refine A_iaddv (z := (x10 + 1)) d_Parts_walkThrough_172 (w32_to (by omega) (by unfold i32; omega)) ?_
              refine A_pc (pc' := 173) rfl ?_
              refine A_putI T_ok d_Parts_walkThrough_173 f_Parts_49 (hb_s hb6 sf_9) fin_f ?_
              refine A_hn (fun h12 eh12 => ?_)
              have hb13 := hb_i hb6 eh12
              replace H := H h12 eh12
              refine A_aload_n 0 d_Parts_walkThrough_176 rfl rfl ?_
              refine A_getIv (z := (x10 + 1)) T_ok d_Parts_walkThrough_177 f_Parts_49 (hb_s hb13 sf_9) (mv_i eh12) ?_
              refine A_sipush d_Parts_walkThrough_180 rfl ?_
              refine A_icmp_gt (tgt := 212) d_Parts_walkThrough_183 (by decide) (fun c => ?_) (fun c => ?_)
              · replace H := H.1 c
                refine A_pc (pc' := 212) rfl ?_
                refine A_free (L' := [some (av_R (some 9)), some (av_R (some a1)), none, some (av_I a3), some (av_I a4), some (av_L a5), none, some (av_L a6), none, some (av_I v9), none]) (And.intro rfl (And.intro rfl (And.intro rfl (And.intro rfl (And.intro rfl (And.intro rfl (And.intro rfl trivial))))))) ?_
                exact b_Parts_walkThrough_212 hdd ha1 hX11  hb13 H
              · replace H := H.2 c
                refine A_aload_n 0 d_Parts_walkThrough_186 rfl rfl ?_
                refine A_getZn T_ok d_Parts_walkThrough_187 f_Parts_55 (hb_s hb13 sf_9) (fun x15 ex15 bx15 => ?_)
                replace H := H x15 ex15 bx15
                refine A_if_eq (tgt := 212) d_Parts_walkThrough_190 (by decide) (fun c => ?_) (fun c => ?_)
                · replace H := H.1 c
                  refine A_pc (pc' := 212) rfl ?_
                  refine A_free (L' := [some (av_R (some 9)), some (av_R (some a1)), none, some (av_I a3), some (av_I a4), some (av_L a5), none, some (av_L a6), none, some (av_I v9), none]) (And.intro rfl (And.intro rfl (And.intro rfl (And.intro rfl (And.intro rfl (And.intro rfl (And.intro rfl trivial))))))) ?_
                  exact b_Parts_walkThrough_212 hdd ha1 hX11  hb13 H
                · replace H := H.2 c
                  refine A_aload_n 0 d_Parts_walkThrough_193 rfl rfl ?_
                  refine A_aload_n 1 d_Parts_walkThrough_194 rfl rfl ?_
                  refine A_aload_n 0 d_Parts_walkThrough_195 rfl rfl ?_
                  refine A_getAv (z := some 12) T_ok d_Parts_walkThrough_196 f_Parts_18 (hb_s hb13 sf_9) (hb_r hb13 rff_9_2) ?_
                  refine A_iload d_Parts_walkThrough_199 rfl ?_
                  refine A_pc (pc' := 201) rfl ?_
                  refine A_ialoadf d_Parts_walkThrough_201 (hb_s hb13 sf_12) g9.1 g9.2 (fun x17 ex17 lx17 ux17 => ?_)
                  replace H := H x17 ex17 lx17 ux17
                  refine A_lload d_Parts_walkThrough_202 rfl ?_
                  refine A_lload d_Parts_walkThrough_204 rfl ?_
                  refine A_callV3 m_Voice_addEvent T_ok d_Parts_walkThrough_206 l_Parts_80 k_Voice_addEvent (hs_V hb13 ha1) rfl ⟨by show 1 + 1 ≤ dd + 1; omega, by show 8 + (19 + 11) + 48 * 1 ≤ 48 * (dd + 1); omega⟩ (And.intro (Nat.zero_le _) (Nat.zero_le _)) (Nat.le_of_ble_eq_true rfl) H (fun r h18 hq => ?_)
                  clear H
                  obtain ⟨z20, rfl, hb19, H⟩ := hq
                  have H0 := H.1
                  replace H := H.2
                  refine A_putZ T_ok d_Parts_walkThrough_209 f_Parts_55 (hb_s hb19 sf_9) fin_f H0 ?_
                  refine A_hn (fun h21 eh21 => ?_)
                  have hb22 := hb_i hb19 eh21
                  replace H := H h21 eh21
                  refine A_pc (pc' := 212) rfl ?_
                  refine A_free (L' := [some (av_R (some 9)), some (av_R (some a1)), none, some (av_I a3), some (av_I a4), some (av_L a5), none, some (av_L a6), none, some (av_I v9), none]) (And.intro rfl (And.intro rfl (And.intro rfl (And.intro rfl (And.intro rfl (And.intro rfl (And.intro rfl trivial))))))) ?_
                  exact b_Parts_walkThrough_212 hdd ha1 hX11  hb22 H
            · replace H := H.1 c
              refine A_aload_n 0 d_Parts_walkThrough_158 rfl rfl ?_
              refine A_aload_n 1 d_Parts_walkThrough_159 rfl rfl ?_
              refine A_callV1 m_Parts_meetLine T_ok d_Parts_walkThrough_160 l_Parts_76 k_Parts_meetLine (hb_s hb6 sf_9) rfl ⟨by show 1 + 1 ≤ dd + 1; omega, by show 8 + (2 + 11) + 48 * 1 ≤ 48 * (dd + 1); omega⟩ (And.intro (Nat.zero_le _) (Nat.zero_le _)) (Nat.le_of_ble_eq_true rfl) H (fun r h23 hq => ?_)
              clear H
              obtain ⟨rfl, hb24, H⟩ := hq
              refine A_goto (tgt := 212) d_Parts_walkThrough_163 (by decide) ?_
              refine A_pc (pc' := 212) rfl ?_
              refine A_free (L' := [some (av_R (some 9)), some (av_R (some a1)), none, some (av_I a3), some (av_I a4), some (av_L a5), none, some (av_L a6), none, some (av_I v9), none]) (And.intro rfl (And.intro rfl (And.intro rfl (And.intro rfl (And.intro rfl (And.intro rfl (And.intro rfl trivial))))))) ?_
              exact b_Parts_walkThrough_212 hdd ha1 hX11  hb24 H
          · replace H := H.1 c
            refine A_aload_n 0 d_Parts_walkThrough_92 rfl rfl ?_
            refine A_aload_n 1 d_Parts_walkThrough_93 rfl rfl ?_
            refine A_iload d_Parts_walkThrough_94 rfl ?_
            refine A_iconst d_Parts_walkThrough_96 rfl ?_
            have g26 := H.1
            replace H := H.2
            refine A_iaddv (z := (v9 + 1)) d_Parts_walkThrough_97 (w32_to (by omega) (by unfold i32; omega)) ?_
            refine A_pc (pc' := 98) rfl ?_
            refine A_aload_n 0 d_Parts_walkThrough_98 rfl rfl ?_
            refine A_getAv (z := some 11) T_ok d_Parts_walkThrough_99 f_Parts_15 (hb_s hb6 sf_9) (hb_r hb6 rff_9_1) ?_
            refine A_iload d_Parts_walkThrough_102 rfl ?_
            refine A_ialoadf d_Parts_walkThrough_104 (hb_s hb6 sf_11) g9.1 g9.2 (fun x28 ex28 lx28 ux28 => ?_)
            replace H := H x28 ex28 lx28 ux28
            refine A_iload d_Parts_walkThrough_105 rfl ?_
            refine A_iconst d_Parts_walkThrough_107 rfl ?_
            refine A_pc (pc' := 108) rfl ?_
            have g29 := H.1
            replace H := H.2
            refine A_iaddv (z := (a4 + 1)) d_Parts_walkThrough_108 (w32_to (by omega) (by unfold i32; omega)) ?_
            refine A_lload d_Parts_walkThrough_109 rfl ?_
            refine A_aload_n 0 d_Parts_walkThrough_111 rfl rfl ?_
            refine A_getAv (z := some 13) T_ok d_Parts_walkThrough_112 f_Parts_21 (hb_s hb6 sf_9) (hb_r hb6 rff_9_3) ?_
            refine A_iload d_Parts_walkThrough_115 rfl ?_
            refine A_ialoadf d_Parts_walkThrough_117 (hb_s hb6 sf_13) g9.1 g9.2 (fun x31 ex31 lx31 ux31 => ?_)
            replace H := H x31 ex31 lx31 ux31
            refine A_pc (pc' := 118) rfl ?_
            refine A_i2l d_Parts_walkThrough_118 ?_
            obtain ⟨x32, ex32⟩ : ∃ z : Int, z = a5 * x31 := ⟨_, rfl⟩
            replace H := H x32 ex32
            have g33 := H.1
            replace H := H.2
            refine A_lmulv (z := x32) d_Parts_walkThrough_119 (w64_to ex32.symm (by unfold i64; omega)) ?_
            refine A_lload d_Parts_walkThrough_120 rfl ?_
            refine A_aload_n 0 d_Parts_walkThrough_122 rfl rfl ?_
            refine A_getAv (z := some 12) T_ok d_Parts_walkThrough_123 f_Parts_18 (hb_s hb6 sf_9) (hb_r hb6 rff_9_2) ?_
            refine A_iload d_Parts_walkThrough_126 rfl ?_
            refine A_pc (pc' := 128) rfl ?_
            refine A_ialoadf d_Parts_walkThrough_128 (hb_s hb6 sf_12) g9.1 g9.2 (fun x35 ex35 lx35 ux35 => ?_)
            replace H := H x35 ex35 lx35 ux35
            refine A_i2l d_Parts_walkThrough_129 ?_
            obtain ⟨x36, ex36⟩ : ∃ z : Int, z = a6 * x35 := ⟨_, rfl⟩
            replace H := H x36 ex36
            have g37 := H.1
            replace H := H.2
            refine A_lmulv (z := x36) d_Parts_walkThrough_130 (w64_to ex36.symm (by unfold i64; omega)) ?_
            refine A_callV6 m_Parts_walkThrough T_ok d_Parts_walkThrough_131 l_Parts_59 k_Parts_walkThrough (hb_s hb6 sf_9) rfl ⟨by show dd + 1 ≤ dd + 1; omega, by show 8 + (11 + 11) + 48 * dd ≤ 48 * (dd + 1); omega⟩ (And.intro (Nat.zero_le _) (Nat.zero_le _)) (Nat.le_of_ble_eq_true rfl) H (fun r h38 hq => ?_)
            clear H
            obtain ⟨rfl, hb39, H⟩ := hq
            refine A_iload d_Parts_walkThrough_134 rfl ?_
            refine A_aload_n 0 d_Parts_walkThrough_136 rfl rfl ?_
            refine A_getAv (z := some 11) T_ok d_Parts_walkThrough_137 f_Parts_15 (hb_s hb39 sf_9) (hb_r hb39 rff_9_1) ?_
            refine A_iload d_Parts_walkThrough_140 rfl ?_
            refine A_ialoadf d_Parts_walkThrough_142 (hb_s hb39 sf_11) g9.1 g9.2 (fun x42 ex42 lx42 ux42 => ?_)
            replace H := H x42 ex42 lx42 ux42
            refine A_pc (pc' := 143) rfl ?_
            refine A_mmax (z := (if v9 < x42 then x42 else v9)) d_Parts_walkThrough_143 lm_Parts_70 ma_max ⟨by show 1 ≤ dd + 1; omega, by show 21 ≤ 48 * (dd + 1); omega⟩ (And.intro (Nat.zero_le _) (Nat.zero_le _)) (Nat.le_of_ble_eq_true rfl) rfl ?_
            refine A_nrI (fun x43 ex43 lx43 ux43 => ?_)
            replace H := H x43 ex43 lx43 ux43
            refine A_istore (L' := [some (av_R (some 9)), some (av_R (some a1)), none, some (av_I a3), some (av_I a4), some (av_L a5), none, some (av_L a6), none, some (av_I x43), some (av_I x8)]) d_Parts_walkThrough_146 (Nat.le_of_ble_eq_true rfl) rfl ?_
            refine A_goto (tgt := 212) d_Parts_walkThrough_148 (by decide) ?_
            refine A_pc (pc' := 212) rfl ?_
            refine A_free (L' := [some (av_R (some 9)), some (av_R (some a1)), none, some (av_I a3), some (av_I a4), some (av_L a5), none, some (av_L a6), none, some (av_I x43), none]) (And.intro rfl (And.intro rfl (And.intro rfl (And.intro rfl (And.intro rfl (And.intro rfl (And.intro rfl trivial))))))) ?_
            exact b_Parts_walkThrough_212 hdd ha1 hX11  hb39 H
        · replace H := H.1 c
          refine A_iload d_Parts_walkThrough_62 rfl ?_
          refine A_aload_n 0 d_Parts_walkThrough_64 rfl rfl ?_
          refine A_aload_n 1 d_Parts_walkThrough_65 rfl rfl ?_
          refine A_iload d_Parts_walkThrough_66 rfl ?_
          refine A_iload d_Parts_walkThrough_68 rfl ?_
          refine A_pc (pc' := 70) rfl ?_
          refine A_lload d_Parts_walkThrough_70 rfl ?_
          refine A_lload d_Parts_walkThrough_72 rfl ?_
          refine A_callV5 m_Parts_walkRepeat T_ok d_Parts_walkThrough_74 l_Parts_66 k_Parts_walkRepeat (hb_s hb6 sf_9) rfl ⟨by show dd + 1 ≤ dd + 1; omega, by show 8 + (11 + 11) + 48 * dd ≤ 48 * (dd + 1); omega⟩ (And.intro (Nat.zero_le _) (Nat.zero_le _)) (Nat.le_of_ble_eq_true rfl) H (fun r h44 hq => ?_)
          clear H
          obtain ⟨z46, rfl, hb45, H⟩ := hq
          refine A_mmax (z := (if v9 < z46 then z46 else v9)) d_Parts_walkThrough_77 lm_Parts_70 ma_max ⟨by show 1 ≤ dd + 1; omega, by show 21 ≤ 48 * (dd + 1); omega⟩ (And.intro (Nat.zero_le _) (Nat.zero_le _)) (Nat.le_of_ble_eq_true rfl) rfl ?_
          refine A_nrI (fun x47 ex47 lx47 ux47 => ?_)
          replace H := H x47 ex47 lx47 ux47
          refine A_istore (L' := [some (av_R (some 9)), some (av_R (some a1)), none, some (av_I a3), some (av_I a4), some (av_L a5), none, some (av_L a6), none, some (av_I x47), some (av_I x8)]) d_Parts_walkThrough_80 (Nat.le_of_ble_eq_true rfl) rfl ?_
          refine A_goto (tgt := 212) d_Parts_walkThrough_82 (by decide) ?_
          refine A_pc (pc' := 212) rfl ?_
          refine A_free (L' := [some (av_R (some 9)), some (av_R (some a1)), none, some (av_I a3), some (av_I a4), some (av_L a5), none, some (av_L a6), none, some (av_I x47), none]) (And.intro rfl (And.intro rfl (And.intro rfl (And.intro rfl (And.intro rfl (And.intro rfl (And.intro rfl trivial))))))) ?_
          exact b_Parts_walkThrough_212 hdd ha1 hX11  hb45 H
theorem lp_Parts_walkThrough_11 {G : cx_T} {s : Nat} {dd : Nat} {a1 : Nat} {a2 : Int} {a3 : Int} {a4 : Int} {a5 : Int} {a6 : Int} (hdd : 4 ≤ dd) (ha1 : isV a1) {Q : Option av_T → ah_T → Prop} (I : Int → ah_T → Prop) (μ : Int → ah_T → Nat) (hI : ∀ (v9 : Int) (h : ah_T), hb s h → I v9 h → B_Parts_walkThrough_11 G s dd a1 a2 a3 a4 a5 a6 v9 h Q (fun v9' h' => I v9' h' ∧ μ v9' h' < μ v9 h)) : ∀ (v9 : Int) (h : ah_T), hb s h → I v9 h → aw G (rm_R (dd + 1) 0 0) m_Parts_walkThrough 0 0 11 [some (av_R (some 9)), some (av_R (some a1)), none, some (av_I a3), some (av_I a4), some (av_L a5), none, some (av_L a6), none, some (av_I v9), none] [] h Q := by
  have key : ∀ (n : Nat) (v9 : Int) (h : ah_T), hb s h → I v9 h → μ v9 h < n → aw G (rm_R (dd + 1) 0 0) m_Parts_walkThrough 0 0 11 [some (av_R (some 9)), some (av_R (some a1)), none, some (av_I a3), some (av_I a4), some (av_L a5), none, some (av_L a6), none, some (av_I v9), none] [] h Q := by
    intro n
    induction n with
    | zero => intro v9 h  hb0 hi hm; omega
    | succ n ih => intro v9 h  hb0 hi hm; exact b_Parts_walkThrough_11 hdd ha1 (fun v9' h'  hb' hx => ih v9' h'  hb' hx.1 (by have := hx.2; omega))  hb0 (hI v9 h  hb0 hi)
  exact fun v9 h  hb0 hi => key _ v9 h  hb0 hi (Nat.lt_succ_self _)
def B_Parts_walkThrough_0 (G : cx_T) (s : Nat) (dd : Nat) (a1 : Nat) (a2 : Int) (a3 : Int) (a4 : Int) (a5 : Int) (a6 : Int) (h : ah_T) (Q : Option av_T → ah_T → Prop) (X11 : Int → ah_T → Prop) : Prop :=
 ((a4 ≤ 7 → X11 (a2) h) ∧ (¬ a4 ≤ 7 → Q none h))
theorem b_Parts_walkThrough_0 {G : cx_T} {s : Nat} {dd : Nat} {a1 : Nat} {a2 : Int} {a3 : Int} {a4 : Int} {a5 : Int} {a6 : Int} (hdd : 4 ≤ dd) (ha1 : isV a1) {h : ah_T} {Q : Option av_T → ah_T → Prop} {X11 : Int → ah_T → Prop} (hX11 : ∀ (v9 : Int) (h : ah_T), hb s h → X11 v9 h → aw G (rm_R (dd + 1) 0 0) m_Parts_walkThrough 0 0 11 [some (av_R (some 9)), some (av_R (some a1)), none, some (av_I a3), some (av_I a4), some (av_L a5), none, some (av_L a6), none, some (av_I v9), none] [] h Q) (hb0 : hb s h) (H : B_Parts_walkThrough_0 G s dd a1 a2 a3 a4 a5 a6 h Q X11) : aw G (rm_R (dd + 1) 0 0) m_Parts_walkThrough 0 0 0 [some (av_R (some 9)), some (av_R (some a1)), some (av_I a2), some (av_I a3), some (av_I a4), some (av_L a5), none, some (av_L a6), none, none, none] [] h Q := by
  unfold B_Parts_walkThrough_0 at H
  have hS : isS s := hb0.2.1
  refine A_iload d_Parts_walkThrough_0 rfl ?_
  refine A_bipush d_Parts_walkThrough_2 rfl ?_
  refine A_icmp_le (tgt := 8) d_Parts_walkThrough_4 (by decide) (fun c => ?_) (fun c => ?_)
  · replace H := H.1 c
    refine A_iload_n 2 d_Parts_walkThrough_8 rfl rfl ?_
    refine A_istore (L' := [some (av_R (some 9)), some (av_R (some a1)), some (av_I a2), some (av_I a3), some (av_I a4), some (av_L a5), none, some (av_L a6), none, some (av_I a2), none]) d_Parts_walkThrough_9 (Nat.le_of_ble_eq_true rfl) rfl ?_
    refine A_pc (pc' := 11) rfl ?_
    refine A_free (L' := [some (av_R (some 9)), some (av_R (some a1)), none, some (av_I a3), some (av_I a4), some (av_L a5), none, some (av_L a6), none, some (av_I a2), none]) (And.intro rfl (And.intro rfl (And.intro rfl (And.intro rfl (And.intro rfl (And.intro rfl (And.intro rfl trivial))))))) ?_
    exact hX11 (a2) h  hb0 H
  · replace H := H.2 c
    exact A_vret d_Parts_walkThrough_7 (And.intro (Nat.zero_le _) (Nat.zero_le _)) rfl H
theorem c_Parts_walkThrough {G : cx_T} {s : Nat} {dd : Nat} {a1 : Nat} {a2 : Int} {a3 : Int} {a4 : Int} {a5 : Int} {a6 : Int} (hdd : 4 ≤ dd) (ha1 : isV a1) {h : ah_T} {Q : Option av_T → ah_T → Prop} {X11 : Int → ah_T → Prop} (hX11 : ∀ (v9 : Int) (h : ah_T), hb s h → X11 v9 h → aw G (rm_R (dd + 1) 0 0) m_Parts_walkThrough 0 0 11 [some (av_R (some 9)), some (av_R (some a1)), none, some (av_I a3), some (av_I a4), some (av_L a5), none, some (av_L a6), none, some (av_I v9), none] [] h Q) (hb0 : hb s h) (H : i32 a2 → i32 a3 → i32 a4 → i64 a5 → i64 a6 → B_Parts_walkThrough_0 G s dd a1 a2 a3 a4 a5 a6 h Q X11) : con G (dd + 1) 0 0 m_Parts_walkThrough [av_R (some 9), av_R (some a1), av_I a2, av_I a3, av_I a4, av_L a5, av_L a6] h Q := by
  have hS : isS s := hb0.2.1
  refine con_of (L := [some (av_R (some 9)), some (av_R (some a1)), some (av_I a2), some (av_I a3), some (av_I a4), some (av_L a5), none, some (av_L a6), none, none, none]) (by decide +kernel) (Nat.le_of_ble_eq_true rfl) rfl ?_
  refine A_locI 2 rfl (fun ra2 => ?_)
  refine A_locI 3 rfl (fun ra3 => ?_)
  refine A_locI 4 rfl (fun ra4 => ?_)
  refine A_locL 5 rfl (fun ra5 => ?_)
  refine A_locL 7 rfl (fun ra7 => ?_)
  exact b_Parts_walkThrough_0 hdd ha1 hX11 hb0 (H ra2 ra3 ra4 ra5 ra7)
def B_Parts_walkInto_85 (G : cx_T) (s : Nat) (a1 : Nat) (t0 : Int) (h : ah_T) (Q : Option av_T → ah_T → Prop) : Prop :=
 Q (some (av_I t0)) h
theorem b_Parts_walkInto_85 {G : cx_T} {s : Nat} {a1 : Nat} (ha1 : isV a1) {t0 : Int} {h : ah_T} {Q : Option av_T → ah_T → Prop} (hb0 : hb s h) (H : B_Parts_walkInto_85 G s a1 t0 h Q ) : aw G (rm_R 21 0 0) m_Parts_walkInto 0 0 85 [none, none] [av_I t0] h Q := by
  unfold B_Parts_walkInto_85 at H
  have hS : isS s := hb0.2.1
  exact A_iret d_Parts_walkInto_85 (by decide) rfl H
def B_Parts_walkInto_70 (G : cx_T) (s : Nat) (a1 : Nat) (h : ah_T) (Q : Option av_T → ah_T → Prop) : Prop :=
 Q (some (av_I 3)) h
theorem b_Parts_walkInto_70 {G : cx_T} {s : Nat} {a1 : Nat} (ha1 : isV a1) {h : ah_T} {Q : Option av_T → ah_T → Prop} (hb0 : hb s h) (H : B_Parts_walkInto_70 G s a1 h Q ) : aw G (rm_R 21 0 0) m_Parts_walkInto 0 0 70 [none, none] [] h Q := by
  unfold B_Parts_walkInto_70 at H
  have hS : isS s := hb0.2.1
  refine A_iconst d_Parts_walkInto_70 rfl ?_
  exact A_iret d_Parts_walkInto_71 (by decide) rfl H
def B_Parts_walkInto_0 (G : cx_T) (s : Nat) (a1 : Nat) (h : ah_T) (Q : Option av_T → ah_T → Prop) : Prop :=
 con G 0 0 0 m_Voice_beginWalk [av_R (some a1)] h (fun r h1 => r = none ∧ hb s h1 ∧ ∀ h4 : ah_T, h4 = st_i h1 9 8 0 → ∀ h6 : ah_T, h6 = st_i h4 9 9 0 → ∀ h8 : ah_T, h8 = st_i h6 9 10 0 → ∀ h10 : ah_T, h10 = st_i h8 9 11 1 → ∀ x12 : Int, x12 = h10.2.1 9 4 → -2147483648 ≤ x12 → x12 ≤ 2147483647 → con G 20 0 0 m_Parts_walkThrough [av_R (some 9), av_R (some a1), av_I 0, av_I x12, av_I 0, av_L 1, av_L 1] h10 (fun r h13 => r = none ∧ hb s h13 ∧ con G 0 0 0 m_Voice_endWalk [av_R (some a1)] h13 (fun r h16 => r = none ∧ hb s h16 ∧ ∀ x19 : Int, x19 = h16.2.1 9 8 → -2147483648 ≤ x19 → x19 ≤ 2147483647 → ((2000 < x19 → B_Parts_walkInto_70 G s a1 h16 Q ) ∧ (¬ 2000 < x19 → ∀ x20 : Int, x20 = h16.2.1 9 9 → -2147483648 ≤ x20 → x20 ≤ 2147483647 → ((300 < x20 → B_Parts_walkInto_70 G s a1 h16 Q ) ∧ (¬ 300 < x20 → ∀ x21 : Int, x21 = h16.2.1 9 10 → -2147483648 ≤ x21 → x21 ≤ 2147483647 → ((x21 ≤ 100 → ∀ x22 : Int, x22 = h16.2.1 9 11 → (x22 = 0 ∨ x22 = 1) → ((x22 = 0 → B_Parts_walkInto_85 G s a1 (6) h16 Q ) ∧ (¬ x22 = 0 → B_Parts_walkInto_85 G s a1 (0) h16 Q ))) ∧ (¬ x21 ≤ 100 → B_Parts_walkInto_70 G s a1 h16 Q )))))))))
theorem b_Parts_walkInto_0 {G : cx_T} {s : Nat} {a1 : Nat} (ha1 : isV a1) {h : ah_T} {Q : Option av_T → ah_T → Prop} (hb0 : hb s h) (H : B_Parts_walkInto_0 G s a1 h Q ) : aw G (rm_R 21 0 0) m_Parts_walkInto 0 0 0 [some (av_R (some 9)), some (av_R (some a1))] [] h Q := by
  unfold B_Parts_walkInto_0 at H
  have hS : isS s := hb0.2.1
  refine A_aload_n 1 d_Parts_walkInto_0 rfl rfl ?_
  refine A_callV0 m_Voice_beginWalk T_ok d_Parts_walkInto_1 l_Parts_41 k_Voice_beginWalk (hs_V hb0 ha1) rfl (by decide +kernel) (by decide) (Nat.le_of_ble_eq_true rfl) H (fun r h1 hq => ?_)
  clear H
  obtain ⟨rfl, hb2, H⟩ := hq
  refine A_aload_n 0 d_Parts_walkInto_4 rfl rfl ?_
  refine A_iconst d_Parts_walkInto_5 rfl ?_
  refine A_putI T_ok d_Parts_walkInto_6 f_Parts_46 (hb_s hb2 sf_9) fin_f ?_
  refine A_hn (fun h4 eh4 => ?_)
  have hb5 := hb_i hb2 eh4
  replace H := H h4 eh4
  refine A_aload_n 0 d_Parts_walkInto_9 rfl rfl ?_
  refine A_iconst d_Parts_walkInto_10 rfl ?_
  refine A_pc (pc' := 11) rfl ?_
  refine A_putI T_ok d_Parts_walkInto_11 f_Parts_49 (hb_s hb5 sf_9) fin_f ?_
  refine A_hn (fun h6 eh6 => ?_)
  have hb7 := hb_i hb5 eh6
  replace H := H h6 eh6
  refine A_aload_n 0 d_Parts_walkInto_14 rfl rfl ?_
  refine A_iconst d_Parts_walkInto_15 rfl ?_
  refine A_putI T_ok d_Parts_walkInto_16 f_Parts_52 (hb_s hb7 sf_9) fin_f ?_
  refine A_hn (fun h8 eh8 => ?_)
  have hb9 := hb_i hb7 eh8
  replace H := H h8 eh8
  refine A_aload_n 0 d_Parts_walkInto_19 rfl rfl ?_
  refine A_iconst d_Parts_walkInto_20 rfl ?_
  refine A_pc (pc' := 21) rfl ?_
  refine A_putZ T_ok d_Parts_walkInto_21 f_Parts_55 (hb_s hb9 sf_9) fin_f (by decide) ?_
  refine A_hn (fun h10 eh10 => ?_)
  have hb11 := hb_i hb9 eh10
  replace H := H h10 eh10
  refine A_aload_n 0 d_Parts_walkInto_24 rfl rfl ?_
  refine A_aload_n 1 d_Parts_walkInto_25 rfl rfl ?_
  refine A_iconst d_Parts_walkInto_26 rfl ?_
  refine A_aload_n 0 d_Parts_walkInto_27 rfl rfl ?_
  refine A_getIf T_ok d_Parts_walkInto_28 f_Parts_30 (hb_s hb11 sf_9) (fun x12 ex12 lx12 ux12 => ?_)
  replace H := H x12 ex12 lx12 ux12
  refine A_pc (pc' := 31) rfl ?_
  refine A_iconst d_Parts_walkInto_31 rfl ?_
  refine A_lconst_1 d_Parts_walkInto_32 ?_
  refine A_lconst_1 d_Parts_walkInto_33 ?_
  refine A_callV6 m_Parts_walkThrough T_ok d_Parts_walkInto_34 l_Parts_59 k_Parts_walkThrough (hb_s hb11 sf_9) rfl (by decide +kernel) (by decide) (Nat.le_of_ble_eq_true rfl) H (fun r h13 hq => ?_)
  clear H
  obtain ⟨rfl, hb14, H⟩ := hq
  refine A_aload_n 1 d_Parts_walkInto_37 rfl rfl ?_
  refine A_callV0 m_Voice_endWalk T_ok d_Parts_walkInto_38 l_Parts_63 k_Voice_endWalk (hs_V hb14 ha1) rfl (by decide +kernel) (by decide) (Nat.le_of_ble_eq_true rfl) H (fun r h16 hq => ?_)
  clear H
  obtain ⟨rfl, hb17, H⟩ := hq
  refine A_aload_n 0 d_Parts_walkInto_41 rfl rfl ?_
  refine A_getIf T_ok d_Parts_walkInto_42 f_Parts_46 (hb_s hb17 sf_9) (fun x19 ex19 lx19 ux19 => ?_)
  replace H := H x19 ex19 lx19 ux19
  refine A_sipush d_Parts_walkInto_45 rfl ?_
  refine A_icmp_gt (tgt := 70) d_Parts_walkInto_48 (by decide) (fun c => ?_) (fun c => ?_)
  · replace H := H.1 c
    refine A_pc (pc' := 70) rfl ?_
    refine A_free (L' := [none, none]) trivial ?_
    exact b_Parts_walkInto_70 ha1   hb17 H
  · replace H := H.2 c
    refine A_aload_n 0 d_Parts_walkInto_51 rfl rfl ?_
    refine A_getIf T_ok d_Parts_walkInto_52 f_Parts_49 (hb_s hb17 sf_9) (fun x20 ex20 lx20 ux20 => ?_)
    replace H := H x20 ex20 lx20 ux20
    refine A_sipush d_Parts_walkInto_55 rfl ?_
    refine A_icmp_gt (tgt := 70) d_Parts_walkInto_58 (by decide) (fun c => ?_) (fun c => ?_)
    · replace H := H.1 c
      refine A_pc (pc' := 70) rfl ?_
      refine A_free (L' := [none, none]) trivial ?_
      exact b_Parts_walkInto_70 ha1   hb17 H
    · replace H := H.2 c
      refine A_aload_n 0 d_Parts_walkInto_61 rfl rfl ?_
      refine A_getIf T_ok d_Parts_walkInto_62 f_Parts_52 (hb_s hb17 sf_9) (fun x21 ex21 lx21 ux21 => ?_)
      replace H := H x21 ex21 lx21 ux21
      refine A_bipush d_Parts_walkInto_65 rfl ?_
      refine A_icmp_le (tgt := 72) d_Parts_walkInto_67 (by decide) (fun c => ?_) (fun c => ?_)
      · replace H := H.1 c
        refine A_aload_n 0 d_Parts_walkInto_72 rfl rfl ?_
        refine A_getZn T_ok d_Parts_walkInto_73 f_Parts_55 (hb_s hb17 sf_9) (fun x22 ex22 bx22 => ?_)
        replace H := H x22 ex22 bx22
        refine A_if_eq (tgt := 83) d_Parts_walkInto_76 (by decide) (fun c => ?_) (fun c => ?_)
        · replace H := H.1 c
          refine A_bipush d_Parts_walkInto_83 rfl ?_
          refine A_pc (pc' := 85) rfl ?_
          refine A_free (L' := [none, none]) trivial ?_
          exact b_Parts_walkInto_85 ha1   hb17 H
        · replace H := H.2 c
          refine A_iconst d_Parts_walkInto_79 rfl ?_
          refine A_goto (tgt := 85) d_Parts_walkInto_80 (by decide) ?_
          refine A_pc (pc' := 85) rfl ?_
          refine A_free (L' := [none, none]) trivial ?_
          exact b_Parts_walkInto_85 ha1   hb17 H
      · replace H := H.2 c
        refine A_pc (pc' := 70) rfl ?_
        refine A_free (L' := [none, none]) trivial ?_
        exact b_Parts_walkInto_70 ha1   hb17 H
theorem c_Parts_walkInto {G : cx_T} {s : Nat} {a1 : Nat} (ha1 : isV a1) {h : ah_T} {Q : Option av_T → ah_T → Prop} (hb0 : hb s h) (H : B_Parts_walkInto_0 G s a1 h Q ) : con G 21 0 0 m_Parts_walkInto [av_R (some 9), av_R (some a1)] h Q := by
  have hS : isS s := hb0.2.1
  refine con_of (L := [some (av_R (some 9)), some (av_R (some a1))]) (by decide +kernel) (Nat.le_of_ble_eq_true rfl) rfl ?_
  exact b_Parts_walkInto_0 ha1  hb0 (H )
