/-! ===== verification conditions, 509 ===== -/
def B_MD_place_0 (G : cx_T) (s : Nat) (h : ah_T) (Q : Option av_T → ah_T → Prop) : Prop :=
 ∀ x1 : Int, x1 = h.2.1 170 13 → -2147483648 ≤ x1 → x1 ≤ 2147483647 → Q (some (av_I x1)) h
theorem b_MD_place_0 {G : cx_T} {s : Nat} {h : ah_T} {Q : Option av_T → ah_T → Prop} (hb0 : hb s h) (H : B_MD_place_0 G s h Q ) : aw G (rm_R 0 0 0) m_MD_place 0 0 0 [some (av_R (some 170))] [] h Q := by
  unfold B_MD_place_0 at H
  have hS : isS s := hb0.2.1
  refine A_aload_n 0 d_MD_place_0 rfl rfl ?_
  refine A_getIf T_ok d_MD_place_1 f_MD_13 (hb_s hb0 sf_170) (fun x1 ex1 lx1 ux1 => ?_)
  replace H := H x1 ex1 lx1 ux1
  exact A_iret d_MD_place_4 (by decide) rfl H
theorem c_MD_place {G : cx_T} {s : Nat} {h : ah_T} {Q : Option av_T → ah_T → Prop} (hb0 : hb s h) (H : B_MD_place_0 G s h Q ) : con G 0 0 0 m_MD_place [av_R (some 170)] h Q := by
  have hS : isS s := hb0.2.1
  refine con_of (L := [some (av_R (some 170))]) (by decide +kernel) (Nat.le_of_ble_eq_true rfl) rfl ?_
  exact b_MD_place_0   hb0 (H )
def B_MD_pageBars_34 (G : cx_T) (s : Nat) (v2 : Int) (t0 : Int) (h : ah_T) (Q : Option av_T → ah_T → Prop) (X4 : Int → Int → ah_T → Prop) : Prop :=
 ((-2147483648) ≤ (v2 + 1) ∧ (v2 + 1) ≤ 2147483647) ∧ X4 (t0) ((v2 + 1)) h
theorem b_MD_pageBars_34 {G : cx_T} {s : Nat} {v2 : Int} {t0 : Int} {h : ah_T} {Q : Option av_T → ah_T → Prop} {X4 : Int → Int → ah_T → Prop} (hX4 : ∀ (v1 : Int) (v2 : Int) (h : ah_T), hb s h → X4 v1 v2 h → aw G (rm_R 0 0 0) m_MD_pageBars 0 0 4 [some (av_R (some 170)), some (av_I v1), some (av_I v2)] [] h Q) (hb0 : hb s h) (H : B_MD_pageBars_34 G s v2 t0 h Q X4) : aw G (rm_R 0 0 0) m_MD_pageBars 0 0 34 [some (av_R (some 170)), none, some (av_I v2)] [av_I t0] h Q := by
  unfold B_MD_pageBars_34 at H
  have hS : isS s := hb0.2.1
  refine A_istore_n 1 (L' := [some (av_R (some 170)), some (av_I t0), some (av_I v2)]) d_MD_pageBars_34 rfl (Nat.le_of_ble_eq_true rfl) rfl ?_
  have g1 := H.1
  replace H := H.2
  refine A_iincv (z := (v2 + 1)) (L' := [some (av_R (some 170)), some (av_I t0), some (av_I (v2 + 1))]) d_MD_pageBars_35 rfl (w32_to (by omega) (by unfold i32; omega)) rfl ?_
  refine A_goto (tgt := 4) d_MD_pageBars_38 (by decide) ?_
  refine A_pc (pc' := 4) rfl ?_
  exact hX4 (t0) ((v2 + 1)) h  hb0 H
def B_MD_pageBars_4 (G : cx_T) (s : Nat) (v1 : Int) (v2 : Int) (h : ah_T) (Q : Option av_T → ah_T → Prop) (X4 : Int → Int → ah_T → Prop) : Prop :=
 ∀ x2 : Int, x2 = h.2.1 172 0 → -2147483648 ≤ x2 → x2 ≤ 2147483647 → ((x2 ≤ v2 → Q (some (av_I v1)) h) ∧ (¬ x2 ≤ v2 → (0 ≤ v2 ∧ v2 < 8) ∧ ∀ x4 : Int, x4 = h.2.1 186 (v2).toNat → -2147483648 ≤ x4 → x4 ≤ 2147483647 → ((x4 ≤ v1 → B_MD_pageBars_34 G s (v2) (v1) h Q X4) ∧ (¬ x4 ≤ v1 → B_MD_pageBars_34 G s (v2) (x4) h Q X4))))
theorem b_MD_pageBars_4 {G : cx_T} {s : Nat} {v1 : Int} {v2 : Int} {h : ah_T} {Q : Option av_T → ah_T → Prop} {X4 : Int → Int → ah_T → Prop} (hX4 : ∀ (v1 : Int) (v2 : Int) (h : ah_T), hb s h → X4 v1 v2 h → aw G (rm_R 0 0 0) m_MD_pageBars 0 0 4 [some (av_R (some 170)), some (av_I v1), some (av_I v2)] [] h Q) (hb0 : hb s h) (H : B_MD_pageBars_4 G s v1 v2 h Q X4) : aw G (rm_R 0 0 0) m_MD_pageBars 0 0 4 [some (av_R (some 170)), some (av_I v1), some (av_I v2)] [] h Q := by
  unfold B_MD_pageBars_4 at H
  have hS : isS s := hb0.2.1
  refine A_iload_n 2 d_MD_pageBars_4 rfl rfl ?_
  refine A_aload_n 0 d_MD_pageBars_5 rfl rfl ?_
  refine A_getAv (z := some 172) T_ok d_MD_pageBars_6 f_MD_17 (hb_s hb0 sf_170) (hb_m hb0 rfm_14) ?_
  refine A_iconst d_MD_pageBars_9 rfl ?_
  refine A_ialoadf d_MD_pageBars_10 (hb_s hb0 sf_172) (by decide) (by decide) (fun x2 ex2 lx2 ux2 => ?_)
  replace H := H x2 ex2 lx2 ux2
  refine A_pc (pc' := 11) rfl ?_
  refine A_icmp_ge (tgt := 41) d_MD_pageBars_11 (by decide) (fun c => ?_) (fun c => ?_)
  · replace H := H.1 c
    refine A_iload_n 1 d_MD_pageBars_41 rfl rfl ?_
    exact A_iret d_MD_pageBars_42 (by decide) rfl H
  · replace H := H.2 c
    refine A_aload_n 0 d_MD_pageBars_14 rfl rfl ?_
    refine A_getAv (z := some 186) T_ok d_MD_pageBars_15 f_MD_60 (hb_s hb0 sf_170) (hb_m hb0 rfm_28) ?_
    refine A_iload_n 2 d_MD_pageBars_18 rfl rfl ?_
    have g5 := H.1
    replace H := H.2
    refine A_ialoadf d_MD_pageBars_19 (hb_s hb0 sf_186) g5.1 g5.2 (fun x4 ex4 lx4 ux4 => ?_)
    replace H := H x4 ex4 lx4 ux4
    refine A_iload_n 1 d_MD_pageBars_20 rfl rfl ?_
    refine A_pc (pc' := 21) rfl ?_
    refine A_icmp_le (tgt := 33) d_MD_pageBars_21 (by decide) (fun c => ?_) (fun c => ?_)
    · replace H := H.1 c
      refine A_iload_n 1 d_MD_pageBars_33 rfl rfl ?_
      refine A_pc (pc' := 34) rfl ?_
      refine A_free (L' := [some (av_R (some 170)), none, some (av_I v2)]) (And.intro rfl (And.intro rfl trivial)) ?_
      exact b_MD_pageBars_34  hX4  hb0 H
    · replace H := H.2 c
      refine A_aload_n 0 d_MD_pageBars_24 rfl rfl ?_
      refine A_getAv (z := some 186) T_ok d_MD_pageBars_25 f_MD_60 (hb_s hb0 sf_170) (hb_m hb0 rfm_28) ?_
      refine A_iload_n 2 d_MD_pageBars_28 rfl rfl ?_
      refine A_ialoadv (z := x4) d_MD_pageBars_29 (hb_s hb0 sf_186) (by omega) (by omega) ex4.symm ?_
      refine A_goto (tgt := 34) d_MD_pageBars_30 (by decide) ?_
      refine A_pc (pc' := 34) rfl ?_
      refine A_free (L' := [some (av_R (some 170)), none, some (av_I v2)]) (And.intro rfl (And.intro rfl trivial)) ?_
      exact b_MD_pageBars_34  hX4  hb0 H
theorem lp_MD_pageBars_4 {G : cx_T} {s : Nat} {Q : Option av_T → ah_T → Prop} (I : Int → Int → ah_T → Prop) (μ : Int → Int → ah_T → Nat) (hI : ∀ (v1 : Int) (v2 : Int) (h : ah_T), hb s h → I v1 v2 h → B_MD_pageBars_4 G s v1 v2 h Q (fun v1' v2' h' => I v1' v2' h' ∧ μ v1' v2' h' < μ v1 v2 h)) : ∀ (v1 : Int) (v2 : Int) (h : ah_T), hb s h → I v1 v2 h → aw G (rm_R 0 0 0) m_MD_pageBars 0 0 4 [some (av_R (some 170)), some (av_I v1), some (av_I v2)] [] h Q := by
  have key : ∀ (n : Nat) (v1 : Int) (v2 : Int) (h : ah_T), hb s h → I v1 v2 h → μ v1 v2 h < n → aw G (rm_R 0 0 0) m_MD_pageBars 0 0 4 [some (av_R (some 170)), some (av_I v1), some (av_I v2)] [] h Q := by
    intro n
    induction n with
    | zero => intro v1 v2 h  hb0 hi hm; omega
    | succ n ih => intro v1 v2 h  hb0 hi hm; exact b_MD_pageBars_4  (fun v1' v2' h'  hb' hx => ih v1' v2' h'  hb' hx.1 (by have := hx.2; omega))  hb0 (hI v1 v2 h  hb0 hi)
  exact fun v1 v2 h  hb0 hi => key _ v1 v2 h  hb0 hi (Nat.lt_succ_self _)
def B_MD_pageBars_0 (G : cx_T) (s : Nat) (h : ah_T) (Q : Option av_T → ah_T → Prop) (X4 : Int → Int → ah_T → Prop) : Prop :=
 X4 (0) (0) h
theorem b_MD_pageBars_0 {G : cx_T} {s : Nat} {h : ah_T} {Q : Option av_T → ah_T → Prop} {X4 : Int → Int → ah_T → Prop} (hX4 : ∀ (v1 : Int) (v2 : Int) (h : ah_T), hb s h → X4 v1 v2 h → aw G (rm_R 0 0 0) m_MD_pageBars 0 0 4 [some (av_R (some 170)), some (av_I v1), some (av_I v2)] [] h Q) (hb0 : hb s h) (H : B_MD_pageBars_0 G s h Q X4) : aw G (rm_R 0 0 0) m_MD_pageBars 0 0 0 [some (av_R (some 170)), none, none] [] h Q := by
  unfold B_MD_pageBars_0 at H
  have hS : isS s := hb0.2.1
  refine A_iconst d_MD_pageBars_0 rfl ?_
  refine A_istore_n 1 (L' := [some (av_R (some 170)), some (av_I 0), none]) d_MD_pageBars_1 rfl (Nat.le_of_ble_eq_true rfl) rfl ?_
  refine A_iconst d_MD_pageBars_2 rfl ?_
  refine A_istore_n 2 (L' := [some (av_R (some 170)), some (av_I 0), some (av_I 0)]) d_MD_pageBars_3 rfl (Nat.le_of_ble_eq_true rfl) rfl ?_
  refine A_pc (pc' := 4) rfl ?_
  exact hX4 (0) (0) h  hb0 H
theorem c_MD_pageBars {G : cx_T} {s : Nat} {h : ah_T} {Q : Option av_T → ah_T → Prop} {X4 : Int → Int → ah_T → Prop} (hX4 : ∀ (v1 : Int) (v2 : Int) (h : ah_T), hb s h → X4 v1 v2 h → aw G (rm_R 0 0 0) m_MD_pageBars 0 0 4 [some (av_R (some 170)), some (av_I v1), some (av_I v2)] [] h Q) (hb0 : hb s h) (H : B_MD_pageBars_0 G s h Q X4) : con G 0 0 0 m_MD_pageBars [av_R (some 170)] h Q := by
  have hS : isS s := hb0.2.1
  refine con_of (L := [some (av_R (some 170)), none, none]) (by decide +kernel) (Nat.le_of_ble_eq_true rfl) rfl ?_
  exact b_MD_pageBars_0  hX4 hb0 (H )
def B_MD_told_116 (G : cx_T) (s : Nat) (a1 : Int) (t0 : Int) (h : ah_T) (Q : Option av_T → ah_T → Prop) : Prop :=
 Q (some (av_I t0)) h
theorem b_MD_told_116 {G : cx_T} {s : Nat} {a1 : Int} {t0 : Int} {h : ah_T} {Q : Option av_T → ah_T → Prop} (hb0 : hb s h) (H : B_MD_told_116 G s a1 t0 h Q ) : aw G (rm_R 1 0 0) m_MD_told 0 0 116 [none, none] [av_I t0] h Q := by
  unfold B_MD_told_116 at H
  have hS : isS s := hb0.2.1
  exact A_iret d_MD_told_116 (by decide) rfl H
def B_MD_told_96 (G : cx_T) (s : Nat) (a1 : Int) (t0 : Int) (h : ah_T) (Q : Option av_T → ah_T → Prop) : Prop :=
 Q (some (av_I t0)) h
theorem b_MD_told_96 {G : cx_T} {s : Nat} {a1 : Int} {t0 : Int} {h : ah_T} {Q : Option av_T → ah_T → Prop} (hb0 : hb s h) (H : B_MD_told_96 G s a1 t0 h Q ) : aw G (rm_R 1 0 0) m_MD_told 0 0 96 [none, none] [av_I t0] h Q := by
  unfold B_MD_told_96 at H
  have hS : isS s := hb0.2.1
  exact A_iret d_MD_told_96 (by decide) rfl H
def B_MD_told_0 (G : cx_T) (s : Nat) (a1 : Int) (h : ah_T) (Q : Option av_T → ah_T → Prop) : Prop :=
 ((a1 = 0 → ∀ x2 : Int, x2 = h.2.1 172 0 → -2147483648 ≤ x2 → x2 ≤ 2147483647 → Q (some (av_I x2)) h) ∧ (a1 = 1 → ∀ x4 : Int, x4 = h.2.1 175 0 → -2147483648 ≤ x4 → x4 ≤ 2147483647 → Q (some (av_I x4)) h) ∧ (a1 = 2 → ∀ x6 : Int, x6 = h.2.1 177 0 → -2147483648 ≤ x6 → x6 ≤ 2147483647 → Q (some (av_I x6)) h) ∧ (a1 = 3 → ∀ x8 : Int, x8 = h.2.1 181 0 → -2147483648 ≤ x8 → x8 ≤ 2147483647 → Q (some (av_I x8)) h) ∧ (a1 = 4 → con G 0 0 0 m_MD_pageBars [av_R (some 170)] h (fun r h9 => ∃ z11 : Int, r = some (av_I z11) ∧ hb s h9 ∧ Q (some (av_I z11)) h9)) ∧ (a1 = 5 → ∀ x13 : Int, x13 = h.2.1 173 0 → -2147483648 ≤ x13 → x13 ≤ 2147483647 → ((x13 = 0 → B_MD_told_96 G s a1 (4) h Q ) ∧ (¬ x13 = 0 → B_MD_told_96 G s a1 (x13) h Q ))) ∧ (a1 = 6 → ∀ x17 : Int, x17 = h.2.1 174 0 → -2147483648 ≤ x17 → x17 ≤ 2147483647 → ((x17 = 0 → B_MD_told_116 G s a1 (4) h Q ) ∧ (¬ x17 = 0 → B_MD_told_116 G s a1 (x17) h Q ))) ∧ ((a1 < 0 ∨ 6 < a1) → Q (some (av_I (-1))) h))
theorem b_MD_told_0 {G : cx_T} {s : Nat} {a1 : Int} {h : ah_T} {Q : Option av_T → ah_T → Prop} (hb0 : hb s h) (H : B_MD_told_0 G s a1 h Q ) : aw G (rm_R 1 0 0) m_MD_told 0 0 0 [some (av_R (some 170)), some (av_I a1)] [] h Q := by
  unfold B_MD_told_0 at H
  have hS : isS s := hb0.2.1
  refine A_iload_n 1 d_MD_told_0 rfl rfl ?_
  rcases (by omega : a1 = 0 ∨ a1 = 1 ∨ a1 = 2 ∨ a1 = 3 ∨ a1 = 4 ∨ a1 = 5 ∨ a1 = 6 ∨ (a1 < 0 ∨ 6 < a1)) with c | c | c | c | c | c | c | c
  · replace H := H.1 c
    refine A_tabIn (tgt := 44) d_MD_told_1 (by omega) (by omega) (by rw [c]; rfl) (by decide) ?_
    refine A_aload_n 0 d_MD_told_44 rfl rfl ?_
    refine A_getAv (z := some 172) T_ok d_MD_told_45 f_MD_17 (hb_s hb0 sf_170) (hb_m hb0 rfm_14) ?_
    refine A_iconst d_MD_told_48 rfl ?_
    refine A_ialoadf d_MD_told_49 (hb_s hb0 sf_172) (by decide) (by decide) (fun x2 ex2 lx2 ux2 => ?_)
    replace H := H x2 ex2 lx2 ux2
    exact A_iret d_MD_told_50 (by decide) rfl H
  · replace H := H.2.1 c
    refine A_tabIn (tgt := 51) d_MD_told_1 (by omega) (by omega) (by rw [c]; rfl) (by decide) ?_
    refine A_aload_n 0 d_MD_told_51 rfl rfl ?_
    refine A_getAv (z := some 175) T_ok d_MD_told_52 f_MD_26 (hb_s hb0 sf_170) (hb_m hb0 rfm_17) ?_
    refine A_iconst d_MD_told_55 rfl ?_
    refine A_ialoadf d_MD_told_56 (hb_s hb0 sf_175) (by decide) (by decide) (fun x4 ex4 lx4 ux4 => ?_)
    replace H := H x4 ex4 lx4 ux4
    exact A_iret d_MD_told_57 (by decide) rfl H
  · replace H := H.2.2.1 c
    refine A_tabIn (tgt := 58) d_MD_told_1 (by omega) (by omega) (by rw [c]; rfl) (by decide) ?_
    refine A_aload_n 0 d_MD_told_58 rfl rfl ?_
    refine A_getAv (z := some 177) T_ok d_MD_told_59 f_MD_32 (hb_s hb0 sf_170) (hb_m hb0 rfm_19) ?_
    refine A_iconst d_MD_told_62 rfl ?_
    refine A_ialoadf d_MD_told_63 (hb_s hb0 sf_177) (by decide) (by decide) (fun x6 ex6 lx6 ux6 => ?_)
    replace H := H x6 ex6 lx6 ux6
    exact A_iret d_MD_told_64 (by decide) rfl H
  · replace H := H.2.2.2.1 c
    refine A_tabIn (tgt := 65) d_MD_told_1 (by omega) (by omega) (by rw [c]; rfl) (by decide) ?_
    refine A_aload_n 0 d_MD_told_65 rfl rfl ?_
    refine A_getAv (z := some 181) T_ok d_MD_told_66 f_MD_44 (hb_s hb0 sf_170) (hb_m hb0 rfm_23) ?_
    refine A_iconst d_MD_told_69 rfl ?_
    refine A_ialoadf d_MD_told_70 (hb_s hb0 sf_181) (by decide) (by decide) (fun x8 ex8 lx8 ux8 => ?_)
    replace H := H x8 ex8 lx8 ux8
    exact A_iret d_MD_told_71 (by decide) rfl H
  · replace H := H.2.2.2.2.1 c
    refine A_tabIn (tgt := 72) d_MD_told_1 (by omega) (by omega) (by rw [c]; rfl) (by decide) ?_
    refine A_aload_n 0 d_MD_told_72 rfl rfl ?_
    refine A_callV0 m_MD_pageBars T_ok d_MD_told_73 l_MD_492 k_MD_pageBars (hb_s hb0 sf_170) rfl (by decide +kernel) (by decide) (Nat.le_of_ble_eq_true rfl) H (fun r h9 hq => ?_)
    clear H
    obtain ⟨z11, rfl, hb10, H⟩ := hq
    exact A_iret d_MD_told_76 (by decide) rfl H
  · replace H := H.2.2.2.2.2.1 c
    refine A_tabIn (tgt := 77) d_MD_told_1 (by omega) (by omega) (by rw [c]; rfl) (by decide) ?_
    refine A_aload_n 0 d_MD_told_77 rfl rfl ?_
    refine A_getAv (z := some 173) T_ok d_MD_told_78 f_MD_20 (hb_s hb0 sf_170) (hb_m hb0 rfm_15) ?_
    refine A_iconst d_MD_told_81 rfl ?_
    refine A_ialoadf d_MD_told_82 (hb_s hb0 sf_173) (by decide) (by decide) (fun x13 ex13 lx13 ux13 => ?_)
    replace H := H x13 ex13 lx13 ux13
    refine A_if_ne (tgt := 90) d_MD_told_83 (by decide) (fun c => ?_) (fun c => ?_)
    · replace H := H.2 c
      refine A_aload_n 0 d_MD_told_90 rfl rfl ?_
      refine A_getAv (z := some 173) T_ok d_MD_told_91 f_MD_20 (hb_s hb0 sf_170) (hb_m hb0 rfm_15) ?_
      refine A_iconst d_MD_told_94 rfl ?_
      refine A_ialoadv (z := x13) d_MD_told_95 (hb_s hb0 sf_173) (by decide) (by decide) ex13.symm ?_
      refine A_pc (pc' := 96) rfl ?_
      refine A_free (L' := [none, none]) trivial ?_
      exact b_MD_told_96    hb0 H
    · replace H := H.1 c
      refine A_iconst d_MD_told_86 rfl ?_
      refine A_goto (tgt := 96) d_MD_told_87 (by decide) ?_
      refine A_pc (pc' := 96) rfl ?_
      refine A_free (L' := [none, none]) trivial ?_
      exact b_MD_told_96    hb0 H
  · replace H := H.2.2.2.2.2.2.1 c
    refine A_tabIn (tgt := 97) d_MD_told_1 (by omega) (by omega) (by rw [c]; rfl) (by decide) ?_
    refine A_aload_n 0 d_MD_told_97 rfl rfl ?_
    refine A_getAv (z := some 174) T_ok d_MD_told_98 f_MD_23 (hb_s hb0 sf_170) (hb_m hb0 rfm_16) ?_
    refine A_iconst d_MD_told_101 rfl ?_
    refine A_ialoadf d_MD_told_102 (hb_s hb0 sf_174) (by decide) (by decide) (fun x17 ex17 lx17 ux17 => ?_)
    replace H := H x17 ex17 lx17 ux17
    refine A_if_ne (tgt := 110) d_MD_told_103 (by decide) (fun c => ?_) (fun c => ?_)
    · replace H := H.2 c
      refine A_aload_n 0 d_MD_told_110 rfl rfl ?_
      refine A_getAv (z := some 174) T_ok d_MD_told_111 f_MD_23 (hb_s hb0 sf_170) (hb_m hb0 rfm_16) ?_
      refine A_iconst d_MD_told_114 rfl ?_
      refine A_ialoadv (z := x17) d_MD_told_115 (hb_s hb0 sf_174) (by decide) (by decide) ex17.symm ?_
      refine A_pc (pc' := 116) rfl ?_
      refine A_free (L' := [none, none]) trivial ?_
      exact b_MD_told_116    hb0 H
    · replace H := H.1 c
      refine A_iconst d_MD_told_106 rfl ?_
      refine A_goto (tgt := 116) d_MD_told_107 (by decide) ?_
      refine A_pc (pc' := 116) rfl ?_
      refine A_free (L' := [none, none]) trivial ?_
      exact b_MD_told_116    hb0 H
  · replace H := H.2.2.2.2.2.2.2 c
    refine A_tabOut (tgt := 117) d_MD_told_1 (by omega) (by decide) ?_
    refine A_iconst d_MD_told_117 rfl ?_
    exact A_iret d_MD_told_118 (by decide) rfl H
theorem c_MD_told {G : cx_T} {s : Nat} {a1 : Int} {h : ah_T} {Q : Option av_T → ah_T → Prop} (hb0 : hb s h) (H : i32 a1 → B_MD_told_0 G s a1 h Q ) : con G 1 0 0 m_MD_told [av_R (some 170), av_I a1] h Q := by
  have hS : isS s := hb0.2.1
  refine con_of (L := [some (av_R (some 170)), some (av_I a1)]) (by decide +kernel) (Nat.le_of_ble_eq_true rfl) rfl ?_
  refine A_locI 1 rfl (fun ra1 => ?_)
  exact b_MD_told_0   hb0 (H ra1)
def B_MD_isVoice_19 (G : cx_T) (s : Nat) (a1 : Int) (t0 : Int) (h : ah_T) (Q : Option av_T → ah_T → Prop) : Prop :=
 (t0 = 0 ∨ t0 = 1) ∧ Q (some (av_I t0)) h
theorem b_MD_isVoice_19 {G : cx_T} {s : Nat} {a1 : Int} {t0 : Int} {h : ah_T} {Q : Option av_T → ah_T → Prop} (hb0 : hb s h) (H : B_MD_isVoice_19 G s a1 t0 h Q ) : aw G (rm_R 0 0 0) m_MD_isVoice 0 0 19 [none, none] [av_I t0] h Q := by
  unfold B_MD_isVoice_19 at H
  have hS : isS s := hb0.2.1
  exact A_zret d_MD_isVoice_19 (by decide) rfl H.1 H.2
def B_MD_isVoice_18 (G : cx_T) (s : Nat) (a1 : Int) (h : ah_T) (Q : Option av_T → ah_T → Prop) : Prop :=
 B_MD_isVoice_19 G s a1 (0) h Q 
theorem b_MD_isVoice_18 {G : cx_T} {s : Nat} {a1 : Int} {h : ah_T} {Q : Option av_T → ah_T → Prop} (hb0 : hb s h) (H : B_MD_isVoice_18 G s a1 h Q ) : aw G (rm_R 0 0 0) m_MD_isVoice 0 0 18 [none, none] [] h Q := by
  unfold B_MD_isVoice_18 at H
  have hS : isS s := hb0.2.1
  refine A_iconst d_MD_isVoice_18 rfl ?_
  refine A_pc (pc' := 19) rfl ?_
  exact b_MD_isVoice_19    hb0 H
def B_MD_isVoice_0 (G : cx_T) (s : Nat) (a1 : Int) (h : ah_T) (Q : Option av_T → ah_T → Prop) : Prop :=
 ((a1 < 0 → B_MD_isVoice_18 G s a1 h Q ) ∧ (¬ a1 < 0 → ∀ x2 : Int, x2 = h.2.1 172 0 → -2147483648 ≤ x2 → x2 ≤ 2147483647 → ((x2 ≤ a1 → B_MD_isVoice_18 G s a1 h Q ) ∧ (¬ x2 ≤ a1 → B_MD_isVoice_19 G s a1 (1) h Q ))))
theorem b_MD_isVoice_0 {G : cx_T} {s : Nat} {a1 : Int} {h : ah_T} {Q : Option av_T → ah_T → Prop} (hb0 : hb s h) (H : B_MD_isVoice_0 G s a1 h Q ) : aw G (rm_R 0 0 0) m_MD_isVoice 0 0 0 [some (av_R (some 170)), some (av_I a1)] [] h Q := by
  unfold B_MD_isVoice_0 at H
  have hS : isS s := hb0.2.1
  refine A_iload_n 1 d_MD_isVoice_0 rfl rfl ?_
  refine A_if_lt (tgt := 18) d_MD_isVoice_1 (by decide) (fun c => ?_) (fun c => ?_)
  · replace H := H.1 c
    refine A_pc (pc' := 18) rfl ?_
    refine A_free (L' := [none, none]) trivial ?_
    exact b_MD_isVoice_18    hb0 H
  · replace H := H.2 c
    refine A_iload_n 1 d_MD_isVoice_4 rfl rfl ?_
    refine A_aload_n 0 d_MD_isVoice_5 rfl rfl ?_
    refine A_getAv (z := some 172) T_ok d_MD_isVoice_6 f_MD_17 (hb_s hb0 sf_170) (hb_m hb0 rfm_14) ?_
    refine A_iconst d_MD_isVoice_9 rfl ?_
    refine A_ialoadf d_MD_isVoice_10 (hb_s hb0 sf_172) (by decide) (by decide) (fun x2 ex2 lx2 ux2 => ?_)
    replace H := H x2 ex2 lx2 ux2
    refine A_pc (pc' := 11) rfl ?_
    refine A_icmp_ge (tgt := 18) d_MD_isVoice_11 (by decide) (fun c => ?_) (fun c => ?_)
    · replace H := H.1 c
      refine A_pc (pc' := 18) rfl ?_
      refine A_free (L' := [none, none]) trivial ?_
      exact b_MD_isVoice_18    hb0 H
    · replace H := H.2 c
      refine A_iconst d_MD_isVoice_14 rfl ?_
      refine A_goto (tgt := 19) d_MD_isVoice_15 (by decide) ?_
      refine A_pc (pc' := 19) rfl ?_
      refine A_free (L' := [none, none]) trivial ?_
      exact b_MD_isVoice_19    hb0 H
theorem c_MD_isVoice {G : cx_T} {s : Nat} {a1 : Int} {h : ah_T} {Q : Option av_T → ah_T → Prop} (hb0 : hb s h) (H : i32 a1 → B_MD_isVoice_0 G s a1 h Q ) : con G 0 0 0 m_MD_isVoice [av_R (some 170), av_I a1] h Q := by
  have hS : isS s := hb0.2.1
  refine con_of (L := [some (av_R (some 170)), some (av_I a1)]) (by decide +kernel) (Nat.le_of_ble_eq_true rfl) rfl ?_
  refine A_locI 1 rfl (fun ra1 => ?_)
  exact b_MD_isVoice_0   hb0 (H ra1)
def B_MD_count_38 (G : cx_T) (s : Nat) (a1 : Int) (a2 : Int) (t0 : Int) (h : ah_T) (Q : Option av_T → ah_T → Prop) : Prop :=
 Q (some (av_I t0)) h
theorem b_MD_count_38 {G : cx_T} {s : Nat} {a1 : Int} {a2 : Int} {t0 : Int} {h : ah_T} {Q : Option av_T → ah_T → Prop} (hb0 : hb s h) (H : B_MD_count_38 G s a1 a2 t0 h Q ) : aw G (rm_R 1 0 0) m_MD_count 0 0 38 [none, none, none] [av_I t0] h Q := by
  unfold B_MD_count_38 at H
  have hS : isS s := hb0.2.1
  exact A_iret d_MD_count_38 (by decide) rfl H
def B_MD_count_17 (G : cx_T) (s : Nat) (a1 : Int) (a2 : Int) (h : ah_T) (Q : Option av_T → ah_T → Prop) : Prop :=
 Q (some (av_I (-1))) h
theorem b_MD_count_17 {G : cx_T} {s : Nat} {a1 : Int} {a2 : Int} {h : ah_T} {Q : Option av_T → ah_T → Prop} (hb0 : hb s h) (H : B_MD_count_17 G s a1 a2 h Q ) : aw G (rm_R 1 0 0) m_MD_count 0 0 17 [none, none, none] [] h Q := by
  unfold B_MD_count_17 at H
  have hS : isS s := hb0.2.1
  refine A_iconst d_MD_count_17 rfl ?_
  exact A_iret d_MD_count_18 (by decide) rfl H
def B_MD_count_0 (G : cx_T) (s : Nat) (a1 : Int) (a2 : Int) (h : ah_T) (Q : Option av_T → ah_T → Prop) : Prop :=
 con G 0 0 0 m_MD_isVoice [av_R (some 170), av_I a1] h (fun r h1 => ∃ z3 : Int, r = some (av_I z3) ∧ hb s h1 ∧ ((z3 = 0 → B_MD_count_17 G s a1 a2 h1 Q ) ∧ (¬ z3 = 0 → ((a2 < 0 → B_MD_count_17 G s a1 a2 h1 Q ) ∧ (¬ a2 < 0 → ((a2 ≤ 1 → ((a2 = 0 → (0 ≤ a1 ∧ a1 < 8) ∧ ∀ x8 : Int, x8 = h1.2.1 185 (a1).toNat → -2147483648 ≤ x8 → x8 ≤ 2147483647 → B_MD_count_38 G s a1 a2 (x8) h1 Q ) ∧ (¬ a2 = 0 → (0 ≤ a1 ∧ a1 < 8) ∧ ∀ x5 : Int, x5 = h1.2.1 186 (a1).toNat → -2147483648 ≤ x5 → x5 ≤ 2147483647 → B_MD_count_38 G s a1 a2 (x5) h1 Q ))) ∧ (¬ a2 ≤ 1 → B_MD_count_17 G s a1 a2 h1 Q )))))))
theorem b_MD_count_0 {G : cx_T} {s : Nat} {a1 : Int} {a2 : Int} {h : ah_T} {Q : Option av_T → ah_T → Prop} (hb0 : hb s h) (H : B_MD_count_0 G s a1 a2 h Q ) : aw G (rm_R 1 0 0) m_MD_count 0 0 0 [some (av_R (some 170)), some (av_I a1), some (av_I a2)] [] h Q := by
  unfold B_MD_count_0 at H
  have hS : isS s := hb0.2.1
  refine A_aload_n 0 d_MD_count_0 rfl rfl ?_
  refine A_iload_n 1 d_MD_count_1 rfl rfl ?_
  refine A_callV1 m_MD_isVoice T_ok d_MD_count_2 l_MD_495 k_MD_isVoice (hb_s hb0 sf_170) rfl (by decide +kernel) (by decide) (Nat.le_of_ble_eq_true rfl) H (fun r h1 hq => ?_)
  clear H
  obtain ⟨z3, rfl, hb2, H⟩ := hq
  refine A_if_eq (tgt := 17) d_MD_count_5 (by decide) (fun c => ?_) (fun c => ?_)
  · replace H := H.1 c
    refine A_pc (pc' := 17) rfl ?_
    refine A_free (L' := [none, none, none]) trivial ?_
    exact b_MD_count_17    hb2 H
  · replace H := H.2 c
    refine A_iload_n 2 d_MD_count_8 rfl rfl ?_
    refine A_if_lt (tgt := 17) d_MD_count_9 (by decide) (fun c => ?_) (fun c => ?_)
    · replace H := H.1 c
      refine A_pc (pc' := 17) rfl ?_
      refine A_free (L' := [none, none, none]) trivial ?_
      exact b_MD_count_17    hb2 H
    · replace H := H.2 c
      refine A_iload_n 2 d_MD_count_12 rfl rfl ?_
      refine A_iconst d_MD_count_13 rfl ?_
      refine A_icmp_le (tgt := 19) d_MD_count_14 (by decide) (fun c => ?_) (fun c => ?_)
      · replace H := H.1 c
        refine A_iload_n 2 d_MD_count_19 rfl rfl ?_
        refine A_if_ne (tgt := 32) d_MD_count_20 (by decide) (fun c => ?_) (fun c => ?_)
        · replace H := H.2 c
          refine A_aload_n 0 d_MD_count_32 rfl rfl ?_
          refine A_getAv (z := some 186) T_ok d_MD_count_33 f_MD_60 (hb_s hb2 sf_170) (hb_m hb2 rfm_28) ?_
          refine A_iload_n 1 d_MD_count_36 rfl rfl ?_
          have g6 := H.1
          replace H := H.2
          refine A_ialoadf d_MD_count_37 (hb_s hb2 sf_186) g6.1 g6.2 (fun x5 ex5 lx5 ux5 => ?_)
          replace H := H x5 ex5 lx5 ux5
          refine A_pc (pc' := 38) rfl ?_
          refine A_free (L' := [none, none, none]) trivial ?_
          exact b_MD_count_38    hb2 H
        · replace H := H.1 c
          refine A_aload_n 0 d_MD_count_23 rfl rfl ?_
          refine A_getAv (z := some 185) T_ok d_MD_count_24 f_MD_57 (hb_s hb2 sf_170) (hb_m hb2 rfm_27) ?_
          refine A_iload_n 1 d_MD_count_27 rfl rfl ?_
          have g9 := H.1
          replace H := H.2
          refine A_ialoadf d_MD_count_28 (hb_s hb2 sf_185) g9.1 g9.2 (fun x8 ex8 lx8 ux8 => ?_)
          replace H := H x8 ex8 lx8 ux8
          refine A_goto (tgt := 38) d_MD_count_29 (by decide) ?_
          refine A_pc (pc' := 38) rfl ?_
          refine A_free (L' := [none, none, none]) trivial ?_
          exact b_MD_count_38    hb2 H
      · replace H := H.2 c
        refine A_pc (pc' := 17) rfl ?_
        refine A_free (L' := [none, none, none]) trivial ?_
        exact b_MD_count_17    hb2 H
theorem c_MD_count {G : cx_T} {s : Nat} {a1 : Int} {a2 : Int} {h : ah_T} {Q : Option av_T → ah_T → Prop} (hb0 : hb s h) (H : i32 a1 → i32 a2 → B_MD_count_0 G s a1 a2 h Q ) : con G 1 0 0 m_MD_count [av_R (some 170), av_I a1, av_I a2] h Q := by
  have hS : isS s := hb0.2.1
  refine con_of (L := [some (av_R (some 170)), some (av_I a1), some (av_I a2)]) (by decide +kernel) (Nat.le_of_ble_eq_true rfl) rfl ?_
  refine A_locI 1 rfl (fun ra1 => ?_)
  refine A_locI 2 rfl (fun ra2 => ?_)
  exact b_MD_count_0   hb0 (H ra1 ra2)
def B_MD_event_IIIJ_249 (G : cx_T) (s : Nat) (a1 : Int) (a2 : Int) (a3 : Int) (t0 : Int) (h : ah_T) (Q : Option av_T → ah_T → Prop) : Prop :=
 Q (some (av_L t0)) h
theorem b_MD_event_IIIJ_249 {G : cx_T} {s : Nat} {a1 : Int} {a2 : Int} {a3 : Int} {t0 : Int} {h : ah_T} {Q : Option av_T → ah_T → Prop} (hb0 : hb s h) (H : B_MD_event_IIIJ_249 G s a1 a2 a3 t0 h Q ) : aw G (rm_R 1 0 0) m_MD_event_IIIJ 0 0 249 [none, none, none, none, none] [av_L t0] h Q := by
  unfold B_MD_event_IIIJ_249 at H
  have hS : isS s := hb0.2.1
  exact A_lret d_MD_event_IIIJ_249 (by decide) rfl H
def B_MD_event_IIIJ_246 (G : cx_T) (s : Nat) (a1 : Int) (a2 : Int) (a3 : Int) (h : ah_T) (Q : Option av_T → ah_T → Prop) : Prop :=
 B_MD_event_IIIJ_249 G s a1 a2 a3 (10000) h Q 
theorem b_MD_event_IIIJ_246 {G : cx_T} {s : Nat} {a1 : Int} {a2 : Int} {a3 : Int} {h : ah_T} {Q : Option av_T → ah_T → Prop} (hb0 : hb s h) (H : B_MD_event_IIIJ_246 G s a1 a2 a3 h Q ) : aw G (rm_R 1 0 0) m_MD_event_IIIJ 0 0 246 [none, none, none, none, none] [] h Q := by
  unfold B_MD_event_IIIJ_246 at H
  have hS : isS s := hb0.2.1
  refine A_ldc2 (z := 10000) d_MD_event_IIIJ_246 cst_MD_498 rfl ?_
  refine A_pc (pc' := 249) rfl ?_
  exact b_MD_event_IIIJ_249    hb0 H
def B_MD_event_IIIJ_208 (G : cx_T) (s : Nat) (a1 : Int) (a2 : Int) (a3 : Int) (v4 : Int) (h : ah_T) (Q : Option av_T → ah_T → Prop) : Prop :=
 ((a3 < 20 → B_MD_event_IIIJ_246 G s a1 a2 a3 h Q ) ∧ (¬ a3 < 20 → (0 ≤ v4 ∧ v4 < 2400) ∧ ∀ x2 : Int, x2 = h.2.1 191 (v4).toNat → -2147483648 ≤ x2 → x2 ≤ 2147483647 → ((-2147483648) ≤ (x2 + 20) ∧ (x2 + 20) ≤ 2147483647) ∧ (((x2 + 20) ≤ a3 → B_MD_event_IIIJ_246 G s a1 a2 a3 h Q ) ∧ (¬ (x2 + 20) ≤ a3 → ((-2147483648) ≤ (4 * v4) ∧ (4 * v4) ≤ 2147483647) ∧ ((-2147483648) ≤ (4 * v4 + a3) ∧ (4 * v4 + a3) ≤ 2147483647) ∧ ((-2147483648) ≤ (4 * v4 + a3 - 20) ∧ (4 * v4 + a3 - 20) ≤ 2147483647) ∧ (0 ≤ (4 * v4 + a3 - 20) ∧ (4 * v4 + a3 - 20) < 9600) ∧ ∀ x9 : Int, x9 = h.2.1 193 ((4 * v4 + a3 - 20)).toNat → -2147483648 ≤ x9 → x9 ≤ 2147483647 → B_MD_event_IIIJ_249 G s a1 a2 a3 (x9) h Q ))))
theorem b_MD_event_IIIJ_208 {G : cx_T} {s : Nat} {a1 : Int} {a2 : Int} {a3 : Int} {v4 : Int} {h : ah_T} {Q : Option av_T → ah_T → Prop} (hb0 : hb s h) (H : B_MD_event_IIIJ_208 G s a1 a2 a3 v4 h Q ) : aw G (rm_R 1 0 0) m_MD_event_IIIJ 0 0 208 [some (av_R (some 170)), none, none, some (av_I a3), some (av_I v4)] [] h Q := by
  unfold B_MD_event_IIIJ_208 at H
  have hS : isS s := hb0.2.1
  refine A_iload_n 3 d_MD_event_IIIJ_208 rfl rfl ?_
  refine A_bipush d_MD_event_IIIJ_209 rfl ?_
  refine A_icmp_lt (tgt := 246) d_MD_event_IIIJ_211 (by decide) (fun c => ?_) (fun c => ?_)
  · replace H := H.1 c
    refine A_pc (pc' := 246) rfl ?_
    refine A_free (L' := [none, none, none, none, none]) trivial ?_
    exact b_MD_event_IIIJ_246    hb0 H
  · replace H := H.2 c
    refine A_iload_n 3 d_MD_event_IIIJ_214 rfl rfl ?_
    refine A_bipush d_MD_event_IIIJ_215 rfl ?_
    refine A_aload_n 0 d_MD_event_IIIJ_217 rfl rfl ?_
    refine A_getAv (z := some 191) T_ok d_MD_event_IIIJ_218 f_MD_75 (hb_s hb0 sf_170) (hb_m hb0 rfm_33) ?_
    refine A_iload d_MD_event_IIIJ_221 rfl ?_
    refine A_pc (pc' := 223) rfl ?_
    have g3 := H.1
    replace H := H.2
    refine A_ialoadf d_MD_event_IIIJ_223 (hb_s hb0 sf_191) g3.1 g3.2 (fun x2 ex2 lx2 ux2 => ?_)
    replace H := H x2 ex2 lx2 ux2
    have g4 := H.1
    replace H := H.2
    refine A_iaddv (z := (x2 + 20)) d_MD_event_IIIJ_224 (w32_to (by omega) (by unfold i32; omega)) ?_
    refine A_icmp_ge (tgt := 246) d_MD_event_IIIJ_225 (by decide) (fun c => ?_) (fun c => ?_)
    · replace H := H.1 c
      refine A_pc (pc' := 246) rfl ?_
      refine A_free (L' := [none, none, none, none, none]) trivial ?_
      exact b_MD_event_IIIJ_246    hb0 H
    · replace H := H.2 c
      refine A_aload_n 0 d_MD_event_IIIJ_228 rfl rfl ?_
      refine A_getAv (z := some 193) T_ok d_MD_event_IIIJ_229 f_MD_81 (hb_s hb0 sf_170) (hb_m hb0 rfm_35) ?_
      refine A_iconst d_MD_event_IIIJ_232 rfl ?_
      refine A_iload d_MD_event_IIIJ_233 rfl ?_
      have g6 := H.1
      replace H := H.2
      refine A_imulv (z := (4 * v4)) d_MD_event_IIIJ_235 (w32_to (by omega) (by unfold i32; omega)) ?_
      refine A_pc (pc' := 236) rfl ?_
      refine A_iload_n 3 d_MD_event_IIIJ_236 rfl rfl ?_
      have g7 := H.1
      replace H := H.2
      refine A_iaddv (z := (4 * v4 + a3)) d_MD_event_IIIJ_237 (w32_to (by omega) (by unfold i32; omega)) ?_
      refine A_bipush d_MD_event_IIIJ_238 rfl ?_
      have g8 := H.1
      replace H := H.2
      refine A_isubv (z := (4 * v4 + a3 - 20)) d_MD_event_IIIJ_240 (w32_to (by omega) (by unfold i32; omega)) ?_
      have g10 := H.1
      replace H := H.2
      refine A_ialoadf d_MD_event_IIIJ_241 (hb_s hb0 sf_193) g10.1 g10.2 (fun x9 ex9 lx9 ux9 => ?_)
      replace H := H x9 ex9 lx9 ux9
      refine A_i2l d_MD_event_IIIJ_242 ?_
      refine A_pc (pc' := 243) rfl ?_
      refine A_goto (tgt := 249) d_MD_event_IIIJ_243 (by decide) ?_
      refine A_pc (pc' := 249) rfl ?_
      refine A_free (L' := [none, none, none, none, none]) trivial ?_
      exact b_MD_event_IIIJ_249    hb0 H
def B_MD_event_IIIJ_144 (G : cx_T) (s : Nat) (a1 : Int) (a2 : Int) (a3 : Int) (t0 : Int) (h : ah_T) (Q : Option av_T → ah_T → Prop) : Prop :=
 Q (some (av_L t0)) h
theorem b_MD_event_IIIJ_144 {G : cx_T} {s : Nat} {a1 : Int} {a2 : Int} {a3 : Int} {t0 : Int} {h : ah_T} {Q : Option av_T → ah_T → Prop} (hb0 : hb s h) (H : B_MD_event_IIIJ_144 G s a1 a2 a3 t0 h Q ) : aw G (rm_R 1 0 0) m_MD_event_IIIJ 0 0 144 [none, none, none, none, none] [av_L t0] h Q := by
  unfold B_MD_event_IIIJ_144 at H
  have hS : isS s := hb0.2.1
  exact A_lret d_MD_event_IIIJ_144 (by decide) rfl H
def B_MD_event_IIIJ_22 (G : cx_T) (s : Nat) (a1 : Int) (a2 : Int) (a3 : Int) (h : ah_T) (Q : Option av_T → ah_T → Prop) : Prop :=
 Q (some (av_L 10000)) h
theorem b_MD_event_IIIJ_22 {G : cx_T} {s : Nat} {a1 : Int} {a2 : Int} {a3 : Int} {h : ah_T} {Q : Option av_T → ah_T → Prop} (hb0 : hb s h) (H : B_MD_event_IIIJ_22 G s a1 a2 a3 h Q ) : aw G (rm_R 1 0 0) m_MD_event_IIIJ 0 0 22 [none, none, none, none, none] [] h Q := by
  unfold B_MD_event_IIIJ_22 at H
  have hS : isS s := hb0.2.1
  refine A_ldc2 (z := 10000) d_MD_event_IIIJ_22 cst_MD_498 rfl ?_
  exact A_lret d_MD_event_IIIJ_25 (by decide) rfl H
def B_MD_event_IIIJ_0 (G : cx_T) (s : Nat) (a1 : Int) (a2 : Int) (a3 : Int) (h : ah_T) (Q : Option av_T → ah_T → Prop) : Prop :=
 con G 0 0 0 m_MD_isVoice [av_R (some 170), av_I a1] h (fun r h1 => ∃ z3 : Int, r = some (av_I z3) ∧ hb s h1 ∧ ((z3 = 0 → B_MD_event_IIIJ_22 G s a1 a2 a3 h1 Q ) ∧ (¬ z3 = 0 → ((a2 < 0 → B_MD_event_IIIJ_22 G s a1 a2 a3 h1 Q ) ∧ (¬ a2 < 0 → (0 ≤ a1 ∧ a1 < 8) ∧ ∀ x5 : Int, x5 = h1.2.1 185 (a1).toNat → -2147483648 ≤ x5 → x5 ≤ 2147483647 → ((a2 < x5 → ((-2147483648) ≤ (300 * a1) ∧ (300 * a1) ≤ 2147483647) ∧ ((-2147483648) ≤ (300 * a1 + a2) ∧ (300 * a1 + a2) ≤ 2147483647) ∧ ((a3 = 0 → (0 ≤ (300 * a1 + a2) ∧ (300 * a1 + a2) < 2400) ∧ ∀ x10 : Int, x10 = h1.2.2.1 187 ((300 * a1 + a2)).toNat → -9223372036854775808 ≤ x10 → x10 ≤ 9223372036854775807 → Q (some (av_L x10)) h1) ∧ (a3 = 1 → (0 ≤ (300 * a1 + a2) ∧ (300 * a1 + a2) < 2400) ∧ ∀ x13 : Int, x13 = h1.2.2.1 188 ((300 * a1 + a2)).toNat → -9223372036854775808 ≤ x13 → x13 ≤ 9223372036854775807 → Q (some (av_L x13)) h1) ∧ (a3 = 2 → (0 ≤ (300 * a1 + a2) ∧ (300 * a1 + a2) < 2400) ∧ ∀ x16 : Int, x16 = h1.2.2.1 189 ((300 * a1 + a2)).toNat → -9223372036854775808 ≤ x16 → x16 ≤ 9223372036854775807 → Q (some (av_L x16)) h1) ∧ (a3 = 3 → (0 ≤ (300 * a1 + a2) ∧ (300 * a1 + a2) < 2400) ∧ ∀ x19 : Int, x19 = h1.2.2.1 190 ((300 * a1 + a2)).toNat → -9223372036854775808 ≤ x19 → x19 ≤ 9223372036854775807 → Q (some (av_L x19)) h1) ∧ (a3 = 4 → (0 ≤ (300 * a1 + a2) ∧ (300 * a1 + a2) < 2400) ∧ ∀ x22 : Int, x22 = h1.2.1 191 ((300 * a1 + a2)).toNat → -2147483648 ≤ x22 → x22 ≤ 2147483647 → Q (some (av_L x22)) h1) ∧ (a3 = 5 → (0 ≤ (300 * a1 + a2) ∧ (300 * a1 + a2) < 2400) ∧ ∀ x25 : Int, x25 = h1.2.1 195 ((300 * a1 + a2)).toNat → (x25 = 0 ∨ x25 = 1) → ((x25 = 0 → B_MD_event_IIIJ_144 G s a1 a2 a3 (0) h1 Q ) ∧ (¬ x25 = 0 → B_MD_event_IIIJ_144 G s a1 a2 a3 (1) h1 Q ))) ∧ (a3 = 6 → (0 ≤ (300 * a1 + a2) ∧ (300 * a1 + a2) < 2400) ∧ ∀ x28 : Int, x28 = h1.2.1 196 ((300 * a1 + a2)).toNat → -2147483648 ≤ x28 → x28 ≤ 2147483647 → Q (some (av_L x28)) h1) ∧ (a3 = 7 → (0 ≤ (300 * a1 + a2) ∧ (300 * a1 + a2) < 2400) ∧ ∀ x31 : Int, x31 = h1.2.1 197 ((300 * a1 + a2)).toNat → -2147483648 ≤ x31 → x31 ≤ 2147483647 → Q (some (av_L x31)) h1) ∧ (a3 = 8 → (0 ≤ (300 * a1 + a2) ∧ (300 * a1 + a2) < 2400) ∧ ∀ x34 : Int, x34 = h1.2.1 198 ((300 * a1 + a2)).toNat → -2147483648 ≤ x34 → x34 ≤ 2147483647 → Q (some (av_L x34)) h1) ∧ ((a3 < 0 ∨ 8 < a3) → ((a3 < 10 → B_MD_event_IIIJ_208 G s a1 a2 a3 ((300 * a1 + a2)) h1 Q ) ∧ (¬ a3 < 10 → (0 ≤ (300 * a1 + a2) ∧ (300 * a1 + a2) < 2400) ∧ ∀ x37 : Int, x37 = h1.2.1 191 ((300 * a1 + a2)).toNat → -2147483648 ≤ x37 → x37 ≤ 2147483647 → ((-2147483648) ≤ (x37 + 10) ∧ (x37 + 10) ≤ 2147483647) ∧ (((x37 + 10) ≤ a3 → B_MD_event_IIIJ_208 G s a1 a2 a3 ((300 * a1 + a2)) h1 Q ) ∧ (¬ (x37 + 10) ≤ a3 → ((-2147483648) ≤ (1200 * a1 + 4 * a2) ∧ (1200 * a1 + 4 * a2) ≤ 2147483647) ∧ ((-2147483648) ≤ (1200 * a1 + 4 * a2 + a3) ∧ (1200 * a1 + 4 * a2 + a3) ≤ 2147483647) ∧ ((-2147483648) ≤ (1200 * a1 + 4 * a2 + a3 - 10) ∧ (1200 * a1 + 4 * a2 + a3 - 10) ≤ 2147483647) ∧ (0 ≤ (1200 * a1 + 4 * a2 + a3 - 10) ∧ (1200 * a1 + 4 * a2 + a3 - 10) < 9600) ∧ ∀ x44 : Int, x44 = h1.2.1 192 ((1200 * a1 + 4 * a2 + a3 - 10)).toNat → -2147483648 ≤ x44 → x44 ≤ 2147483647 → Q (some (av_L x44)) h1))))))) ∧ (¬ a2 < x5 → B_MD_event_IIIJ_22 G s a1 a2 a3 h1 Q )))))))
theorem b_MD_event_IIIJ_0 {G : cx_T} {s : Nat} {a1 : Int} {a2 : Int} {a3 : Int} {h : ah_T} {Q : Option av_T → ah_T → Prop} (hb0 : hb s h) (H : B_MD_event_IIIJ_0 G s a1 a2 a3 h Q ) : aw G (rm_R 1 0 0) m_MD_event_IIIJ 0 0 0 [some (av_R (some 170)), some (av_I a1), some (av_I a2), some (av_I a3), none] [] h Q := by
  unfold B_MD_event_IIIJ_0 at H
  have hS : isS s := hb0.2.1
  refine A_aload_n 0 d_MD_event_IIIJ_0 rfl rfl ?_
  refine A_iload_n 1 d_MD_event_IIIJ_1 rfl rfl ?_
  refine A_callV1 m_MD_isVoice T_ok d_MD_event_IIIJ_2 l_MD_495 k_MD_isVoice (hb_s hb0 sf_170) rfl (by decide +kernel) (by decide) (Nat.le_of_ble_eq_true rfl) H (fun r h1 hq => ?_)
  clear H
  obtain ⟨z3, rfl, hb2, H⟩ := hq
  refine A_if_eq (tgt := 22) d_MD_event_IIIJ_5 (by decide) (fun c => ?_) (fun c => ?_)
  · replace H := H.1 c
    refine A_pc (pc' := 22) rfl ?_
    refine A_free (L' := [none, none, none, none, none]) trivial ?_
    exact b_MD_event_IIIJ_22    hb2 H
  · replace H := H.2 c
    refine A_iload_n 2 d_MD_event_IIIJ_8 rfl rfl ?_
    refine A_if_lt (tgt := 22) d_MD_event_IIIJ_9 (by decide) (fun c => ?_) (fun c => ?_)
    · replace H := H.1 c
      refine A_pc (pc' := 22) rfl ?_
      refine A_free (L' := [none, none, none, none, none]) trivial ?_
      exact b_MD_event_IIIJ_22    hb2 H
    · replace H := H.2 c
      refine A_iload_n 2 d_MD_event_IIIJ_12 rfl rfl ?_
      refine A_aload_n 0 d_MD_event_IIIJ_13 rfl rfl ?_
      refine A_getAv (z := some 185) T_ok d_MD_event_IIIJ_14 f_MD_57 (hb_s hb2 sf_170) (hb_m hb2 rfm_27) ?_
      refine A_iload_n 1 d_MD_event_IIIJ_17 rfl rfl ?_
      have g6 := H.1
      replace H := H.2
      refine A_ialoadf d_MD_event_IIIJ_18 (hb_s hb2 sf_185) g6.1 g6.2 (fun x5 ex5 lx5 ux5 => ?_)
      replace H := H x5 ex5 lx5 ux5
      refine A_pc (pc' := 19) rfl ?_
      refine A_icmp_lt (tgt := 26) d_MD_event_IIIJ_19 (by decide) (fun c => ?_) (fun c => ?_)
      · replace H := H.1 c
        refine A_sipush d_MD_event_IIIJ_26 rfl ?_
        refine A_iload_n 1 d_MD_event_IIIJ_29 rfl rfl ?_
        have g7 := H.1
        replace H := H.2
        refine A_imulv (z := (300 * a1)) d_MD_event_IIIJ_30 (w32_to (by omega) (by unfold i32; omega)) ?_
        refine A_iload_n 2 d_MD_event_IIIJ_31 rfl rfl ?_
        have g8 := H.1
        replace H := H.2
        refine A_iaddv (z := (300 * a1 + a2)) d_MD_event_IIIJ_32 (w32_to (by omega) (by unfold i32; omega)) ?_
        refine A_pc (pc' := 33) rfl ?_
        refine A_istore (L' := [some (av_R (some 170)), some (av_I a1), some (av_I a2), some (av_I a3), some (av_I (300 * a1 + a2))]) d_MD_event_IIIJ_33 (Nat.le_of_ble_eq_true rfl) rfl ?_
        refine A_iload_n 3 d_MD_event_IIIJ_35 rfl rfl ?_
        rcases (by omega : a3 = 0 ∨ a3 = 1 ∨ a3 = 2 ∨ a3 = 3 ∨ a3 = 4 ∨ a3 = 5 ∨ a3 = 6 ∨ a3 = 7 ∨ a3 = 8 ∨ (a3 < 0 ∨ 8 < a3)) with c | c | c | c | c | c | c | c | c | c
        · replace H := H.1 c
          refine A_tabIn (tgt := 88) d_MD_event_IIIJ_36 (by omega) (by omega) (by rw [c]; rfl) (by decide) ?_
          refine A_aload_n 0 d_MD_event_IIIJ_88 rfl rfl ?_
          refine A_getAv (z := some 187) T_ok d_MD_event_IIIJ_89 f_MD_63 (hb_s hb2 sf_170) (hb_m hb2 rfm_29) ?_
          refine A_iload d_MD_event_IIIJ_92 rfl ?_
          have g11 := H.1
          replace H := H.2
          refine A_laloadf d_MD_event_IIIJ_94 (hb_s hb2 sf_187) g11.1 g11.2 (fun x10 ex10 lx10 ux10 => ?_)
          replace H := H x10 ex10 lx10 ux10
          exact A_lret d_MD_event_IIIJ_95 (by decide) rfl H
        · replace H := H.2.1 c
          refine A_tabIn (tgt := 96) d_MD_event_IIIJ_36 (by omega) (by omega) (by rw [c]; rfl) (by decide) ?_
          refine A_aload_n 0 d_MD_event_IIIJ_96 rfl rfl ?_
          refine A_getAv (z := some 188) T_ok d_MD_event_IIIJ_97 f_MD_66 (hb_s hb2 sf_170) (hb_m hb2 rfm_30) ?_
          refine A_iload d_MD_event_IIIJ_100 rfl ?_
          have g14 := H.1
          replace H := H.2
          refine A_laloadf d_MD_event_IIIJ_102 (hb_s hb2 sf_188) g14.1 g14.2 (fun x13 ex13 lx13 ux13 => ?_)
          replace H := H x13 ex13 lx13 ux13
          exact A_lret d_MD_event_IIIJ_103 (by decide) rfl H
        · replace H := H.2.2.1 c
          refine A_tabIn (tgt := 104) d_MD_event_IIIJ_36 (by omega) (by omega) (by rw [c]; rfl) (by decide) ?_
          refine A_aload_n 0 d_MD_event_IIIJ_104 rfl rfl ?_
          refine A_getAv (z := some 189) T_ok d_MD_event_IIIJ_105 f_MD_69 (hb_s hb2 sf_170) (hb_m hb2 rfm_31) ?_
          refine A_iload d_MD_event_IIIJ_108 rfl ?_
          have g17 := H.1
          replace H := H.2
          refine A_laloadf d_MD_event_IIIJ_110 (hb_s hb2 sf_189) g17.1 g17.2 (fun x16 ex16 lx16 ux16 => ?_)
          replace H := H x16 ex16 lx16 ux16
          exact A_lret d_MD_event_IIIJ_111 (by decide) rfl H
        · replace H := H.2.2.2.1 c
          refine A_tabIn (tgt := 112) d_MD_event_IIIJ_36 (by omega) (by omega) (by rw [c]; rfl) (by decide) ?_
          refine A_aload_n 0 d_MD_event_IIIJ_112 rfl rfl ?_
          refine A_getAv (z := some 190) T_ok d_MD_event_IIIJ_113 f_MD_72 (hb_s hb2 sf_170) (hb_m hb2 rfm_32) ?_
          refine A_iload d_MD_event_IIIJ_116 rfl ?_
          have g20 := H.1
          replace H := H.2
          refine A_laloadf d_MD_event_IIIJ_118 (hb_s hb2 sf_190) g20.1 g20.2 (fun x19 ex19 lx19 ux19 => ?_)
          replace H := H x19 ex19 lx19 ux19
          exact A_lret d_MD_event_IIIJ_119 (by decide) rfl H
        · replace H := H.2.2.2.2.1 c
          refine A_tabIn (tgt := 120) d_MD_event_IIIJ_36 (by omega) (by omega) (by rw [c]; rfl) (by decide) ?_
          refine A_aload_n 0 d_MD_event_IIIJ_120 rfl rfl ?_
          refine A_getAv (z := some 191) T_ok d_MD_event_IIIJ_121 f_MD_75 (hb_s hb2 sf_170) (hb_m hb2 rfm_33) ?_
          refine A_iload d_MD_event_IIIJ_124 rfl ?_
          have g23 := H.1
          replace H := H.2
          refine A_ialoadf d_MD_event_IIIJ_126 (hb_s hb2 sf_191) g23.1 g23.2 (fun x22 ex22 lx22 ux22 => ?_)
          replace H := H x22 ex22 lx22 ux22
          refine A_i2l d_MD_event_IIIJ_127 ?_
          refine A_pc (pc' := 128) rfl ?_
          exact A_lret d_MD_event_IIIJ_128 (by decide) rfl H
        · replace H := H.2.2.2.2.2.1 c
          refine A_tabIn (tgt := 129) d_MD_event_IIIJ_36 (by omega) (by omega) (by rw [c]; rfl) (by decide) ?_
          refine A_aload_n 0 d_MD_event_IIIJ_129 rfl rfl ?_
          refine A_getAv (z := some 195) T_ok d_MD_event_IIIJ_130 f_MD_87 (hb_s hb2 sf_170) (hb_m hb2 rfm_37) ?_
          refine A_iload d_MD_event_IIIJ_133 rfl ?_
          have g26 := H.1
          replace H := H.2
          refine A_zaloadn d_MD_event_IIIJ_135 (hb_s hb2 sf_195) g26.1 g26.2 (fun x25 ex25 bx25 => ?_)
          replace H := H x25 ex25 bx25
          refine A_if_eq (tgt := 143) d_MD_event_IIIJ_136 (by decide) (fun c => ?_) (fun c => ?_)
          · replace H := H.1 c
            refine A_lconst_0 d_MD_event_IIIJ_143 ?_
            refine A_pc (pc' := 144) rfl ?_
            refine A_free (L' := [none, none, none, none, none]) trivial ?_
            exact b_MD_event_IIIJ_144    hb2 H
          · replace H := H.2 c
            refine A_lconst_1 d_MD_event_IIIJ_139 ?_
            refine A_goto (tgt := 144) d_MD_event_IIIJ_140 (by decide) ?_
            refine A_pc (pc' := 144) rfl ?_
            refine A_free (L' := [none, none, none, none, none]) trivial ?_
            exact b_MD_event_IIIJ_144    hb2 H
        · replace H := H.2.2.2.2.2.2.1 c
          refine A_tabIn (tgt := 145) d_MD_event_IIIJ_36 (by omega) (by omega) (by rw [c]; rfl) (by decide) ?_
          refine A_aload_n 0 d_MD_event_IIIJ_145 rfl rfl ?_
          refine A_getAv (z := some 196) T_ok d_MD_event_IIIJ_146 f_MD_91 (hb_s hb2 sf_170) (hb_m hb2 rfm_38) ?_
          refine A_iload d_MD_event_IIIJ_149 rfl ?_
          have g29 := H.1
          replace H := H.2
          refine A_ialoadf d_MD_event_IIIJ_151 (hb_s hb2 sf_196) g29.1 g29.2 (fun x28 ex28 lx28 ux28 => ?_)
          replace H := H x28 ex28 lx28 ux28
          refine A_i2l d_MD_event_IIIJ_152 ?_
          refine A_pc (pc' := 153) rfl ?_
          exact A_lret d_MD_event_IIIJ_153 (by decide) rfl H
        · replace H := H.2.2.2.2.2.2.2.1 c
          refine A_tabIn (tgt := 154) d_MD_event_IIIJ_36 (by omega) (by omega) (by rw [c]; rfl) (by decide) ?_
          refine A_aload_n 0 d_MD_event_IIIJ_154 rfl rfl ?_
          refine A_getAv (z := some 197) T_ok d_MD_event_IIIJ_155 f_MD_94 (hb_s hb2 sf_170) (hb_m hb2 rfm_39) ?_
          refine A_iload d_MD_event_IIIJ_158 rfl ?_
          have g32 := H.1
          replace H := H.2
          refine A_ialoadf d_MD_event_IIIJ_160 (hb_s hb2 sf_197) g32.1 g32.2 (fun x31 ex31 lx31 ux31 => ?_)
          replace H := H x31 ex31 lx31 ux31
          refine A_i2l d_MD_event_IIIJ_161 ?_
          refine A_pc (pc' := 162) rfl ?_
          exact A_lret d_MD_event_IIIJ_162 (by decide) rfl H
        · replace H := H.2.2.2.2.2.2.2.2.1 c
          refine A_tabIn (tgt := 163) d_MD_event_IIIJ_36 (by omega) (by omega) (by rw [c]; rfl) (by decide) ?_
          refine A_aload_n 0 d_MD_event_IIIJ_163 rfl rfl ?_
          refine A_getAv (z := some 198) T_ok d_MD_event_IIIJ_164 f_MD_97 (hb_s hb2 sf_170) (hb_m hb2 rfm_40) ?_
          refine A_iload d_MD_event_IIIJ_167 rfl ?_
          have g35 := H.1
          replace H := H.2
          refine A_ialoadf d_MD_event_IIIJ_169 (hb_s hb2 sf_198) g35.1 g35.2 (fun x34 ex34 lx34 ux34 => ?_)
          replace H := H x34 ex34 lx34 ux34
          refine A_i2l d_MD_event_IIIJ_170 ?_
          refine A_pc (pc' := 171) rfl ?_
          exact A_lret d_MD_event_IIIJ_171 (by decide) rfl H
        · replace H := H.2.2.2.2.2.2.2.2.2 c
          refine A_tabOut (tgt := 172) d_MD_event_IIIJ_36 (by omega) (by decide) ?_
          refine A_iload_n 3 d_MD_event_IIIJ_172 rfl rfl ?_
          refine A_bipush d_MD_event_IIIJ_173 rfl ?_
          refine A_icmp_lt (tgt := 208) d_MD_event_IIIJ_175 (by decide) (fun c => ?_) (fun c => ?_)
          · replace H := H.1 c
            refine A_pc (pc' := 208) rfl ?_
            refine A_free (L' := [some (av_R (some 170)), none, none, some (av_I a3), some (av_I (300 * a1 + a2))]) (And.intro rfl (And.intro rfl (And.intro rfl trivial))) ?_
            exact b_MD_event_IIIJ_208    hb2 H
          · replace H := H.2 c
            refine A_iload_n 3 d_MD_event_IIIJ_178 rfl rfl ?_
            refine A_bipush d_MD_event_IIIJ_179 rfl ?_
            refine A_aload_n 0 d_MD_event_IIIJ_181 rfl rfl ?_
            refine A_getAv (z := some 191) T_ok d_MD_event_IIIJ_182 f_MD_75 (hb_s hb2 sf_170) (hb_m hb2 rfm_33) ?_
            refine A_iload d_MD_event_IIIJ_185 rfl ?_
            refine A_pc (pc' := 187) rfl ?_
            have g38 := H.1
            replace H := H.2
            refine A_ialoadf d_MD_event_IIIJ_187 (hb_s hb2 sf_191) g38.1 g38.2 (fun x37 ex37 lx37 ux37 => ?_)
            replace H := H x37 ex37 lx37 ux37
            have g39 := H.1
            replace H := H.2
            refine A_iaddv (z := (x37 + 10)) d_MD_event_IIIJ_188 (w32_to (by omega) (by unfold i32; omega)) ?_
            refine A_icmp_ge (tgt := 208) d_MD_event_IIIJ_189 (by decide) (fun c => ?_) (fun c => ?_)
            · replace H := H.1 c
              refine A_pc (pc' := 208) rfl ?_
              refine A_free (L' := [some (av_R (some 170)), none, none, some (av_I a3), some (av_I (300 * a1 + a2))]) (And.intro rfl (And.intro rfl (And.intro rfl trivial))) ?_
              exact b_MD_event_IIIJ_208    hb2 H
            · replace H := H.2 c
              refine A_aload_n 0 d_MD_event_IIIJ_192 rfl rfl ?_
              refine A_getAv (z := some 192) T_ok d_MD_event_IIIJ_193 f_MD_78 (hb_s hb2 sf_170) (hb_m hb2 rfm_34) ?_
              refine A_iconst d_MD_event_IIIJ_196 rfl ?_
              refine A_iload d_MD_event_IIIJ_197 rfl ?_
              have g41 := H.1
              replace H := H.2
              refine A_imulv (z := (1200 * a1 + 4 * a2)) d_MD_event_IIIJ_199 (w32_to (by omega) (by unfold i32; omega)) ?_
              refine A_pc (pc' := 200) rfl ?_
              refine A_iload_n 3 d_MD_event_IIIJ_200 rfl rfl ?_
              have g42 := H.1
              replace H := H.2
              refine A_iaddv (z := (1200 * a1 + 4 * a2 + a3)) d_MD_event_IIIJ_201 (w32_to (by omega) (by unfold i32; omega)) ?_
              refine A_bipush d_MD_event_IIIJ_202 rfl ?_
              have g43 := H.1
              replace H := H.2
              refine A_isubv (z := (1200 * a1 + 4 * a2 + a3 - 10)) d_MD_event_IIIJ_204 (w32_to (by omega) (by unfold i32; omega)) ?_
              have g45 := H.1
              replace H := H.2
              refine A_ialoadf d_MD_event_IIIJ_205 (hb_s hb2 sf_192) g45.1 g45.2 (fun x44 ex44 lx44 ux44 => ?_)
              replace H := H x44 ex44 lx44 ux44
              refine A_i2l d_MD_event_IIIJ_206 ?_
              refine A_pc (pc' := 207) rfl ?_
              exact A_lret d_MD_event_IIIJ_207 (by decide) rfl H
      · replace H := H.2 c
        refine A_pc (pc' := 22) rfl ?_
        refine A_free (L' := [none, none, none, none, none]) trivial ?_
        exact b_MD_event_IIIJ_22    hb2 H
theorem c_MD_event_IIIJ {G : cx_T} {s : Nat} {a1 : Int} {a2 : Int} {a3 : Int} {h : ah_T} {Q : Option av_T → ah_T → Prop} (hb0 : hb s h) (H : i32 a1 → i32 a2 → i32 a3 → B_MD_event_IIIJ_0 G s a1 a2 a3 h Q ) : con G 1 0 0 m_MD_event_IIIJ [av_R (some 170), av_I a1, av_I a2, av_I a3] h Q := by
  have hS : isS s := hb0.2.1
  refine con_of (L := [some (av_R (some 170)), some (av_I a1), some (av_I a2), some (av_I a3), none]) (by decide +kernel) (Nat.le_of_ble_eq_true rfl) rfl ?_
  refine A_locI 1 rfl (fun ra1 => ?_)
  refine A_locI 2 rfl (fun ra2 => ?_)
  refine A_locI 3 rfl (fun ra3 => ?_)
  exact b_MD_event_IIIJ_0   hb0 (H ra1 ra2 ra3)
