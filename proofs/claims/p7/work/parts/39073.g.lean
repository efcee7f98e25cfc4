/-! ===== verification conditions, 509 ===== -/
def B_MD_place_0 (G : cx_T) (s : Nat) (h : ah_T) (Q : Option av_T → ah_T → Prop) : Prop :=
 ∀ x1 : Int, x1 = h.2.1 170 13 → -2147483648 ≤ x1 → x1 ≤ 2147483647 → Q (some (av_I x1)) h
theorem b_MD_place_0 {G : cx_T} {s : Nat} {h : ah_T} {Q : Option av_T → ah_T → Prop} (hb0 : hb s h) (H : B_MD_place_0 G s h Q ) : aw G (rm_R 0 0 0) m_MD_place 0 0 0 [some (av_R (some 170))] [] h Q := by
  unfold B_MD_place_0 at H
  have hS : isS s := hb0.2.1
  refine A_aload_n 0 d_MD_place_0 rfl rfl ?_
  refine A_getIf T_ok d_MD_place_1 f_MD_13 (hb_s hb0 sf_170) (fun x1 ex1 lx1 ux1 => ?_)
  replace H := H x1 ex1 lx1 ux1
  exact A_iret d_MD_place_4 (by decide) rfl H
theorem c_MD_place {G : cx_T} {s : Nat} {h : ah_T} {Q : Option av_T → ah_T → Prop} (hb0 : hb s h) (H : B_MD_place_0 G s h Q ) : con G 0 0 0 m_MD_place [av_R (some 170)] h Q := by
  have hS : isS s := hb0.2.1
  refine con_of (L := [some (av_R (some 170))]) (by decide +kernel) (Nat.le_of_ble_eq_true rfl) rfl ?_
  exact b_MD_place_0   hb0 (H )
def B_MD_pageBars_34 (G : cx_T) (s : Nat) (v2 : Int) (t0 : Int) (h : ah_T) (Q : Option av_T → ah_T → Prop) (X4 : Int → Int → ah_T → Prop) : Prop :=
 ((-2147483648) ≤ (v2 + 1) ∧ (v2 + 1) ≤ 2147483647) ∧ X4 (t0) ((v2 + 1)) h
theorem b_MD_pageBars_34 {G : cx_T} {s : Nat} {v2 : Int} {t0 : Int} {h : ah_T} {Q : Option av_T → ah_T → Prop} {X4 : Int → Int → ah_T → Prop} (hX4 : ∀ (v1 : Int) (v2 : Int) (h : ah_T), hb s h → X4 v1 v2 h → aw G (rm_R 0 0 0) m_MD_pageBars 0 0 4 [some (av_R (some 170)), some (av_I v1), some (av_I v2)] [] h Q) (hb0 : hb s h) (H : B_MD_pageBars_34 G s v2 t0 h Q X4) : aw G (rm_R 0 0 0) m_MD_pageBars 0 0 34 [some (av_R (some 170)), none, some (av_I v2)] [av_I t0] h Q := by
  unfold B_MD_pageBars_34 at H
  have hS : isS s := hb0.2.1
  refine A_istore_n 1 (L' := [some (av_R (some 170)), some (av_I t0), some (av_I v2)]) d_MD_pageBars_34 rfl (Nat.le_of_ble_eq_true rfl) rfl ?_
  have g1 := H.1
  replace H := H.2
  refine A_iincv (z := (v2 + 1)) (L' := [some (av_R (some 170)), some (av_I t0), some (av_I (v2 + 1))]) d_MD_pageBars_35 rfl (w32_to (by omega) (by unfold i32; omega)) rfl ?_
  refine A_goto (tgt := 4) d_MD_pageBars_38 (by decide) ?_
  refine A_pc (pc' := 4) rfl ?_
  exact hX4 (t0) ((v2 + 1)) h  hb0 H
def B_MD_pageBars_4 (G : cx_T) (s : Nat) (v1 : Int) (v2 : Int) (h : ah_T) (Q : Option av_T → ah_T → Prop) (X4 : Int → Int → ah_T → Prop) : Prop :=
 ∀ x2 : Int, x2 = h.2.1 172 0 → -2147483648 ≤ x2 → x2 ≤ 2147483647 → ((x2 ≤ v2 → Q (some (av_I v1)) h) ∧ (¬ x2 ≤ v2 → (0 ≤ v2 ∧ v2 < 8) ∧ ∀ x4 : Int, x4 = h.2.1 186 (v2).toNat → -2147483648 ≤ x4 → x4 ≤ 2147483647 → ((x4 ≤ v1 → B_MD_pageBars_34 G s (v2) (v1) h Q X4) ∧ (¬ x4 ≤ v1 → B_MD_pageBars_34 G s (v2) (x4) h Q X4))))
theorem b_MD_pageBars_4 {G : cx_T} {s : Nat} {v1 : Int} {v2 : Int} {h : ah_T} {Q : Option av_T → ah_T → Prop} {X4 : Int → Int → ah_T → Prop} (hX4 : ∀ (v1 : Int) (v2 : Int) (h : ah_T), hb s h → X4 v1 v2 h → aw G (rm_R 0 0 0) m_MD_pageBars 0 0 4 [some (av_R (some 170)), some (av_I v1), some (av_I v2)] [] h Q) (hb0 : hb s h) (H : B_MD_pageBars_4 G s v1 v2 h Q X4) : aw G (rm_R 0 0 0) m_MD_pageBars 0 0 4 [some (av_R (some 170)), some (av_I v1), some (av_I v2)] [] h Q := by
  unfold B_MD_pageBars_4 at H
  have hS : isS s := hb0.2.1
  refine A_iload_n 2 d_MD_pageBars_4 rfl rfl ?_
  refine A_aload_n 0 d_MD_pageBars_5 rfl rfl ?_
  refine A_getAv (z := some 172) T_ok d_MD_pageBars_6 f_MD_17 (hb_s hb0 sf_170) (hb_m hb0 rfm_14) ?_
  refine A_iconst d_MD_pageBars_9 rfl ?_
  refine A_ialoadf d_MD_pageBars_10 (hb_s hb0 sf_172) (by decide) (by decide) (fun x2 ex2 lx2 ux2 => ?_)
  replace H := H x2 ex2 lx2 ux2
  refine A_pc (pc' := 11) rfl ?_
  refine A_icmp_ge (tgt := 41) d_MD_pageBars_11 (by decide) (fun c => ?_) (fun c => ?_)
  · replace H := H.1 c
    refine A_iload_n 1 d_MD_pageBars_41 rfl rfl ?_
    exact A_iret d_MD_pageBars_42 (by decide) rfl H
  · replace H := H.2 c
    refine A_aload_n 0 d_MD_pageBars_14 rfl rfl ?_
    refine A_getAv (z := some 186) T_ok d_MD_pageBars_15 f_MD_60 (hb_s hb0 sf_170) (hb_m hb0 rfm_28) ?_
    refine A_iload_n 2 d_MD_pageBars_18 rfl rfl ?_
    have g5 := H.1
    replace H := H.2
    refine A_ialoadf d_MD_pageBars_19 (hb_s hb0 sf_186) g5.1 g5.2 (fun x4 ex4 lx4 ux4 => ?_)
    replace H := H x4 ex4 lx4 ux4
    refine A_iload_n 1 d_MD_pageBars_20 rfl rfl ?_
    refine A_pc (pc' := 21) rfl ?_
    refine A_icmp_le (tgt := 33) d_MD_pageBars_21 (by decide) (fun c => ?_) (fun c => ?_)
    · replace H := H.1 c
      refine A_iload_n 1 d_MD_pageBars_33 rfl rfl ?_
      refine A_pc (pc' := 34) rfl ?_
      refine A_free (L' := [some (av_R (some 170)), none, some (av_I v2)]) (And.intro rfl (And.intro rfl trivial)) ?_
      exact b_MD_pageBars_34  hX4  hb0 H
    · replace H := H.2 c
      refine A_aload_n 0 d_MD_pageBars_24 rfl rfl ?_
      refine A_getAv (z := some 186) T_ok d_MD_pageBars_25 f_MD_60 (hb_s hb0 sf_170) (hb_m hb0 rfm_28) ?_
      refine A_iload_n 2 d_MD_pageBars_28 rfl rfl ?_
      refine A_ialoadv (z := x4) d_MD_pageBars_29 (hb_s hb0 sf_186) (by omega) (by omega) ex4.symm ?_
      refine A_goto (tgt := 34) d_MD_pageBars_30 (by decide) ?_
      refine A_pc (pc' := 34) rfl ?_
      refine A_free (L' := [some (av_R (some 170)), none, some (av_I v2)]) (And.intro rfl (And.intro rfl trivial)) ?_
      exact b_MD_pageBars_34  hX4  hb0 H
theorem lp_MD_pageBars_4 {G : cx_T} {s : Nat} {Q : Option av_T → ah_T → Prop} (I : Int → Int → ah_T → Prop) (μ : Int → Int → ah_T → Nat) (hI : ∀ (v1 : Int) (v2 : Int) (h : ah_T), hb s h → I v1 v2 h → B_MD_pageBars_4 G s v1 v2 h Q (fun v1' v2' h' => I v1' v2' h' ∧ μ v1' v2' h' < μ v1 v2 h)) : ∀ (v1 : Int) (v2 : Int) (h : ah_T), hb s h → I v1 v2 h → aw G (rm_R 0 0 0) m_MD_pageBars 0 0 4 [some (av_R (some 170)), some (av_I v1), some (av_I v2)] [] h Q := by
  have key : ∀ (n : Nat) (v1 : Int) (v2 : Int) (h : ah_T), hb s h → I v1 v2 h → μ v1 v2 h < n → aw G (rm_R 0 0 0) m_MD_pageBars 0 0 4 [some (av_R (some 170)), some (av_I v1), some (av_I v2)] [] h Q := by
    intro n
    induction n with
    | zero => intro v1 v2 h  hb0 hi hm; omega
    | succ n ih => intro v1 v2 h  hb0 hi hm; exact b_MD_pageBars_4  (fun v1' v2' h'  hb' hx => ih v1' v2' h'  hb' hx.1 (by have := hx.2; omega))  hb0 (hI v1 v2 h  hb0 hi)
  exact fun v1 v2 h  hb0 hi => key _ v1 v2 h  hb0 hi (Nat.lt_succ_self _)
def B_MD_pageBars_0 (G : cx_T) (s : Nat) (h : ah_T) (Q : Option av_T → ah_T → Prop) (X4 : Int → Int → ah_T → Prop) : Prop :=
 X4 (0) (0) h
theorem b_MD_pageBars_0 {G : cx_T} {s : Nat} {h : ah_T} {Q : Option av_T → ah_T → Prop} {X4 : Int → Int → ah_T → Prop} (hX4 : ∀ (v1 : Int) (v2 : Int) (h : ah_T), hb s h → X4 v1 v2 h → aw G (rm_R 0 0 0) m_MD_pageBars 0 0 4 [some (av_R (some 170)), some (av_I v1), some (av_I v2)] [] h Q) (hb0 : hb s h) (H : B_MD_pageBars_0 G s h Q X4) : aw G (rm_R 0 0 0) m_MD_pageBars 0 0 0 [some (av_R (some 170)), none, none] [] h Q := by
  unfold B_MD_pageBars_0 at H
  have hS : isS s := hb0.2.1
  refine A_iconst d_MD_pageBars_0 rfl ?_
  refine A_istore_n 1 (L' := [some (av_R (some 170)), some (av_I 0), none]) d_MD_pageBars_1 rfl (Nat.le_of_ble_eq_true rfl) rfl ?_
  refine A_iconst d_MD_pageBars_2 rfl ?_
  refine A_istore_n 2 (L' := [some (av_R (some 170)), some (av_I 0), some (av_I 0)]) d_MD_pageBars_3 rfl (Nat.le_of_ble_eq_true rfl) rfl ?_
  refine A_pc (pc' := 4) rfl ?_
  exact hX4 (0) (0) h  hb0 H
theorem c_MD_pageBars {G : cx_T} {s : Nat} {h : ah_T} {Q : Option av_T → ah_T → Prop} {X4 : Int → Int → ah_T → Prop} (hX4 : ∀ (v1 : Int) (v2 : Int) (h : ah_T), hb s h → X4 v1 v2 h → aw G (rm_R 0 0 0) m_MD_pageBars 0 0 4 [some (av_R (some 170)), some (av_I v1), some (av_I v2)] [] h Q) (hb0 : hb s h) (H : B_MD_pageBars_0 G s h Q X4) : con G 0 0 0 m_MD_pageBars [av_R (some 170)] h Q := by
  have hS : isS s := hb0.2.1
  refine con_of (L := [some (av_R (some 170)), none, none]) (by decide +kernel) (Nat.le_of_ble_eq_true rfl) rfl ?_
  exact b_MD_pageBars_0  hX4 hb0 (H )
def B_MD_told_116 (G : cx_T) (s : Nat) (a1 : Int) (t0 : Int) (h : ah_T) (Q : Option av_T → ah_T → Prop) : Prop :=
 Q (some (av_I t0)) h
theorem b_MD_told_116 {G : cx_T} {s : Nat} {a1 : Int} {t0 : Int} {h : ah_T} {Q : Option av_T → ah_T → Prop} (hb0 : hb s h) (H : B_MD_told_116 G s a1 t0 h Q ) : aw G (rm_R 1 0 0) m_MD_told 0 0 116 [none, none] [av_I t0] h Q := by
  unfold B_MD_told_116 at H
  have hS : isS s := hb0.2.1
  exact A_iret d_MD_told_116 (by decide) rfl H
def B_MD_told_96 (G : cx_T) (s : Nat) (a1 : Int) (t0 : Int) (h : ah_T) (Q : Option av_T → ah_T → Prop) : Prop :=
 Q (some (av_I t0)) h
theorem b_MD_told_96 {G : cx_T} {s : Nat} {a1 : Int} {t0 : Int} {h : ah_T} {Q : Option av_T → ah_T → Prop} (hb0 : hb s h) (H : B_MD_told_96 G s a1 t0 h Q ) : aw G (rm_R 1 0 0) m_MD_told 0 0 96 [none, none] [av_I t0] h Q := by
  unfold B_MD_told_96 at H
  have hS : isS s := hb0.2.1
  exact A_iret d_MD_told_96 (by decide) rfl H
def B_MD_told_0 (G : cx_T) (s : Nat) (a1 : Int) (h : ah_T) (Q : Option av_T → ah_T → Prop) : Prop :=
 ((a1 = 0 → ∀ x2 : Int, x2 = h.2.1 172 0 → -2147483648 ≤ x2 → x2 ≤ 2147483647 → Q (some (av_I x2)) h) ∧ (a1 = 1 → ∀ x4 : Int, x4 = h.2.1 175 0 → -2147483648 ≤ x4 → x4 ≤ 2147483647 → Q (some (av_I x4)) h) ∧ (a1 = 2 → ∀ x6 : Int, x6 = h.2.1 177 0 → -2147483648 ≤ x6 → x6 ≤ 2147483647 → Q (some (av_I x6)) h) ∧ (a1 = 3 → ∀ x8 : Int, x8 = h.2.1 181 0 → -2147483648 ≤ x8 → x8 ≤ 2147483647 → Q (some (av_I x8)) h) ∧ (a1 = 4 → con G 0 0 0 m_MD_pageBars [av_R (some 170)] h (fun r h9 => ∃ z11 : Int, r = some (av_I z11) ∧ hb s h9 ∧ Q (some (av_I z11)) h9)) ∧ (a1 = 5 → ∀ x13 : Int, x13 = h.2.1 173 0 → -2147483648 ≤ x13 → x13 ≤ 2147483647 → ((x13 = 0 → B_MD_told_96 G s a1 (4) h Q ) ∧ (¬ x13 = 0 → B_MD_told_96 G s a1 (x13) h Q ))) ∧ (a1 = 6 → ∀ x17 : Int, x17 = h.2.1 174 0 → -2147483648 ≤ x17 → x17 ≤ 2147483647 → ((x17 = 0 → B_MD_told_116 G s a1 (4) h Q ) ∧ (¬ x17 = 0 → B_MD_told_116 G s a1 (x17) h Q ))) ∧ ((a1 < 0 ∨ 6 < a1) → Q (some (av_I (-1))) h))
theorem b_MD_told_0 {G : cx_T} {s : Nat} {a1 : Int} {h : ah_T} {Q : Option av_T → ah_T → Prop} (hb0 : hb s h) (H : B_MD_told_0 G s a1 h Q ) : aw G (rm_R 1 0 0) m_MD_told 0 0 0 [some (av_R (some 170)), some (av_I a1)] [] h Q := by
  unfold B_MD_told_0 at H
  have hS : isS s := hb0.2.1
  refine A_iload_n 1 d_MD_told_0 rfl rfl ?_
  rcases (by omega : a1 = 0 ∨ a1 = 1 ∨ a1 = 2 ∨ a1 = 3 ∨ a1 = 4 ∨ a1 = 5 ∨ a1 = 6 ∨ (a1 < 0 ∨ 6 < a1)) with c | c | c | c | c | c | c | c
  · replace H := H.1 c
    refine A_tabIn (tgt := 44) d_MD_told_1 (by omega) (by omega) (by rw [c]; rfl) (by decide) ?_
    refine A_aload_n 0 d_MD_told_44 rfl rfl ?_
    refine A_getAv (z := some 172) T_ok d_MD_told_45 f_MD_17 (hb_s hb0 sf_170) (hb_m hb0 rfm_14) ?_
    refine A_iconst d_MD_told_48 rfl ?_
    refine A_ialoadf d_MD_told_49 (hb_s hb0 sf_172) (by decide) (by decide) (fun x2 ex2 lx2 ux2 => ?_)
    replace H := H x2 ex2 lx2 ux2
    exact A_iret d_MD_told_50 (by decide) rfl H
  · replace H := H.2.1 c
    refine A_tabIn (tgt := 51) d_MD_told_1 (by omega) (by omega) (by rw [c]; rfl) (by decide) ?_
    refine A_aload_n 0 d_MD_told_51 rfl rfl ?_
    refine A_getAv (z := some 175) T_ok d_MD_told_52 f_MD_26 (hb_s hb0 sf_170) (hb_m hb0 rfm_17) ?_
    refine A_iconst d_MD_told_55 rfl ?_
    refine A_ialoadf d_MD_told_56 (hb_s hb0 sf_175) (by decide) (by decide) (fun x4 ex4 lx4 ux4 => ?_)
    replace H := H x4 ex4 lx4 ux4
    exact A_iret d_MD_told_57 (by decide) rfl H
  · replace H := H.2.2.1 c
    refine A_tabIn (tgt := 58) d_MD_told_1 (by omega) (by omega) (by rw [c]; rfl) (by decide) ?_
    refine A_aload_n 0 d_MD_told_58 rfl rfl ?_
    refine A_getAv (z := some 177) T_ok d_MD_told_59 f_MD_32 (hb_s hb0 sf_170) (hb_m hb0 rfm_19) ?_
    refine A_iconst d_MD_told_62 rfl ?_
    refine A_ialoadf d_MD_told_63 (hb_s hb0 sf_177) (by decide) (by decide) (fun x6 ex6 lx6 ux6 => ?_)
    replace H := H x6 ex6 lx6 ux6
    exact A_iret d_MD_told_64 (by decide) rfl H
  · replace H := H.2.2.2.1 c
    refine A_tabIn (tgt := 65) d_MD_told_1 (by omega) (by omega) (by rw [c]; rfl) (by decide) ?_
    refine A_aload_n 0 d_MD_told_65 rfl rfl ?_
    refine A_getAv (z := some 181) T_ok d_MD_told_66 f_MD_44 (hb_s hb0 sf_170) (hb_m hb0 rfm_23) ?_
    refine A_iconst d_MD_told_69 rfl ?_
    refine A_ialoadf d_MD_told_70 (hb_s hb0 sf_181) (by decide) (by decide) (fun x8 ex8 lx8 ux8 => ?_)
    replace H := H x8 ex8 lx8 ux8
    exact A_iret d_MD_told_71 (by decide) rfl H
  · replace H := H.2.2.2.2.1 c
    refine A_tabIn (tgt := 72) d_MD_told_1 (by omega) (by omega) (by rw [c]; rfl) (by decide) ?_
    refine A_aload_n 0 d_MD_told_72 rfl rfl ?_
    refine A_callV0 m_MD_pageBars T_ok d_MD_told_73 l_MD_492 k_MD_pageBars (hb_s hb0 sf_170) rfl (by decide +kernel) (by decide) (Nat.le_of_ble_eq_true rfl) H (fun r h9 hq => ?_)
    clear H
    obtain ⟨z11, rfl, hb10, H⟩ := hq
    exact A_iret d_MD_told_76 (by decide) rfl H
  · replace H := H.2.2.2.2.2.1 c
    refine A_tabIn (tgt := 77) d_MD_told_1 (by omega) (by omega) (by rw [c]; rfl) (by decide) ?_
    refine A_aload_n 0 d_MD_told_77 rfl rfl ?_
    refine A_getAv (z := some 173) T_ok d_MD_told_78 f_MD_20 (hb_s hb0 sf_170) (hb_m hb0 rfm_15) ?_
    refine A_iconst d_MD_told_81 rfl ?_
    refine A_ialoadf d_MD_told_82 (hb_s hb0 sf_173) (by decide) (by decide) (fun x13 ex13 lx13 ux13 => ?_)
    replace H := H x13 ex13 lx13 ux13
    refine A_if_ne (tgt := 90) d_MD_told_83 (by decide) (fun c => ?_) (fun c => ?_)
    · replace H := H.2 c
      refine A_aload_n 0 d_MD_told_90 rfl rfl ?_
      refine A_getAv (z := some 173) T_ok d_MD_told_91 f_MD_20 (hb_s hb0 sf_170) (hb_m hb0 rfm_15) ?_
      refine A_iconst d_MD_told_94 rfl ?_
      refine A_ialoadv (z := x13) d_MD_told_95 (hb_s hb0 sf_173) (by decide) (by decide) ex13.symm ?_
      refine A_pc (pc' := 96) rfl ?_
      refine A_free (L' := [none, none]) trivial ?_
      exact b_MD_told_96    hb0 H
    · replace H := H.1 c
      refine A_iconst d_MD_told_86 rfl ?_
      refine A_goto (tgt := 96) d_MD_told_87 (by decide) ?_
      refine A_pc (pc' := 96) rfl ?_
      refine A_free (L' := [none, none]) trivial ?_
      exact b_MD_told_96    hb0 H
  · replace H := H.2.2.2.2.2.2.1 c
    refine A_tabIn (tgt := 97) d_MD_told_1 (by omega) (by omega) (by rw [c]; rfl) (by decide) ?_
    refine A_aload_n 0 d_MD_told_97 rfl rfl ?_
    refine A_getAv (z := some 174) T_ok d_MD_told_98 f_MD_23 (hb_s hb0 sf_170) (hb_m hb0 rfm_16) ?_
    refine A_iconst d_MD_told_101 rfl ?_
    refine A_ialoadf d_MD_told_102 (hb_s hb0 sf_174) (by decide) (by decide) (fun x17 ex17 lx17 ux17 => ?_)
    replace H := H x17 ex17 lx17 ux17
    refine A_if_ne (tgt := 110) d_MD_told_103 (by decide) (fun c => ?_) (fun c => ?_)
    · replace H := H.2 c
      refine A_aload_n 0 d_MD_told_110 rfl rfl ?_
      refine A_getAv (z := some 174) T_ok d_MD_told_111 f_MD_23 (hb_s hb0 sf_170) (hb_m hb0 rfm_16) ?_
      refine A_iconst d_MD_told_114 rfl ?_
      refine A_ialoadv (z := x17) d_MD_told_115 (hb_s hb0 sf_174) (by decide) (by decide) ex17.symm ?_
      refine A_pc (pc' := 116) rfl ?_
      refine A_free (L' := [none, none]) trivial ?_
      exact b_MD_told_116    hb0 H
    · replace H := H.1 c
      refine A_iconst d_MD_told_106 rfl ?_
      refine A_goto (tgt := 116) d_MD_told_107 (by decide) ?_
      refine A_pc (pc' := 116) rfl ?_
      refine A_free (L' := [none, none]) trivial ?_
      exact b_MD_told_116    hb0 H
  · replace H := H.2.2.2.2.2.2.2 c
    refine A_tabOut (tgt := 117) d_MD_told_1 (by omega) (by decide) ?_
    refine A_iconst d_MD_told_117 rfl ?_
    exact A_iret d_MD_told_118 (by decide) rfl H
theorem c_MD_told {G : cx_T} {s : Nat} {a1 : Int} {h : ah_T} {Q : Option av_T → ah_T → Prop} (hb0 : hb s h) (H : i32 a1 → B_MD_told_0 G s a1 h Q ) : con G 1 0 0 m_MD_told [av_R (some 170), av_I a1] h Q := by
  have hS : isS s := hb0.2.1
  refine con_of (L := [some (av_R (some 170)), some (av_I a1)]) (by decide +kernel) (Nat.le_of_ble_eq_true rfl) rfl ?_
  refine A_locI 1 rfl (fun ra1 => ?_)
  exact b_MD_told_0   hb0 (H ra1)
def B_MD_isVoice_19 (G : cx_T) (s : Nat) (a1 : Int) (t0 : Int) (h : ah_T) (Q : Option av_T → ah_T → Prop) : Prop :=
 (t0 = 0 ∨ t0 = 1) ∧ Q (some (av_I t0)) h
theorem b_MD_isVoice_19 {G : cx_T} {s : Nat} {a1 : Int} {t0 : Int} {h : ah_T} {Q : Option av_T → ah_T → Prop} (hb0 : hb s h) (H : B_MD_isVoice_19 G s a1 t0 h Q ) : aw G (rm_R 0 0 0) m_MD_isVoice 0 0 19 [none, none] [av_I t0] h Q := by
  unfold B_MD_isVoice_19 at H
  have hS : isS s := hb0.2.1
  exact A_zret d_MD_isVoice_19 (by decide) rfl H.1 H.2
def B_MD_isVoice_18 (G : cx_T) (s : Nat) (a1 : Int) (h : ah_T) (Q : Option av_T → ah_T → Prop) : Prop :=
 B_MD_isVoice_19 G s a1 (0) h Q 
theorem b_MD_isVoice_18 {G : cx_T} {s : Nat} {a1 : Int} {h : ah_T} {Q : Option av_T → ah_T → Prop} (hb0 : hb s h) (H : B_MD_isVoice_18 G s a1 h Q ) : aw G (rm_R 0 0 0) m_MD_isVoice 0 0 18 [none, none] [] h Q := by
  unfold B_MD_isVoice_18 at H
  have hS : isS s := hb0.2.1
  refine A_iconst d_MD_isVoice_18 rfl ?_
  refine A_pc (pc' := 19) rfl ?_
  exact b_MD_isVoice_19    hb0 H
def B_MD_isVoice_0 (G : cx_T) (s : Nat) (a1 : Int) (h : ah_T) (Q : Option av_T → ah_T → Prop) : Prop :=
 ((a1 < 0 → B_MD_isVoice_18 G s a1 h Q ) ∧ (¬ a1 < 0 → ∀ x2 : Int, x2 = h.2.1 172 0 → -2147483648 ≤ x2 → x2 ≤ 2147483647 → ((x2 ≤ a1 → B_MD_isVoice_18 G s a1 h Q ) ∧ (¬ x2 ≤ a1 → B_MD_isVoice_19 G s a1 (1) h Q ))))
theorem b_MD_isVoice_0 {G : cx_T} {s : Nat} {a1 : Int} {h : ah_T} {Q : Option av_T → ah_T → Prop} (hb0 : hb s h) (H : B_MD_isVoice_0 G s a1 h Q ) : aw G (rm_R 0 0 0) m_MD_isVoice 0 0 0 [some (av_R (some 170)), some (av_I a1)] [] h Q := by
  unfold B_MD_isVoice_0 at H
  have hS : isS s := hb0.2.1
  refine A_iload_n 1 d_MD_isVoice_0 rfl rfl ?_
  refine A_if_lt (tgt := 18) d_MD_isVoice_1 (by decide) (fun c => ?_) (fun c => ?_)
  · replace H := H.1 c
    refine A_pc (pc' := 18) rfl ?_
    refine A_free (L' := [none, none]) trivial ?_
    exact b_MD_isVoice_18    hb0 H
  · replace H := H.2 c
    refine A_iload_n 1 d_MD_isVoice_4 rfl rfl ?_
    refine A_aload_n 0 d_MD_isVoice_5 rfl rfl ?_
    refine A_getAv (z := some 172) T_ok d_MD_isVoice_6 f_MD_17 (hb_s hb0 sf_170) (hb_m hb0 rfm_14) ?_
    refine A_iconst d_MD_isVoice_9 rfl ?_
    refine A_ialoadf d_MD_isVoice_10 (hb_s hb0 sf_172) (by decide) (by decide) (fun x2 ex2 lx2 ux2 => ?_)
    replace H := H x2 ex2 lx2 ux2
    refine A_pc (pc' := 11) rfl ?_
    refine A_icmp_ge (tgt := 18) d_MD_isVoice_11 (by decide) (fun c => ?_) (fun c => ?_)
    · replace H := H.1 c
      refine A_pc (pc' := 18) rfl ?_
      refine A_free (L' := [none, none]) trivial ?_
      exact b_MD_isVoice_18    hb0 H
    · replace H := H.2 c
      refine A_iconst d_MD_isVoice_14 rfl ?_
      refine A_goto (tgt := 19) d_MD_isVoice_15 (by decide) ?_
      refine A_pc (pc' := 19) rfl ?_
      refine A_free (L' := [none, none]) trivial ?_
      exact b_MD_isVoice_19    hb0 H
theorem c_MD_isVoice {G : cx_T} {s : Nat} {a1 : Int} {h : ah_T} {Q : Option av_T → ah_T → Prop} (hb0 : hb s h) (H : i32 a1 → B_MD_isVoice_0 G s a1 h Q ) : con G 0 0 0 m_MD_isVoice [av_R (some 170), av_I a1] h Q := by
  have hS : isS s := hb0.2.1
  refine con_of (L := [some (av_R (some 170)), some (av_I a1)]) (by decide +kernel) (Nat.le_of_ble_eq_true rfl) rfl ?_
  refine A_locI 1 rfl (fun ra1 => ?_)
  exact b_MD_isVoice_0   hb0 (H ra1)
def B_MD_count_38 (G : cx_T) (s : Nat) (a1 : Int) (a2 : Int) (t0 : Int) (h : ah_T) (Q : Option av_T → ah_T → Prop) : Prop :=
 Q (some (av_I t0)) h
theorem b_MD_count_38 {G : cx_T} {s : Nat} {a1 : Int} {a2 : Int} {t0 : Int} {h : ah_T} {Q : Option av_T → ah_T → Prop} (hb0 : hb s h) (H : B_MD_count_38 G s a1 a2 t0 h Q ) : aw G (rm_R 1 0 0) m_MD_count 0 0 38 [none, none, none] [av_I t0] h Q := by
  unfold B_MD_count_38 at H
  have hS : isS s := hb0.2.1
  exact A_iret d_MD_count_38 (by decide) rfl H
def B_MD_count_17 (G : cx_T) (s : Nat) (a1 : Int) (a2 : Int) (h : ah_T) (Q : Option av_T → ah_T → Prop) : Prop :=
 Q (some (av_I (-1))) h
theorem b_MD_count_17 {G : cx_T} {s : Nat} {a1 : Int} {a2 : Int} {h : ah_T} {Q : Option av_T → ah_T → Prop} (hb0 : hb s h) (H : B_MD_count_17 G s a1 a2 h Q ) : aw G (rm_R 1 0 0) m_MD_count 0 0 17 [none, none, none] [] h Q := by
  unfold B_MD_count_17 at H
  have hS : isS s := hb0.2.1
  refine A_iconst d_MD_count_17 rfl ?_
  exact A_iret d_MD_count_18 (by decide) rfl H
def B_MD_count_0 (G : cx_T) (s : Nat) (a1 : Int) (a2 : Int) (h : ah_T) (Q : Option av_T → ah_T → Prop) : Prop :=
 con G 0 0 0 m_MD_isVoice [av_R (some 170), av_I a1] h (fun r h1 => ∃ z3 : Int, r = some (av_I z3) ∧ hb s h1 ∧ ((z3 = 0 → B_MD_count_17 G s a1 a2 h1 Q ) ∧ (¬ z3 = 0 → ((a2 < 0 → B_MD_count_17 G s a1 a2 h1 Q ) ∧ (¬ a2 < 0 → ((a2 ≤ 1 → ((a2 = 0 → (0 ≤ a1 ∧ a1 < 8) ∧ ∀ x8 : Int, x8 = h1.2.1 185 (a1).toNat → -2147483648 ≤ x8 → x8 ≤ 2147483647 → B_MD_count_38 G s a1 a2 (x8) h1 Q ) ∧ (¬ a2 = 0 → (0 ≤ a1 ∧ a1 < 8) ∧ ∀ x5 : Int, x5 = h1.2.1 186 (a1).toNat → -2147483648 ≤ x5 → x5 ≤ 2147483647 → B_MD_count_38 G s a1 a2 (x5) h1 Q ))) ∧ (¬ a2 ≤ 1 → B_MD_count_17 G s a1 a2 h1 Q )))))))
theorem b_MD_count_0 {G : cx_T} {s : Nat} {a1 : Int} {a2 : Int} {h : ah_T} {Q : Option av_T → ah_T → Prop} (hb0 : hb s h) (H : B_MD_count_0 G s a1 a2 h Q ) : aw G (rm_R 1 0 0) m_MD_count 0 0 0 [some (av_R (some 170)), some (av_I a1), some (av_I a2)] [] h Q := by
  unfold B_MD_count_0 at H
  have hS : isS s := hb0.2.1
  refine A_aload_n 0 d_MD_count_0 rfl rfl ?_
  refine A_iload_n 1 d_MD_count_1 rfl rfl ?_
  refine A_callV1 m_MD_isVoice T_ok d_MD_count_2 l_MD_495 k_MD_isVoice (hb_s hb0 sf_170) rfl (by decide +kernel) (by decide) (Nat.le_of_ble_eq_true rfl) H (fun r h1 hq => ?_)
  clear H
  obtain ⟨z3, rfl, hb2, H⟩ := hq
  refine A_if_eq (tgt := 17) d_MD_count_5 (by decide) (fun c => ?_) (fun c => ?_)
  · replace H := H.1 c
    refine A_pc (pc' := 17) rfl ?_
    refine A_free (L' := [none, none, none]) trivial ?_
    exact b_MD_count_17    hb2 H
  · replace H := H.2 c
    refine A_iload_n 2 d_MD_count_8 rfl rfl ?_
    refine A_if_lt (tgt := 17) d_MD_count_9 (by decide) (fun c => ?_) (fun c => ?_)
    · replace H := H.1 c
      refine A_pc (pc' := 17) rfl ?_
      refine A_free (L' := [none, none, none]) trivial ?_
      exact b_MD_count_17    hb2 H
    · replace H := H.2 c
      refine A_iload_n 2 d_MD_count_12 rfl rfl ?_
      refine A_iconst d_MD_count_13 rfl ?_
      refine A_icmp_le (tgt := 19) d_MD_count_14 (by decide) (fun c => ?_) (fun c => ?_)
      · replace H := H.1 c
        refine A_iload_n 2 d_MD_count_19 rfl rfl ?_
        refine A_if_ne (tgt := 32) d_MD_count_20 (by decide) (fun c => ?_) (fun c => ?_)
        · replace H := H.2 c
          refine A_aload_n 0 d_MD_count_32 rfl rfl ?_
          refine A_getAv (z := some 186) T_ok d_MD_count_33 f_MD_60 (hb_s hb2 sf_170) (hb_m hb2 rfm_28) ?_
          refine A_iload_n 1 d_MD_count_36 rfl rfl ?_
          have g6 := H.1
          replace H := H.2
          refine A_ialoadf d_MD_count_37 (hb_s hb2 sf_186) g6.1 g6.2 (fun x5 ex5 lx5 ux5 => ?_)
          replace H := H x5 ex5 lx5 ux5
          refine A_pc (pc' := 38) rfl ?_
          refine A_free (L' := [none, none, none]) trivial ?_
          exact b_MD_count_38    hb2 H
        · replace H := H.1 c
          refine A_aload_n 0 d_MD_count_23 rfl rfl ?_
          refine A_getAv (z := some 185) T_ok d_MD_count_24 f_MD_57 (hb_s hb2 sf_170) (hb_m hb2 rfm_27) ?_
          refine A_iload_n 1 d_MD_count_27 rfl rfl ?_
          have g9 := H.1
          replace H := H.2
          refine A_ialoadf d_MD_count_28 (hb_s hb2 sf_185) g9.1 g9.2 (fun x8 ex8 lx8 ux8 => ?_)
          replace H := H x8 ex8 lx8 ux8
          refine A_goto (tgt := 38) d_MD_count_29 (by decide) ?_
          refine A_pc (pc' := 38) rfl ?_
          refine A_free (L' := [none, none, none]) trivial ?_
          exact b_MD_count_38    hb2 H
      · replace H := H.2 c
        refine A_pc (pc' := 17) rfl ?_
        refine A_free (L' := [none, none, none]) trivial ?_
        exact b_MD_count_17    hb2 H
theorem c_MD_count {G : cx_T} {s : Nat} {a1 : Int} {a2 : Int} {h : ah_T} {Q : Option av_T → ah_T → Prop} (hb0 : hb s h) (H : i32 a1 → i32 a2 → B_MD_count_0 G s a1 a2 h Q ) : con G 1 0 0 m_MD_count [av_R (some 170), av_I a1, av_I a2] h Q := by
  have hS : isS s := hb0.2.1
  refine con_of (L := [some (av_R (some 170)), some (av_I a1), some (av_I a2)]) (by decide +kernel) (Nat.le_of_ble_eq_true rfl) rfl ?_
  refine A_locI 1 rfl (fun ra1 => ?_)
  refine A_locI 2 rfl (fun ra2 => ?_)
  exact b_MD_count_0   hb0 (H ra1 ra2)
def B_MD_event_IIIJ_249 (G : cx_T) (s : Nat) (a1 : Int) (a2 : Int) (a3 : Int) (t0 : Int) (h : ah_T) (Q : Option av_T → ah_T → Prop) : Prop :=
 Q (some (av_L t0)) h
theorem b_MD_event_IIIJ_249 {G : cx_T} {s : Nat} {a1 : Int} {a2 : Int} {a3 : Int} {t0 : Int} {h : ah_T} {Q : Option av_T → ah_T → Prop} (hb0 : hb s h) (H : B_MD_event_IIIJ_249 G s a1 a2 a3 t0 h Q ) : aw G (rm_R 1 0 0) m_MD_event_IIIJ 0 0 249 [none, none, none, none, none] [av_L t0] h Q := by
  unfold B_MD_event_IIIJ_249 at H
  have hS : isS s := hb0.2.1
  exact A_lret d_MD_event_IIIJ_249 (by decide) rfl H
def B_MD_event_IIIJ_246 (G : cx_T) (s : Nat) (a1 : Int) (a2 : Int) (a3 : Int) (h : ah_T) (Q : Option av_T → ah_T → Prop) : Prop :=
 B_MD_event_IIIJ_249 G s a1 a2 a3 (10000) h Q 
theorem b_MD_event_IIIJ_246 {G : cx_T} {s : Nat} {a1 : Int} {a2 : Int} {a3 : Int} {h : ah_T} {Q : Option av_T → ah_T → Prop} (hb0 : hb s h) (H : B_MD_event_IIIJ_246 G s a1 a2 a3 h Q ) : aw G (rm_R 1 0 0) m_MD_event_IIIJ 0 0 246 [none, none, none, none, none] [] h Q := by
  unfold B_MD_event_IIIJ_246 at H
  have hS : isS s := hb0.2.1
  refine A_ldc2 (z := 10000) d_MD_event_IIIJ_246 cst_MD_498 rfl ?_
  refine A_pc (pc' := 249) rfl ?_
  exact b_MD_event_IIIJ_249    hb0 H
def B_MD_event_IIIJ_208 (G : cx_T) (s : Nat) (a1 : Int) (a2 : Int) (a3 : Int) (v4 : Int) (h : ah_T) (Q : Option av_T → ah_T → Prop) : Prop :=
 ((a3 < 20 → B_MD_event_IIIJ_246 G s a1 a2 a3 h Q ) ∧ (¬ a3 < 20 → (0 ≤ v4 ∧ v4 < 2400) ∧ ∀ x2 : Int, x2 = h.2.1 191 (v4).toNat → -2147483648 ≤ x2 → x2 ≤ 2147483647 → ((-2147483648) ≤ (x2 + 20) ∧ (x2 + 20) ≤ 2147483647) ∧ (((x2 + 20) ≤ a3 → B_MD_event_IIIJ_246 G s a1 a2 a3 h Q ) ∧ (¬ (x2 + 20) ≤ a3 → ((-2147483648) ≤ (4 * v4) ∧ (4 * v4) ≤ 2147483647) ∧ ((-2147483648) ≤ (4 * v4 + a3) ∧ (4 * v4 + a3) ≤ 2147483647) ∧ ((-2147483648) ≤ (4 * v4 + a3 - 20) ∧ (4 * v4 + a3 - 20) ≤ 2147483647) ∧ (0 ≤ (4 * v4 + a3 - 20) ∧ (4 * v4 + a3 - 20) < 9600) ∧ ∀ x9 : Int, x9 = h.2.1 193 ((4 * v4 + a3 - 20)).toNat → -2147483648 ≤ x9 → x9 ≤ 2147483647 → B_MD_event_IIIJ_249 G s a1 a2 a3 (x9) h Q ))))
theorem b_MD_event_IIIJ_208 {G : cx_T} {s : Nat} {a1 : Int} {a2 : Int} {a3 : Int} {v4 : Int} {h : ah_T} {Q : Option av_T → ah_T → Prop} (hb0 : hb s h) (H : B_MD_event_IIIJ_208 G s a1 a2 a3 v4 h Q ) : aw G (rm_R 1 0 0) m_MD_event_IIIJ 0 0 208 [some (av_R (some 170)), none, none, some (av_I a3), some (av_I v4)] [] h Q := by
  unfold B_MD_event_IIIJ_208 at H
  have hS : isS s := hb0.2.1
  refine A_iload_n 3 d_MD_event_IIIJ_208 rfl rfl ?_
  refine A_bipush d_MD_event_IIIJ_209 rfl ?_
  refine A_icmp_lt (tgt := 246) d_MD_event_IIIJ_211 (by decide) (fun c => ?_) (fun c => ?_)
  · replace H := H.1 c
    refine A_pc (pc' := 246) rfl ?_
    refine A_free (L' := [none, none, none, none, none]) trivial ?_
    exact b_MD_event_IIIJ_246    hb0 H
  · replace H := H.2 c
    refine A_iload_n 3 d_MD_event_IIIJ_214 rfl rfl ?_
    refine A_bipush d_MD_event_IIIJ_215 rfl ?_
    refine A_aload_n 0 d_MD_event_IIIJ_217 rfl rfl ?_
    refine A_getAv (z := some 191) T_ok d_MD_event_IIIJ_218 f_MD_75 (hb_s hb0 sf_170) (hb_m hb0 rfm_33) ?_
    refine A_iload d_MD_event_IIIJ_221 rfl ?_
    refine A_pc (pc' := 223) rfl ?_
    have g3 := H.1
    replace H := H.2
    refine A_ialoadf d_MD_event_IIIJ_223 (hb_s hb0 sf_191) g3.1 g3.2 (fun x2 ex2 lx2 ux2 => ?_)
    replace H := H x2 ex2 lx2 ux2
    have g4 := H.1
    replace H := H.2
    refine A_iaddv (z := (x2 + 20)) d_MD_event_IIIJ_224 (w32_to (by omega) (by unfold i32; omega)) ?_
    refine A_icmp_ge (tgt := 246) d_MD_event_IIIJ_225 (by decide) (fun c => ?_) (fun c => ?_)
    · replace H := H.1 c
      refine A_pc (pc' := 246) rfl ?_
      refine A_free (L' := [none, none, none, none, none]) trivial ?_
      exact b_MD_event_IIIJ_246    hb0 H
    · replace H := H.2 c
      refine A_aload_n 0 d_MD_event_IIIJ_228 rfl rfl ?_
      refine A_getAv (z := some 193) T_ok d_MD_event_IIIJ_229 f_MD_81 (hb_s hb0 sf_170) (hb_m hb0 rfm_35) ?_
      refine A_iconst d_MD_event_IIIJ_232 rfl ?_
      refine A_iload d_MD_event_IIIJ_233 rfl ?_
      have g6 := H.1
      replace H := H.2
      refine A_imulv (z := (4 * v4)) d_MD_event_IIIJ_235 (w32_to (by omega) (by unfold i32; omega)) ?_
      refine A_pc (pc' := 236) rfl ?_
      refine A_iload_n 3 d_MD_event_IIIJ_236 rfl rfl ?_
      have g7 := H.1
      replace H := H.2
      refine A_iaddv (z := (4 * v4 + a3)) d_MD_event_IIIJ_237 (w32_to (by omega) (by unfold i32; omega)) ?_
      refine A_bipush d_MD_event_IIIJ_238 rfl ?_
      have g8 := H.1
      replace H := H.2
      refine A_isubv (z := (4 * v4 + a3 - 20)) d_MD_event_IIIJ_240 (w32_to (by omega) (by unfold i32; omega)) ?_
      have g10 := H.1
      replace H := H.2
      refine A_ialoadf d_MD_event_IIIJ_241 (hb_s hb0 sf_193) g10.1 g10.2 (fun x9 ex9 lx9 ux9 => ?_)
      replace H := H x9 ex9 lx9 ux9
      refine A_i2l d_MD_event_IIIJ_242 ?_
      refine A_pc (pc' := 243) rfl ?_
      refine A_goto (tgt := 249) d_MD_event_IIIJ_243 (by decide) ?_
      refine A_pc (pc' := 249) rfl ?_
      refine A_free (L' := [none, none, none, none, none]) trivial ?_
      exact b_MD_event_IIIJ_249    hb0 H
def B_MD_event_IIIJ_144 (G : cx_T) (s : Nat) (a1 : Int) (a2 : Int) (a3 : Int) (t0 : Int) (h : ah_T) (Q : Option av_T → ah_T → Prop) : Prop :=
 Q (some (av_L t0)) h
theorem b_MD_event_IIIJ_144 {G : cx_T} {s : Nat} {a1 : Int} {a2 : Int} {a3 : Int} {t0 : Int} {h : ah_T} {Q : Option av_T → ah_T → Prop} (hb0 : hb s h) (H : B_MD_event_IIIJ_144 G s a1 a2 a3 t0 h Q ) : aw G (rm_R 1 0 0) m_MD_event_IIIJ 0 0 144 [none, none, none, none, none] [av_L t0] h Q := by
  unfold B_MD_event_IIIJ_144 at H
  have hS : isS s := hb0.2.1
  exact A_lret d_MD_event_IIIJ_144 (by decide) rfl H
def B_MD_event_IIIJ_22 (G : cx_T) (s : Nat) (a1 : Int) (a2 : Int) (a3 : Int) (h : ah_T) (Q : Option av_T → ah_T → Prop) : Prop :=
 Q (some (av_L 10000)) h
theorem b_MD_event_IIIJ_22 {G : cx_T} {s : Nat} {a1 : Int} {a2 : Int} {a3 : Int} {h : ah_T} {Q : Option av_T → ah_T → Prop} (hb0 : hb s h) (H : B_MD_event_IIIJ_22 G s a1 a2 a3 h Q ) : aw G (rm_R 1 0 0) m_MD_event_IIIJ 0 0 22 [none, none, none, none, none] [] h Q := by
  unfold B_MD_event_IIIJ_22 at H
  have hS : isS s := hb0.2.1
  refine A_ldc2 (z := 10000) d_MD_event_IIIJ_22 cst_MD_498 rfl ?_
  exact A_lret d_MD_event_IIIJ_25 (by decide) rfl H
def B_MD_event_IIIJ_0 (G : cx_T) (s : Nat) (a1 : Int) (a2 : Int) (a3 : Int) (h : ah_T) (Q : Option av_T → ah_T → Prop) : Prop :=
 con G 0 0 0 m_MD_isVoice [av_R (some 170), av_I a1] h (fun r h1 => ∃ z3 : Int, r = some (av_I z3) ∧ hb s h1 ∧ ((z3 = 0 → B_MD_event_IIIJ_22 G s a1 a2 a3 h1 Q ) ∧ (¬ z3 = 0 → ((a2 < 0 → B_MD_event_IIIJ_22 G s a1 a2 a3 h1 Q ) ∧ (¬ a2 < 0 → (0 ≤ a1 ∧ a1 < 8) ∧ ∀ x5 : Int, x5 = h1.2.1 185 (a1).toNat → -2147483648 ≤ x5 → x5 ≤ 2147483647 → ((a2 < x5 → ((-2147483648) ≤ (300 * a1) ∧ (300 * a1) ≤ 2147483647) ∧ ((-2147483648) ≤ (300 * a1 + a2) ∧ (300 * a1 + a2) ≤ 2147483647) ∧ ((a3 = 0 → (0 ≤ (300 * a1 + a2) ∧ (300 * a1 + a2) < 2400) ∧ ∀ x10 : Int, x10 = h1.2.2.1 187 ((300 * a1 + a2)).toNat → -9223372036854775808 ≤ x10 → x10 ≤ 9223372036854775807 → Q (some (av_L x10)) h1) ∧ (a3 = 1 → (0 ≤ (300 * a1 + a2) ∧ (300 * a1 + a2) < 2400) ∧ ∀ x13 : Int, x13 = h1.2.2.1 188 ((300 * a1 + a2)).toNat → -9223372036854775808 ≤ x13 → x13 ≤ 9223372036854775807 → Q (some (av_L x13)) h1) ∧ (a3 = 2 → (0 ≤ (300 * a1 + a2) ∧ (300 * a1 + a2) < 2400) ∧ ∀ x16 : Int, x16 = h1.2.2.1 189 ((300 * a1 + a2)).toNat → -9223372036854775808 ≤ x16 → x16 ≤ 9223372036854775807 → Q (some (av_L x16)) h1) ∧ (a3 = 3 → (0 ≤ (300 * a1 + a2) ∧ (300 * a1 + a2) < 2400) ∧ ∀ x19 : Int, x19 = h1.2.2.1 190 ((300 * a1 + a2)).toNat → -9223372036854775808 ≤ x19 → x19 ≤ 9223372036854775807 → Q (some (av_L x19)) h1) ∧ (a3 = 4 → (0 ≤ (300 * a1 + a2) ∧ (300 * a1 + a2) < 2400) ∧ ∀ x22 : Int, x22 = h1.2.1 191 ((300 * a1 + a2)).toNat → -2147483648 ≤ x22 → x22 ≤ 2147483647 → Q (some (av_L x22)) h1) ∧ (a3 = 5 → (0 ≤ (300 * a1 + a2) ∧ (300 * a1 + a2) < 2400) ∧ ∀ x25 : Int, x25 = h1.2.1 195 ((300 * a1 + a2)).toNat → (x25 = 0 ∨ x25 = 1) → ((x25 = 0 → B_MD_event_IIIJ_144 G s a1 a2 a3 (0) h1 Q ) ∧ (¬ x25 = 0 → B_MD_event_IIIJ_144 G s a1 a2 a3 (1) h1 Q ))) ∧ (a3 = 6 → (0 ≤ (300 * a1 + a2) ∧ (300 * a1 + a2) < 2400) ∧ ∀ x28 : Int, x28 = h1.2.1 196 ((300 * a1 + a2)).toNat → -2147483648 ≤ x28 → x28 ≤ 2147483647 → Q (some (av_L x28)) h1) ∧ (a3 = 7 → (0 ≤ (300 * a1 + a2) ∧ (300 * a1 + a2) < 2400) ∧ ∀ x31 : Int, x31 = h1.2.1 197 ((300 * a1 + a2)).toNat → -2147483648 ≤ x31 → x31 ≤ 2147483647 → Q (some (av_L x31)) h1) ∧ (a3 = 8 → (0 ≤ (300 * a1 + a2) ∧ (300 * a1 + a2) < 2400) ∧ ∀ x34 : Int, x34 = h1.2.1 198 ((300 * a1 + a2)).toNat → -2147483648 ≤ x34 → x34 ≤ 2147483647 → Q (some (av_L x34)) h1) ∧ ((a3 < 0 ∨ 8 < a3) → ((a3 < 10 → B_MD_event_IIIJ_208 G s a1 a2 a3 ((300 * a1 + a2)) h1 Q ) ∧ (¬ a3 < 10 → (0 ≤ (300 * a1 + a2) ∧ (300 * a1 + a2) < 2400) ∧ ∀ x37 : Int, x37 = h1.2.1 191 ((300 * a1 + a2)).toNat → -2147483648 ≤ x37 → x37 ≤ 2147483647 → ((-2147483648) ≤ (x37 + 10) ∧ (x37 + 10) ≤ 2147483647) ∧ (((x37 + 10) ≤ a3 → B_MD_event_IIIJ_208 G s a1 a2 a3 ((300 * a1 + a2)) h1 Q ) ∧ (¬ (x37 + 10) ≤ a3 → ((-2147483648) ≤ (1200 * a1 + 4 * a2) ∧ (1200 * a1 + 4 * a2) ≤ 2147483647) ∧ ((-2147483648) ≤ (1200 * a1 + 4 * a2 + a3) ∧ (1200 * a1 + 4 * a2 + a3) ≤ 2147483647) ∧ ((-2147483648) ≤ (1200 * a1 + 4 * a2 + a3 - 10) ∧ (1200 * a1 + 4 * a2 + a3 - 10) ≤ 2147483647) ∧ (0 ≤ (1200 * a1 + 4 * a2 + a3 - 10) ∧ (1200 * a1 + 4 * a2 + a3 - 10) < 9600) ∧ ∀ x44 : Int, x44 = h1.2.1 192 ((1200 * a1 + 4 * a2 + a3 - 10)).toNat → -2147483648 ≤ x44 → x44 ≤ 2147483647 → Q (some (av_L x44)) h1))))))) ∧ (¬ a2 < x5 → B_MD_event_IIIJ_22 G s a1 a2 a3 h1 Q )))))))
theorem b_MD_event_IIIJ_0 {G : cx_T} {s : Nat} {a1 : Int} {a2 : Int} {a3 : Int} {h : ah_T} {Q : Option av_T → ah_T → Prop} (hb0 : hb s h) (H : B_MD_event_IIIJ_0 G s a1 a2 a3 h Q ) : aw G (rm_R 1 0 0) m_MD_event_IIIJ 0 0 0 [some (av_R (some 170)), some (av_I a1), some (av_I a2), some (av_I a3), none] [] h Q := by
  unfold B_MD_event_IIIJ_0 at H
  have hS : isS s := hb0.2.1
  refine A_aload_n 0 d_MD_event_IIIJ_0 rfl rfl ?_
  refine A_iload_n 1 d_MD_event_IIIJ_1 rfl rfl ?_
  refine A_callV1 m_MD_isVoice T_ok d_MD_event_IIIJ_2 l_MD_495 k_MD_isVoice (hb_s hb0 sf_170) rfl (by decide +kernel) (by decide) (Nat.le_of_ble_eq_true rfl) H (fun r h1 hq => ?_)
  clear H
  obtain ⟨z3, rfl, hb2, H⟩ := hq
  refine A_if_eq (tgt := 22) d_MD_event_IIIJ_5 (by decide) (fun c => ?_) (fun c => ?_)
  · replace H := H.1 c
    refine A_pc (pc' := 22) rfl ?_
    refine A_free (L' := [none, none, none, none, none]) trivial ?_
    exact b_MD_event_IIIJ_22    hb2 H
  · replace H := H.2 c
    refine A_iload_n 2 d_MD_event_IIIJ_8 rfl rfl ?_
    refine A_if_lt (tgt := 22) d_MD_event_IIIJ_9 (by decide) (fun c => ?_) (fun c => ?_)
    · replace H := H.1 c
      refine A_pc (pc' := 22) rfl ?_
      refine A_free (L' := [none, none, none, none, none]) trivial ?_
      exact b_MD_event_IIIJ_22    hb2 H
    · replace H := H.2 c
      refine A_iload_n 2 d_MD_event_IIIJ_12 rfl rfl ?_
      refine A_aload_n 0 d_MD_event_IIIJ_13 rfl rfl ?_
      refine A_getAv (z := some 185) T_ok d_MD_event_IIIJ_14 f_MD_57 (hb_s hb2 sf_170) (hb_m hb2 rfm_27) ?_
      refine A_iload_n 1 d_MD_event_IIIJ_17 rfl rfl ?_
      have g6 := H.1
      replace H := H.2
      refine A_ialoadf d_MD_event_IIIJ_18 (hb_s hb2 sf_185) g6.1 g6.2 (fun x5 ex5 lx5 ux5 => ?_)
      replace H := H x5 ex5 lx5 ux5
      refine A_pc (pc' := 19) rfl ?_
      refine A_icmp_lt (tgt := 26) d_MD_event_IIIJ_19 (by decide) (fun c => ?_) (fun c => ?_)
      · replace H := H.1 c
        refine A_sipush d_MD_event_IIIJ_26 rfl ?_
        refine A_iload_n 1 d_MD_event_IIIJ_29 rfl rfl ?_
        have g7 := H.1
        replace H := H.2
        refine A_imulv (z := (300 * a1)) d_MD_event_IIIJ_30 (w32_to (by omega) (by unfold i32; omega)) ?_
        refine A_iload_n 2 d_MD_event_IIIJ_31 rfl rfl ?_
        have g8 := H.1
        replace H := H.2
        refine A_iaddv (z := (300 * a1 + a2)) d_MD_event_IIIJ_32 (w32_to (by omega) (by unfold i32; omega)) ?_
        refine A_pc (pc' := 33) rfl ?_
        refine A_istore (L' := [some (av_R (some 170)), some (av_I a1), some (av_I a2), some (av_I a3), some (av_I (300 * a1 + a2))]) d_MD_event_IIIJ_33 (Nat.le_of_ble_eq_true rfl) rfl ?_
        refine A_iload_n 3 d_MD_event_IIIJ_35 rfl rfl ?_
        rcases (by omega : a3 = 0 ∨ a3 = 1 ∨ a3 = 2 ∨ a3 = 3 ∨ a3 = 4 ∨ a3 = 5 ∨ a3 = 6 ∨ a3 = 7 ∨ a3 = 8 ∨ (a3 < 0 ∨ 8 < a3)) with c | c | c | c | c | c | c | c | c | c
        · replace H := H.1 c
          refine A_tabIn (tgt := 88) d_MD_event_IIIJ_36 (by omega) (by omega) (by rw [c]; rfl) (by decide) ?_
          refine A_aload_n 0 d_MD_event_IIIJ_88 rfl rfl ?_
          refine A_getAv (z := some 187) T_ok d_MD_event_IIIJ_89 f_MD_63 (hb_s hb2 sf_170) (hb_m hb2 rfm_29) ?_
          refine A_iload d_MD_event_IIIJ_92 rfl ?_
          have g11 := H.1
          replace H := H.2
          refine A_laloadf d_MD_event_IIIJ_94 (hb_s hb2 sf_187) g11.1 g11.2 (fun x10 ex10 lx10 ux10 => ?_)
          replace H := H x10 ex10 lx10 ux10
          exact A_lret d_MD_event_IIIJ_95 (by decide) rfl H
        · replace H := H.2.1 c
          refine A_tabIn (tgt := 96) d_MD_event_IIIJ_36 (by omega) (by omega) (by rw [c]; rfl) (by decide) ?_
          refine A_aload_n 0 d_MD_event_IIIJ_96 rfl rfl ?_
          refine A_getAv (z := some 188) T_ok d_MD_event_IIIJ_97 f_MD_66 (hb_s hb2 sf_170) (hb_m hb2 rfm_30) ?_
          refine A_iload d_MD_event_IIIJ_100 rfl ?_
          have g14 := H.1
          replace H := H.2
          refine A_laloadf d_MD_event_IIIJ_102 (hb_s hb2 sf_188) g14.1 g14.2 (fun x13 ex13 lx13 ux13 => ?_)
          replace H := H x13 ex13 lx13 ux13
          exact A_lret d_MD_event_IIIJ_103 (by decide) rfl H
        · replace H := H.2.2.1 c
          refine A_tabIn (tgt := 104) d_MD_event_IIIJ_36 (by omega) (by omega) (by rw [c]; rfl) (by decide) ?_
          refine A_aload_n 0 d_MD_event_IIIJ_104 rfl rfl ?_
          refine A_getAv (z := some 189) T_ok d_MD_event_IIIJ_105 f_MD_69 (hb_s hb2 sf_170) (hb_m hb2 rfm_31) ?_
          refine A_iload d_MD_event_IIIJ_108 rfl ?_
          have g17 := H.1
          replace H := H.2
          refine A_laloadf d_MD_event_IIIJ_110 (hb_s hb2 sf_189) g17.1 g17.2 (fun x16 ex16 lx16 ux16 => ?_)
          replace H := H x16 ex16 lx16 ux16
          exact A_lret d_MD_event_IIIJ_111 (by decide) rfl H
        · replace H := H.2.2.2.1 c
          refine A_tabIn (tgt := 112) d_MD_event_IIIJ_36 (by omega) (by omega) (by rw [c]; rfl) (by decide) ?_
          refine A_aload_n 0 d_MD_event_IIIJ_112 rfl rfl ?_
          refine A_getAv (z := some 190) T_ok d_MD_event_IIIJ_113 f_MD_72 (hb_s hb2 sf_170) (hb_m hb2 rfm_32) ?_
          refine A_iload d_MD_event_IIIJ_116 rfl ?_
          have g20 := H.1
          replace H := H.2
          refine A_laloadf d_MD_event_IIIJ_118 (hb_s hb2 sf_190) g20.1 g20.2 (fun x19 ex19 lx19 ux19 => ?_)
          replace H := H x19 ex19 lx19 ux19
          exact A_lret d_MD_event_IIIJ_119 (by decide) rfl H
        · replace H := H.2.2.2.2.1 c
          refine A_tabIn (tgt := 120) d_MD_event_IIIJ_36 (by omega) (by omega) (by rw [c]; rfl) (by decide) ?_
          refine A_aload_n 0 d_MD_event_IIIJ_120 rfl rfl ?_
          refine A_getAv (z := some 191) T_ok d_MD_event_IIIJ_121 f_MD_75 (hb_s hb2 sf_170) (hb_m hb2 rfm_33) ?_
          refine A_iload d_MD_event_IIIJ_124 rfl ?_
          have g23 := H.1
          replace H := H.2
          refine A_ialoadf d_MD_event_IIIJ_126 (hb_s hb2 sf_191) g23.1 g23.2 (fun x22 ex22 lx22 ux22 => ?_)
          replace H := H x22 ex22 lx22 ux22
          refine A_i2l d_MD_event_IIIJ_127 ?_
          refine A_pc (pc' := 128) rfl ?_
          exact A_lret d_MD_event_IIIJ_128 (by decide) rfl H
        · replace H := H.2.2.2.2.2.1 c
          refine A_tabIn (tgt := 129) d_MD_event_IIIJ_36 (by omega) (by omega) (by rw [c]; rfl) (by decide) ?_
          refine A_aload_n 0 d_MD_event_IIIJ_129 rfl rfl ?_
          refine A_getAv (z := some 195) T_ok d_MD_event_IIIJ_130 f_MD_87 (hb_s hb2 sf_170) (hb_m hb2 rfm_37) ?_
          refine A_iload d_MD_event_IIIJ_133 rfl ?_
          have g26 := H.1
          replace H := H.2
          refine A_zaloadn d_MD_event_IIIJ_135 (hb_s hb2 sf_195) g26.1 g26.2 (fun x25 ex25 bx25 => ?_)
          replace H := H x25 ex25 bx25
          refine A_if_eq (tgt := 143) d_MD_event_IIIJ_136 (by decide) (fun c => ?_) (fun c => ?_)
          · replace H := H.1 c
            refine A_lconst_0 d_MD_event_IIIJ_143 ?_
            refine A_pc (pc' := 144) rfl ?_
            refine A_free (L' := [none, none, none, none, none]) trivial ?_
            exact b_MD_event_IIIJ_144    hb2 H
          · replace H := H.2 c
            refine A_lconst_1 d_MD_event_IIIJ_139 ?_
            refine A_goto (tgt := 144) d_MD_event_IIIJ_140 (by decide) ?_
            refine A_pc (pc' := 144) rfl ?_
            refine A_free (L' := [none, none, none, none, none]) trivial ?_
            exact b_MD_event_IIIJ_144    hb2 H
        · replace H := H.2.2.2.2.2.2.1 c
          refine A_tabIn (tgt := 145) d_MD_event_IIIJ_36 (by omega) (by omega) (by rw [c]; rfl) (by decide) ?_
          refine A_aload_n 0 d_MD_event_IIIJ_145 rfl rfl ?_
          refine A_getAv (z := some 196) T_ok d_MD_event_IIIJ_146 f_MD_91 (hb_s hb2 sf_170) (hb_m hb2 rfm_38) ?_
          refine A_iload d_MD_event_IIIJ_149 rfl ?_
          have g29 := H.1
          replace H := H.2
          refine A_ialoadf d_MD_event_IIIJ_151 (hb_s hb2 sf_196) g29.1 g29.2 (fun x28 ex28 lx28 ux28 => ?_)
          replace H := H x28 ex28 lx28 ux28
          refine A_i2l d_MD_event_IIIJ_152 ?_
          refine A_pc (pc' := 153) rfl ?_
          exact A_lret d_MD_event_IIIJ_153 (by decide) rfl H
        · replace H := H.2.2.2.2.2.2.2.1 c
          refine A_tabIn (tgt := 154) d_MD_event_IIIJ_36 (by omega) (by omega) (by rw [c]; rfl) (by decide) ?_
          refine A_aload_n 0 d_MD_event_IIIJ_154 rfl rfl ?_
          refine A_getAv (z := some 197) T_ok d_MD_event_IIIJ_155 f_MD_94 (hb_s hb2 sf_170) (hb_m hb2 rfm_39) ?_
          refine A_iload d_MD_event_IIIJ_158 rfl ?_
          have g32 := H.1
          replace H := H.2
          refine A_ialoadf d_MD_event_IIIJ_160 (hb_s hb2 sf_197) g32.1 g32.2 (fun x31 ex31 lx31 ux31 => ?_)
          replace H := H x31 ex31 lx31 ux31
          refine A_i2l d_MD_event_IIIJ_161 ?_
          refine A_pc (pc' := 162) rfl ?_
          exact A_lret d_MD_event_IIIJ_162 (by decide) rfl H
        · replace H := H.2.2.2.2.2.2.2.2.1 c
          refine A_tabIn (tgt := 163) d_MD_event_IIIJ_36 (by omega) (by omega) (by rw [c]; rfl) (by decide) ?_
          refine A_aload_n 0 d_MD_event_IIIJ_163 rfl rfl ?_
          refine A_getAv (z := some 198) T_ok d_MD_event_IIIJ_164 f_MD_97 (hb_s hb2 sf_170) (hb_m hb2 rfm_40) ?_
          refine A_iload d_MD_event_IIIJ_167 rfl ?_
          have g35 := H.1
          replace H := H.2
          refine A_ialoadf d_MD_event_IIIJ_169 (hb_s hb2 sf_198) g35.1 g35.2 (fun x34 ex34 lx34 ux34 => ?_)
          replace H := H x34 ex34 lx34 ux34
          refine A_i2l d_MD_event_IIIJ_170 ?_
          refine A_pc (pc' := 171) rfl ?_
          exact A_lret d_MD_event_IIIJ_171 (by decide) rfl H
        · replace H := H.2.2.2.2.2.2.2.2.2 c
          refine A_tabOut (tgt := 172) d_MD_event_IIIJ_36 (by omega) (by decide) ?_
          refine A_iload_n 3 d_MD_event_IIIJ_172 rfl rfl ?_
          refine A_bipush d_MD_event_IIIJ_173 rfl ?_
          refine A_icmp_lt (tgt := 208) d_MD_event_IIIJ_175 (by decide) (fun c => ?_) (fun c => ?_)
          · replace H := H.1 c
            refine A_pc (pc' := 208) rfl ?_
            refine A_free (L' := [some (av_R (some 170)), none, none, some (av_I a3), some (av_I (300 * a1 + a2))]) (And.intro rfl (And.intro rfl (And.intro rfl trivial))) ?_
            exact b_MD_event_IIIJ_208    hb2 H
          · replace H := H.2 c
            refine A_iload_n 3 d_MD_event_IIIJ_178 rfl rfl ?_
            refine A_bipush d_MD_event_IIIJ_179 rfl ?_
            refine A_aload_n 0 d_MD_event_IIIJ_181 rfl rfl ?_
            refine A_getAv (z := some 191) T_ok d_MD_event_IIIJ_182 f_MD_75 (hb_s hb2 sf_170) (hb_m hb2 rfm_33) ?_
            refine A_iload d_MD_event_IIIJ_185 rfl ?_
            refine A_pc (pc' := 187) rfl ?_
            have g38 := H.1
            replace H := H.2
            refine A_ialoadf d_MD_event_IIIJ_187 (hb_s hb2 sf_191) g38.1 g38.2 (fun x37 ex37 lx37 ux37 => ?_)
            replace H := H x37 ex37 lx37 ux37
            have g39 := H.1
            replace H := H.2
            refine A_iaddv (z := (x37 + 10)) d_MD_event_IIIJ_188 (w32_to (by omega) (by unfold i32; omega)) ?_
            refine A_icmp_ge (tgt := 208) d_MD_event_IIIJ_189 (by decide) (fun c => ?_) (fun c => ?_)
            · replace H := H.1 c
              refine A_pc (pc' := 208) rfl ?_
              refine A_free (L' := [some (av_R (some 170)), none, none, some (av_I a3), some (av_I (300 * a1 + a2))]) (And.intro rfl (And.intro rfl (And.intro rfl trivial))) ?_
              exact b_MD_event_IIIJ_208    hb2 H
            · replace H := H.2 c
              refine A_aload_n 0 d_MD_event_IIIJ_192 rfl rfl ?_
              refine A_getAv (z := some 192) T_ok d_MD_event_IIIJ_193 f_MD_78 (hb_s hb2 sf_170) (hb_m hb2 rfm_34) ?_
              refine A_iconst d_MD_event_IIIJ_196 rfl ?_
              refine A_iload d_MD_event_IIIJ_197 rfl ?_
              have g41 := H.1
              replace H := H.2
              refine A_imulv (z := (1200 * a1 + 4 * a2)) d_MD_event_IIIJ_199 (w32_to (by omega) (by unfold i32; omega)) ?_
              refine A_pc (pc' := 200) rfl ?_
              refine A_iload_n 3 d_MD_event_IIIJ_200 rfl rfl ?_
              have g42 := H.1
              replace H := H.2
              refine A_iaddv (z := (1200 * a1 + 4 * a2 + a3)) d_MD_event_IIIJ_201 (w32_to (by omega) (by unfold i32; omega)) ?_
              refine A_bipush d_MD_event_IIIJ_202 rfl ?_
              have g43 := H.1
              replace H := H.2
              refine A_isubv (z := (1200 * a1 + 4 * a2 + a3 - 10)) d_MD_event_IIIJ_204 (w32_to (by omega) (by unfold i32; omega)) ?_
              have g45 := H.1
              replace H := H.2
              refine A_ialoadf d_MD_event_IIIJ_205 (hb_s hb2 sf_192) g45.1 g45.2 (fun x44 ex44 lx44 ux44 => ?_)
              replace H := H x44 ex44 lx44 ux44
              refine A_i2l d_MD_event_IIIJ_206 ?_
              refine A_pc (pc' := 207) rfl ?_
              exact A_lret d_MD_event_IIIJ_207 (by decide) rfl H
      · replace H := H.2 c
        refine A_pc (pc' := 22) rfl ?_
        refine A_free (L' := [none, none, none, none, none]) trivial ?_
        exact b_MD_event_IIIJ_22    hb2 H
theorem c_MD_event_IIIJ {G : cx_T} {s : Nat} {a1 : Int} {a2 : Int} {a3 : Int} {h : ah_T} {Q : Option av_T → ah_T → Prop} (hb0 : hb s h) (H : i32 a1 → i32 a2 → i32 a3 → B_MD_event_IIIJ_0 G s a1 a2 a3 h Q ) : con G 1 0 0 m_MD_event_IIIJ [av_R (some 170), av_I a1, av_I a2, av_I a3] h Q := by
  have hS : isS s := hb0.2.1
  refine con_of (L := [some (av_R (some 170)), some (av_I a1), some (av_I a2), some (av_I a3), none]) (by decide +kernel) (Nat.le_of_ble_eq_true rfl) rfl ?_
  refine A_locI 1 rfl (fun ra1 => ?_)
  refine A_locI 2 rfl (fun ra2 => ?_)
  refine A_locI 3 rfl (fun ra3 => ?_)
  exact b_MD_event_IIIJ_0   hb0 (H ra1 ra2 ra3)

/-! ===== the class: score ===== -/
/-- the score in use -/
def CKn (μ : pm_T) (c : Nat) (h : ah_T) : Prop := (h.2.1 c 1 = μ 0 7 ∧ h.2.1 c 2 = μ 0 1 ∧ h.2.1 c 3 = μ 0 2 ∧ h.2.1 c 6 = μ 0 3 ∧ h.2.1 c 10 = μ 0 4 ∧ h.2.1 c 12 = μ 0 5) ∧
  ((0 ≤ μ 0 3 ∧ μ 0 3 ≤ 8) ∧ (0 ≤ μ 0 4 ∧ μ 0 4 ≤ 24) ∧ (0 ≤ μ 0 5 ∧ μ 0 5 ≤ 12) ∧ (0 ≤ μ 0 7 ∧ μ 0 7 ≤ 4)) ∧
  (∀ j : Nat, (j : Int) < μ 0 3 → h.2.1 (c + 2) j = μ 1 j) ∧ (∀ j : Nat, (j : Int) < μ 0 4 → h.2.1 (c + 3) j = μ 2 j ∧ h.2.1 (c + 4) j = μ 3 j ∧ h.2.1 (c + 5) j = μ 4 j) ∧ (∀ j : Nat, (j : Int) < μ 0 5 → h.2.1 (c + 6) j = μ 5 j) ∧ RVs μ c h
theorem CKn_of {t : tk_T} {m i s : Nat} {μ : pm_T} {h : ah_T} (H : RCv t m i μ s h) : CKn μ s h := by
  obtain ⟨⟨-, ⟨⟨a0, a1, a2, a3, a4, a5, a6, a7⟩, ⟨b3, b4, b5, b6, b7⟩, l, ru, ro, na⟩, -⟩, V⟩ := H
  exact ⟨⟨a7, a1, a2, a3, a4, a5⟩, ⟨b3, b4, b5, b7⟩, l, ru, ro, V⟩
theorem CKn_f {μ : pm_T} {c : Nat} {h h' : ah_T} {W : Nat → Nat → Prop} (H : CKn μ c h) (f : fr W h h') (hW : ∀ a k, W a k → a < c ∨ c + 62 < a) : CKn μ c h' := by
  obtain ⟨⟨a1, a2, a3, a4, a5, a6⟩, b, l, ru, ro, V⟩ := H
  have g : ∀ a k, c ≤ a → a ≤ c + 62 → h'.2.1 a k = h.2.1 a k := fun a k q1 q2 => fr_g f (fun w => by have := hW a k w; omega)
  refine ⟨⟨by rw [g _ _ (by omega) (by omega)]; exact a1, by rw [g _ _ (by omega) (by omega)]; exact a2, by rw [g _ _ (by omega) (by omega)]; exact a3, by rw [g _ _ (by omega) (by omega)]; exact a4, by rw [g _ _ (by omega) (by omega)]; exact a5, by rw [g _ _ (by omega) (by omega)]; exact a6⟩, b, fun j hj => ?_, fun j hj => ?_, fun j hj => ?_, fun n hn => ⟨RVo_f (V n hn).1 f (fun a k w => ?_), (V n hn).2⟩⟩
  · rw [g _ _ (by omega) (by omega)]; exact l j hj
  · rw [g _ _ (by omega) (by omega), g _ _ (by omega) (by omega), g _ _ (by omega) (by omega)]; exact ru j hj
  · rw [g _ _ (by omega) (by omega)]; exact ro j hj
  · have := hW a k w
    have := b.2.2.2.2
    omega
theorem t_Score_voiceAt {G : cx_T} {s c : Nat} {h : ah_T} {μ : pm_T} {v : Int} (hb0 : hb s h) (hc : isS c) (H : CKn μ c h) : con G 0 0 0 m_Score_voiceAt [av_R (some c), av_I v] h (fun r h' => hb s h' ∧ h' = h ∧ ((0 ≤ v ∧ v < μ 0 7 ∧ r = some (av_R (some (c + 7 + 14 * v.toNat)))) ∨ (¬ (0 ≤ v ∧ v < μ 0 7) ∧ r = some (av_R none)))) := by
  refine c_Score_voiceAt hc hb0 (fun _ => ?_)
  have h1 := H.1.1
  have b := H.2.1.2.2.2
  unfold B_Score_voiceAt_0 B_Score_voiceAt_30
  refine ⟨fun q => ⟨hb0, rfl, Or.inr ⟨by omega, rfl⟩⟩, fun q x1 e1 _ _ => ?_⟩
  refine ⟨fun q2 => ⟨hb0, rfl, Or.inr ⟨by omega, rfl⟩⟩, fun q2 => ⟨fun q3 => by omega, fun q3 => ⟨⟨by omega, by omega⟩, hb0, rfl, Or.inl ⟨by omega, by omega, rfl⟩⟩⟩⟩
theorem t_Score_allEvents {G : cx_T} {s c : Nat} {h : ah_T} {μ : pm_T} (hb0 : hb s h) (hc : isS c) (H : CKn μ c h) : con G 1 0 0 m_Score_allEvents [av_R (some c)] h (fun r h' => hb s h' ∧ h' = h ∧ r = some (av_I (evs μ (μ 0 7).toNat))) := by
  have h1 := H.1.1
  have b := H.2.1.2.2.2
  have V := H.2.2.2.2.2
  refine c_Score_allEvents hc (X4 := fun v1 v2 hh => hh = h ∧ ∃ n : Nat, v2 = (n : Int) ∧ (n : Int) ≤ μ 0 7 ∧ v1 = evs μ n) ?_ hb0 ?_
  · refine lp_Score_allEvents_4 hc _ (fun _ v2 _ => (5 - v2).toNat) ?_
    rintro v1 v2 hh hb1 ⟨rfl, n, rfl, hn, rfl⟩
    have bn := evs_b (μ := μ) n (fun k hk => (V k (by omega)).2.1)
    unfold B_Score_allEvents_4
    intro x1 e1 _ _
    have ex1 : x1 = μ 0 7 := e1.trans h1
    subst ex1
    refine ⟨fun q => ⟨hb1, rfl, ?_⟩, fun q => ?_⟩
    · have : (μ 0 7).toNat = n := by omega
      rw [this]
    · refine con_mono (t_Score_voiceAt hb1 hc H) ?_
      rintro r h2 ⟨hb2, rfl, ⟨q1, q2, rfl⟩ | ⟨q1, -⟩⟩
      · rw [tn_c]
        refine ⟨_, rfl, hb2, Or.inr ⟨_, rfl, ?_, fun x5 e5 _ _ => ?_⟩⟩
        · unfold isV; unfold isS at hc; omega
        · have ex5 : x5 = μ (10 + n) 0 := e5.trans (V n q2).1.1.1
          have bx := (V n q2).2.1
          unfold B_Score_allEvents_31
          exact ⟨⟨by omega, by omega⟩, ⟨by omega, by omega⟩, ⟨rfl, n + 1, by omega, by omega, by rw [evs, ex5]⟩, by omega⟩
      · omega
  · unfold B_Score_allEvents_0
    exact ⟨rfl, 0, rfl, b.1, rfl⟩
abbrev WFg : Nat → Nat → Prop := fun a k => ((a = 143 ∨ a = 146 ∨ a = 150 ∨ a = 158 ∨ a = 162) ∧ k = 1) ∨ (a = 164 ∧ (k = 5 ∨ k = 7))
def Fgt (h : ah_T) : Prop := h.2.1 143 1 = 0 ∧ h.2.1 146 1 = 0 ∧ h.2.1 150 1 = 0 ∧ h.2.1 158 1 = 0 ∧ h.2.1 162 1 = 0 ∧ h.2.1 164 5 = 0 ∧ h.2.1 164 7 = 0
theorem t_PM_forgetFindings {G : cx_T} {s : Nat} {h : ah_T} (hb0 : hb s h) : con G 1 0 0 m_PM_forgetFindings [av_R (some 0)] h (fun r h' => r = none ∧ hb s h' ∧ fr WFg h h' ∧ Fgt h') := by
  refine c_PM_forgetFindings hb0 ?_
  unfold B_PM_forgetFindings_0
  refine con_mono (c_Judge_forget (Q := fun r h' => r = none ∧ hb s h' ∧ h' = st_i h 143 1 0) hb0 (by unfold B_Judge_forget_0; exact fun h1 e1 => ⟨rfl, hb_i hb0 e1, e1⟩)) ?_
  rintro r h1 ⟨rfl, hb1, e1⟩
  refine ⟨rfl, hb1, con_mono (c_Beams_forget (Q := fun r h' => r = none ∧ hb s h' ∧ h' = st_i h1 146 1 0) hb1 (by unfold B_Beams_forget_0; exact fun h2 e2 => ⟨rfl, hb_i hb1 e2, e2⟩)) ?_⟩
  rintro r h2 ⟨rfl, hb2, e2⟩
  refine ⟨rfl, hb2, con_mono (c_Page_forget (Q := fun r h' => r = none ∧ hb s h' ∧ h' = st_i h2 150 1 0) hb2 (by unfold B_Page_forget_0; exact fun h3 e3 => ⟨rfl, hb_i hb2 e3, e3⟩)) ?_⟩
  rintro r h3 ⟨rfl, hb3, e3⟩
  refine ⟨rfl, hb3, con_mono (c_Seconds_forget (Q := fun r h' => r = none ∧ hb s h' ∧ h' = st_i h3 158 1 0) hb3 (by unfold B_Seconds_forget_0; exact fun h4 e4 => ⟨rfl, hb_i hb3 e4, e4⟩)) ?_⟩
  rintro r h4 ⟨rfl, hb4, e4⟩
  refine ⟨rfl, hb4, con_mono (c_Trees_forget (Q := fun r h' => r = none ∧ hb s h' ∧ h' = st_i h4 162 1 0) hb4 (by unfold B_Trees_forget_0; exact fun h5 e5 => ⟨rfl, hb_i hb4 e5, e5⟩)) ?_⟩
  rintro r h5 ⟨rfl, hb5, e5⟩
  refine ⟨rfl, hb5, con_mono (c_Pairing_forget (Q := fun r h' => r = none ∧ hb s h' ∧ ∃ h6, h6 = st_i h5 164 5 0 ∧ h' = st_i h6 164 7 0) hb5 (by unfold B_Pairing_forget_0; exact fun h6 e6 h7 e7 => ⟨rfl, hb_i (hb_i hb5 e6) e7, h6, e6, e7⟩)) ?_⟩
  rintro r h7 ⟨rfl, hb7, h6, e6, e7⟩
  refine ⟨rfl, hb7, rfl, hb7, fr_i (fr_i (fr_i (fr_i (fr_i (fr_i (fr_i fr_0 e1 (by omega)) e2 (by omega)) e3 (by omega)) e4 (by omega)) e5 (by omega)) e6 (by omega)) e7 (by omega), ?_, ?_, ?_, ?_, ?_, ?_, mv_i e7⟩
  · rw [mm_i e7 (by omega), mm_i e6 (by omega), mm_i e5 (by omega), mm_i e4 (by omega), mm_i e3 (by omega), mm_i e2 (by omega), mv_i e1]
  · rw [mm_i e7 (by omega), mm_i e6 (by omega), mm_i e5 (by omega), mm_i e4 (by omega), mm_i e3 (by omega), mv_i e2]
  · rw [mm_i e7 (by omega), mm_i e6 (by omega), mm_i e5 (by omega), mm_i e4 (by omega), mv_i e3]
  · rw [mm_i e7 (by omega), mm_i e6 (by omega), mm_i e5 (by omega), mv_i e4]
  · rw [mm_i e7 (by omega), mm_i e6 (by omega), mv_i e5]
  · rw [mm_i e7 (by omega), mv_i e6]
theorem t_Reader_swap {G : cx_T} {s : Nat} {h : ah_T} (hx : hb s h) : con G 0 0 0 m_Reader_swap [av_R (some 2), av_R (some (97 - s))] h (fun r h' => r = some (av_R (some s)) ∧ h' = st_r h 2 5 (some (97 - s))) := by
  refine con_of (L := [some (av_R (some 2)), some (av_R (some (97 - s))), none]) (by decide +kernel) (Nat.le_of_ble_eq_true rfl) rfl ?_
  refine A_aload_n 0 d_Reader_swap_0 rfl rfl ?_
  refine A_getOv (z := some s) T_ok d_Reader_swap_1 f_Reader_32 (hb_s hx sf_2) hx.2.2.2.1 ?_
  refine A_astore_n 2 (L' := [some (av_R (some 2)), some (av_R (some (97 - s))), some (av_R (some s))]) d_Reader_swap_4 rfl (Nat.le_of_ble_eq_true rfl) rfl ?_
  refine A_aload_n 0 d_Reader_swap_5 rfl rfl ?_
  refine A_aload_n 1 d_Reader_swap_6 rfl rfl ?_
  refine A_putRv T_ok d_Reader_swap_7 f_Reader_32 ty_o (hb_s hx sf_2) fin_f (fun h1 e1 => ?_)
  refine A_aload_n 2 d_Reader_swap_10 rfl rfl ?_
  exact A_aret d_Reader_swap_11 (by decide) rfl ty_o ⟨rfl, e1⟩
theorem hb_sw {s : Nat} {h : ah_T} (hk : hb s h) : hb (97 - s) (st_r (st_r h 2 5 (some (97 - s))) 0 3 (some s)) := by
  obtain ⟨x1, x2, x3, x4, x5, x6, x7⟩ := hk
  have hs : s = 17 ∨ s = 80 := x2
  have key : ∀ a k, ¬ (a = 0 ∧ k = 3) → ¬ (a = 2 ∧ k = 5) → (st_r (st_r h 2 5 (some (97 - s))) 0 3 (some s)).2.2.2 a k = h.2.2.2 a k := fun a k q1 q2 => (up2_o q1).trans (up2_o q2)
  have e1 : 97 - (97 - s) = s := by omega
  refine ⟨x1, by unfold isS; omega, ?_, ?_, ?_, fun q hq => ?_, fun q hq => ?_⟩
  · rw [e1]; simp [st_r, up2]
  · simp [st_r, up2]
  · rw [key 3 6 (by decide) (by decide)]; exact x5
  · have h9 : ∀ q ∈ rf_L, ¬ (q.1 = 0 ∧ q.2.1 = 3) ∧ ¬ (q.1 = 2 ∧ q.2.1 = 5) := by decide +kernel
    rw [key _ _ (h9 q hq).1 (h9 q hq).2]
    exact x6 q hq
  · rw [key 170 q.1 (by omega) (by omega)]; exact x7 q hq
theorem fr_sw {s : Nat} {W : Nat → Nat → Prop} {h0 h : ah_T} (f : fr W h0 h) : fr W h0 (st_r (st_r h 2 5 (some (97 - s))) 0 3 (some s)) := by
  refine ⟨f.1, fun q => ?_⟩
  have := f.2 q
  have key : ∀ a k, ¬ (a = 0 ∧ k = 3) → ¬ (a = 2 ∧ k = 5) → (st_r (st_r h 2 5 (some (97 - s))) 0 3 (some s)).2.2.2 a k = h.2.2.2 a k := fun a k q1 q2 => (up2_o q1).trans (up2_o q2)
  rw [key 3 6 (by decide) (by decide)]; exact this
def PScl (s s' : Nat) (R : F_T ⊕ pm_T) (z : Int) (h h' : ah_T) : Prop := match R with
  | .inl q => s' = s ∧ z = -10 - q.1 ∧ q.1 ≠ 0 ∧ h'.2.1 0 4 = q.2 ∧ fr (fun a k => WY s a k ∨ (a = 0 ∧ (k = 1 ∨ k = 4))) h h'
  | .inr μ => s' = 97 - s ∧ z = evs μ (μ 0 7).toNat ∧ h'.2.1 0 4 = -2 ∧ CKn μ s h' ∧ Fgt h'
theorem t_PM_score {G : cx_T} {s n : Nat} {h : ah_T} {T : Nat → Int} (hb0 : hb s h) (hn : h.2.1 0 1 = (n : Int)) (hn2 : n ≤ 2000) (hT : ∀ j, j < n → h.2.1 1 j = T j ∧ 0 ≤ T j ∧ T j ≤ 255) :
    con G 24 0 0 m_PM_score [av_R (some 0)] h (fun r h' => ∃ z s', r = some (av_I z) ∧ hb s' h' ∧ fr (fun a _ => a < 170) h h' ∧ h'.2.1 0 1 = 0 ∧ ∃ (t : tk_T) (m : Nat) (a b : Nat → Nat), TkA T n t m a b ∧ PScl s s' (sp_score t) z h h') := by
  have hS : isS s := hb0.2.1
  have hs0 : s = 17 ∨ s = 80 := hS
  refine con_of (L := [some (av_R (some 0)), none]) (by decide +kernel) (Nat.le_of_ble_eq_true rfl) rfl ?_
  refine A_aload_n 0 d_PM_score_0 rfl rfl ?_
  refine A_getOv (z := some 2) T_ok d_PM_score_1 f_PM_20 (hb_s hb0 sf_0) (hb_r hb0 rff_0_2) ?_
  refine A_aload_n 0 d_PM_score_4 rfl rfl ?_
  refine A_getAv (z := some 1) T_ok d_PM_score_5 f_PM_9 (hb_s hb0 sf_0) (hb_r hb0 rff_0_0) ?_
  refine A_aload_n 0 d_PM_score_8 rfl rfl ?_
  refine A_pc (pc' := 9) rfl ?_
  refine A_getIf T_ok d_PM_score_9 f_PM_13 (hb_s hb0 sf_0) (fun x3 ex3 _ _ => ?_)
  have ex3' : x3 = (n : Int) := ex3.trans hn
  subst ex3'
  refine A_callV2 m_Reader_read T_ok d_PM_score_12 l_PM_80 k_Reader_read (hb_s hb0 sf_2) rfl (by decide +kernel) (by decide) (Nat.le_of_ble_eq_true rfl) (t_Reader_read hb0 hT hn2) (fun r h4 hq => ?_)
  obtain ⟨z, rfl, hb4, f4, t, m, a, b, hA, hR⟩ := hq
  have fb := FN_score (t := t)
  refine A_istore_n 1 (L' := [some (av_R (some 0)), some (av_I z)]) d_PM_score_15 rfl (Nat.le_of_ble_eq_true rfl) rfl ?_
  refine A_aload_n 0 d_PM_score_16 rfl rfl ?_
  refine A_iconst d_PM_score_17 rfl ?_
  refine A_putIv T_ok d_PM_score_18 f_PM_13 (hb_s hb4 sf_0) fin_f (fun h8 e8 => ?_)
  have hb8 := hb_i hb4 e8
  have f8 : fr (fun a k => WY s a k ∨ (a = 0 ∧ (k = 1 ∨ k = 4))) h h8 := fr_i (fr_w f4 (fun a k w => Or.inl w)) e8 (Or.inr ⟨rfl, Or.inl rfl⟩)
  refine A_iload_n 1 d_PM_score_21 rfl rfl ?_
  refine A_pc (pc' := 22) rfl ?_
  generalize es : sp_score t = R at *
  refine A_if_eq (tgt := 41) d_PM_score_22 (by decide) (fun c10 => ?_) (fun c10 => ?_)
  · rcases R with q | μ
    · exact absurd c10 (by have := hR.1; have := hR.2.1; omega)
    obtain ⟨-, i, HV⟩ := hR
    refine A_aload_n 0 d_PM_score_41 rfl rfl ?_
    refine A_bipush d_PM_score_42 rfl ?_
    refine A_putIv T_ok d_PM_score_44 f_PM_31 (hb_s hb8 sf_0) fin_f (fun h11 e11 => ?_)
    have hb11 := hb_i hb8 e11
    have f11 : fr (fun a k => WY s a k ∨ (a = 0 ∧ (k = 1 ∨ k = 4))) h h11 := fr_i f8 e11 (Or.inr ⟨rfl, Or.inr rfl⟩)
    refine A_aload_n 0 d_PM_score_47 rfl rfl ?_
    refine A_aload_n 0 d_PM_score_48 rfl rfl ?_
    refine A_pc (pc' := 49) rfl ?_
    refine A_getOv (z := some 2) T_ok d_PM_score_49 f_PM_20 (hb_s hb11 sf_0) (hb_r hb11 rff_0_2) ?_
    refine A_aload_n 0 d_PM_score_52 rfl rfl ?_
    refine A_getOv (z := some (97 - s)) T_ok d_PM_score_53 f_PM_27 (hb_s hb11 sf_0) hb11.2.2.1 ?_
    refine A_callV1 m_Reader_swap T_ok d_PM_score_56 l_PM_85 k_Reader_swap (hb_s hb11 sf_2) rfl (by decide +kernel) (by decide) (Nat.le_of_ble_eq_true rfl) (t_Reader_swap hb11) (fun r h15 hq => ?_)
    obtain ⟨rfl, eh15⟩ := hq
    refine A_putRv T_ok d_PM_score_59 f_PM_27 ty_o (by rw [eh15]; exact (hb_s hb11 sf_0)) fin_f (fun h16 eh16 => ?_)
    have hb16 : hb (97 - s) h16 := by rw [eh16, eh15]; exact hb_sw hb11
    have f16 : fr (fun a k => WY s a k ∨ (a = 0 ∧ (k = 1 ∨ k = 4))) h h16 := by rw [eh16, eh15]; exact fr_sw f11
    have i16 : h16.2.1 = h11.2.1 ∧ h16.2.2.1 = h11.2.2.1 := by rw [eh16, eh15]; exact ⟨rfl, rfl⟩
    have K4 : CKn μ s h4 := CKn_of HV
    have K11 : CKn μ s h11 := CKn_f (CKn_f K4 (fr_i (W := fun a k => a = 0) fr_0 e8 rfl) (fun a k w => by omega)) (fr_i (W := fun a k => a = 0) fr_0 e11 rfl) (fun a k w => by omega)
    have K16 : CKn μ s h16 := by rw [eh16, eh15]; exact K11
    have c01 : h16.2.1 0 1 = 0 := by rw [i16.1, mm_i e11 (by omega), mv_i e8]
    have c04 : h16.2.1 0 4 = -2 := by rw [i16.1, mv_i e11]
    have e97 : 97 - (97 - s) = s := by omega
    obtain ⟨s2, es2⟩ : ∃ q, q = 97 - s := ⟨_, rfl⟩
    rw [← es2] at hb16 e97
    refine A_aload_n 0 d_PM_score_62 rfl rfl ?_
    refine A_callV0 m_PM_forgetFindings T_ok d_PM_score_63 l_PM_89 k_PM_forgetFindings (hb_s hb16 sf_0) rfl (by decide +kernel) (by decide) (Nat.le_of_ble_eq_true rfl) (t_PM_forgetFindings hb16) (fun r h18 hq => ?_)
    obtain ⟨rfl, hb18, f18, F18⟩ := hq
    refine A_aload_n 0 d_PM_score_66 rfl rfl ?_
    refine A_getOv (z := some (97 - s2)) T_ok d_PM_score_67 f_PM_27 (hb_s hb18 sf_0) hb18.2.2.1 ?_
    have K18 : CKn μ s h18 := CKn_f K16 f18 (fun a k w => by omega)
    rw [e97]
    refine A_callV0 m_Score_allEvents T_ok d_PM_score_70 l_PM_92 k_Score_allEvents (hs_S hb18 hS) rfl (by decide +kernel) (by decide) (Nat.le_of_ble_eq_true rfl) (t_Score_allEvents hb18 hS K18) (fun r h22 hq => ?_)
    obtain ⟨hb22, rfl, rfl⟩ := hq
    refine A_iret d_PM_score_73 (by decide) rfl ⟨_, s2, rfl, hb22, fr_t (fr_w f16 (fun a k w => by omega)) f18 (fun a k w => by omega), by rw [fr_g f18 (by omega)]; exact c01, t, m, a, b, hA, ?_⟩
    rw [es]
    exact ⟨es2, rfl, by rw [fr_g f18 (by omega)]; exact c04, K18, F18⟩
  · rcases R with q | μ
    case inr => exact absurd hR.1 c10
    obtain ⟨rfl, q0, w6, w7⟩ := hR
    have fbq := fb q rfl
    refine A_aload_n 0 d_PM_score_25 rfl rfl ?_
    refine A_aload_n 0 d_PM_score_26 rfl rfl ?_
    refine A_getOv (z := some 2) T_ok d_PM_score_27 f_PM_20 (hb_s hb8 sf_0) (hb_r hb8 rff_0_2) ?_
    refine A_getIf T_ok d_PM_score_30 f_PM_84 (hb_s hb8 sf_2) (fun x26 ex26 _ _ => ?_)
    refine A_putIv T_ok d_PM_score_33 f_PM_31 (hb_s hb8 sf_0) fin_f (fun h27 e27 => ?_)
    refine A_pc (pc' := 36) rfl ?_
    refine A_bipush d_PM_score_36 rfl ?_
    refine A_iload_n 1 d_PM_score_38 rfl rfl ?_
    refine A_isubv (z := -10 - q.1) d_PM_score_39 (w32_to (by omega) (by unfold i32; omega)) ?_
    refine A_iret d_PM_score_40 (by decide) rfl ⟨_, s, rfl, hb_i hb8 e27, fr_i (fr_w f8 (fun a k w => by omega)) e27 (by decide), by rw [mm_i e27 (by omega), mv_i e8], t, m, a, b, hA, ?_⟩
    rw [es]
    exact ⟨rfl, rfl, q0, by rw [mv_i e27, ex26, mm_i e8 (by omega)]; exact w7, fr_i f8 e27 (Or.inr ⟨rfl, Or.inr rfl⟩)⟩

/-! ===== verification conditions, 510 ===== -/
def B_MD_lay_3 (G : cx_T) (s : Nat) (a1 : Int) (v2 : Int) (h : ah_T) (Q : Option av_T → ah_T → Prop) (X3 : Int → ah_T → Prop) : Prop :=
 ((v2 < 0 → Q none h) ∧ (¬ v2 < 0 → ∀ x2 : Int, x2 = h.2.1 170 1 → -2147483648 ≤ x2 → x2 ≤ 2147483647 → ∀ x3 : Int, x3 = ((Int32.ofInt a1) >>> (Int32.ofInt v2 &&& 31)).toInt → (-2147483648) ≤ x3 → x3 ≤ 2147483647 → ∀ x4 : Int, x4 = ((Int32.ofInt x3) &&& (Int32.ofInt 255)).toInt → (-2147483648) ≤ x4 → x4 ≤ 2147483647 → (0 ≤ x2 ∧ x2 < 2000) ∧ ∀ h6 : ah_T, h6 = st_i h 171 (x2).toNat x4 → ((-2147483648) ≤ (x2 + 1) ∧ (x2 + 1) ≤ 2147483647) ∧ ∀ h10 : ah_T, h10 = st_i h6 170 1 (x2 + 1) → ((-2147483648) ≤ (v2 - 8) ∧ (v2 - 8) ≤ 2147483647) ∧ X3 ((v2 - 8)) h10))
theorem b_MD_lay_3 {G : cx_T} {s : Nat} {a1 : Int} {v2 : Int} {h : ah_T} {Q : Option av_T → ah_T → Prop} {X3 : Int → ah_T → Prop} (hX3 : ∀ (v2 : Int) (h : ah_T), hb s h → X3 v2 h → aw G (rm_R 0 0 0) m_MD_lay 0 0 3 [some (av_R (some 170)), some (av_I a1), some (av_I v2)] [] h Q) (hb0 : hb s h) (H : B_MD_lay_3 G s a1 v2 h Q X3) : aw G (rm_R 0 0 0) m_MD_lay 0 0 3 [some (av_R (some 170)), some (av_I a1), some (av_I v2)] [] h Q := by
  unfold B_MD_lay_3 at H
  have hS : isS s := hb0.2.1
  refine A_iload_n 2 d_MD_lay_3 rfl rfl ?_
  refine A_if_lt (tgt := 39) d_MD_lay_4 (by decide) (fun c => ?_) (fun c => ?_)
  · replace H := H.1 c
    exact A_vret d_MD_lay_39 (by decide) rfl H
  · replace H := H.2 c
    refine A_aload_n 0 d_MD_lay_7 rfl rfl ?_
    refine A_getAv (z := some 171) T_ok d_MD_lay_8 f_MD_7 (hb_s hb0 sf_170) (hb_m hb0 rfm_0) ?_
    refine A_aload_n 0 d_MD_lay_11 rfl rfl ?_
    refine A_getIf T_ok d_MD_lay_12 f_MD_226 (hb_s hb0 sf_170) (fun x2 ex2 lx2 ux2 => ?_)
    replace H := H x2 ex2 lx2 ux2
    refine A_iload_n 1 d_MD_lay_15 rfl rfl ?_
    refine A_pc (pc' := 16) rfl ?_
    refine A_iload_n 2 d_MD_lay_16 rfl rfl ?_
    refine A_ishr d_MD_lay_17 ?_
    refine A_nrI (fun x3 ex3 lx3 ux3 => ?_)
    replace H := H x3 ex3 lx3 ux3
    refine A_sipush d_MD_lay_18 rfl ?_
    refine A_iand d_MD_lay_21 ?_
    refine A_nrI (fun x4 ex4 lx4 ux4 => ?_)
    replace H := H x4 ex4 lx4 ux4
    have g5 := H.1
    replace H := H.2
    refine A_iastoreN d_MD_lay_22 (hb_s hb0 sf_171) g5.1 g5.2 ?_
    refine A_hn (fun h6 eh6 => ?_)
    have hb7 := hb_i hb0 eh6
    replace H := H h6 eh6
    refine A_aload_n 0 d_MD_lay_23 rfl rfl ?_
    refine A_pc (pc' := 24) rfl ?_
    refine A_dupR d_MD_lay_24 ?_
    refine A_getIv (z := x2) T_ok d_MD_lay_25 f_MD_226 (hb_s hb7 sf_170) ((mm_i eh6 (fun q => absurd q.1 (by decide))).trans ex2.symm) ?_
    refine A_iconst d_MD_lay_28 rfl ?_
    have g9 := H.1
    replace H := H.2
    refine A_iaddv (z := (x2 + 1)) d_MD_lay_29 (w32_to (by omega) (by unfold i32; omega)) ?_
    refine A_putI T_ok d_MD_lay_30 f_MD_226 (hb_s hb7 sf_170) fin_f ?_
    refine A_hn (fun h10 eh10 => ?_)
    have hb11 := hb_i hb7 eh10
    replace H := H h10 eh10
    have g12 := H.1
    replace H := H.2
    refine A_iincv (z := (v2 - 8)) (L' := [some (av_R (some 170)), some (av_I a1), some (av_I (v2 - 8))]) d_MD_lay_33 rfl (w32_to (by omega) (by unfold i32; omega)) rfl ?_
    refine A_pc (pc' := 36) rfl ?_
    refine A_goto (tgt := 3) d_MD_lay_36 (by decide) ?_
    refine A_pc (pc' := 3) rfl ?_
    exact hX3 ((v2 - 8)) h10  hb11 H
theorem lp_MD_lay_3 {G : cx_T} {s : Nat} {a1 : Int} {Q : Option av_T → ah_T → Prop} (I : Int → ah_T → Prop) (μ : Int → ah_T → Nat) (hI : ∀ (v2 : Int) (h : ah_T), hb s h → I v2 h → B_MD_lay_3 G s a1 v2 h Q (fun v2' h' => I v2' h' ∧ μ v2' h' < μ v2 h)) : ∀ (v2 : Int) (h : ah_T), hb s h → I v2 h → aw G (rm_R 0 0 0) m_MD_lay 0 0 3 [some (av_R (some 170)), some (av_I a1), some (av_I v2)] [] h Q := by
  have key : ∀ (n : Nat) (v2 : Int) (h : ah_T), hb s h → I v2 h → μ v2 h < n → aw G (rm_R 0 0 0) m_MD_lay 0 0 3 [some (av_R (some 170)), some (av_I a1), some (av_I v2)] [] h Q := by
    intro n
    induction n with
    | zero => intro v2 h  hb0 hi hm; omega
    | succ n ih => intro v2 h  hb0 hi hm; exact b_MD_lay_3  (fun v2' h'  hb' hx => ih v2' h'  hb' hx.1 (by have := hx.2; omega))  hb0 (hI v2 h  hb0 hi)
  exact fun v2 h  hb0 hi => key _ v2 h  hb0 hi (Nat.lt_succ_self _)
def B_MD_lay_0 (G : cx_T) (s : Nat) (a1 : Int) (h : ah_T) (Q : Option av_T → ah_T → Prop) (X3 : Int → ah_T → Prop) : Prop :=
 X3 (24) h
theorem b_MD_lay_0 {G : cx_T} {s : Nat} {a1 : Int} {h : ah_T} {Q : Option av_T → ah_T → Prop} {X3 : Int → ah_T → Prop} (hX3 : ∀ (v2 : Int) (h : ah_T), hb s h → X3 v2 h → aw G (rm_R 0 0 0) m_MD_lay 0 0 3 [some (av_R (some 170)), some (av_I a1), some (av_I v2)] [] h Q) (hb0 : hb s h) (H : B_MD_lay_0 G s a1 h Q X3) : aw G (rm_R 0 0 0) m_MD_lay 0 0 0 [some (av_R (some 170)), some (av_I a1), none] [] h Q := by
  unfold B_MD_lay_0 at H
  have hS : isS s := hb0.2.1
  refine A_bipush d_MD_lay_0 rfl ?_
  refine A_istore_n 2 (L' := [some (av_R (some 170)), some (av_I a1), some (av_I 24)]) d_MD_lay_2 rfl (Nat.le_of_ble_eq_true rfl) rfl ?_
  refine A_pc (pc' := 3) rfl ?_
  exact hX3 (24) h  hb0 H
theorem c_MD_lay {G : cx_T} {s : Nat} {a1 : Int} {h : ah_T} {Q : Option av_T → ah_T → Prop} {X3 : Int → ah_T → Prop} (hX3 : ∀ (v2 : Int) (h : ah_T), hb s h → X3 v2 h → aw G (rm_R 0 0 0) m_MD_lay 0 0 3 [some (av_R (some 170)), some (av_I a1), some (av_I v2)] [] h Q) (hb0 : hb s h) (H : i32 a1 → B_MD_lay_0 G s a1 h Q X3) : con G 0 0 0 m_MD_lay [av_R (some 170), av_I a1] h Q := by
  have hS : isS s := hb0.2.1
  refine con_of (L := [some (av_R (some 170)), some (av_I a1), none]) (by decide +kernel) (Nat.le_of_ble_eq_true rfl) rfl ?_
  refine A_locI 1 rfl (fun ra1 => ?_)
  exact b_MD_lay_0  hX3 hb0 (H ra1)
def B_MD_feed_0 (G : cx_T) (s : Nat) (a1 : Int) (a2 : Int) (a3 : Int) (a4 : Int) (a5 : Int) (h : ah_T) (Q : Option av_T → ah_T → Prop) : Prop :=
 ∀ x1 : Int, x1 = h.2.1 170 1 → -2147483648 ≤ x1 → x1 ≤ 2147483647 → ((-2147483648) ≤ (x1 + 20) ∧ (x1 + 20) ≤ 2147483647) ∧ (((x1 + 20) ≤ 2000 → con G 0 0 0 m_MD_lay [av_R (some 170), av_I a1] h (fun r h3 => r = none ∧ hb s h3 ∧ con G 0 0 0 m_MD_lay [av_R (some 170), av_I a2] h3 (fun r h6 => r = none ∧ hb s h6 ∧ con G 0 0 0 m_MD_lay [av_R (some 170), av_I a3] h6 (fun r h9 => r = none ∧ hb s h9 ∧ con G 0 0 0 m_MD_lay [av_R (some 170), av_I a4] h9 (fun r h12 => r = none ∧ hb s h12 ∧ con G 0 0 0 m_MD_lay [av_R (some 170), av_I a5] h12 (fun r h15 => r = none ∧ hb s h15 ∧ ∀ x18 : Int, x18 = h15.2.1 170 1 → -2147483648 ≤ x18 → x18 ≤ 2147483647 → Q (some (av_I x18)) h15)))))) ∧ (¬ (x1 + 20) ≤ 2000 → Q (some (av_I (-3))) h))
theorem b_MD_feed_0 {G : cx_T} {s : Nat} {a1 : Int} {a2 : Int} {a3 : Int} {a4 : Int} {a5 : Int} {h : ah_T} {Q : Option av_T → ah_T → Prop} (hb0 : hb s h) (H : B_MD_feed_0 G s a1 a2 a3 a4 a5 h Q ) : aw G (rm_R 1 0 0) m_MD_feed 0 0 0 [some (av_R (some 170)), some (av_I a1), some (av_I a2), some (av_I a3), some (av_I a4), some (av_I a5)] [] h Q := by
  unfold B_MD_feed_0 at H
  have hS : isS s := hb0.2.1
  refine A_aload_n 0 d_MD_feed_0 rfl rfl ?_
  refine A_getIf T_ok d_MD_feed_1 f_MD_226 (hb_s hb0 sf_170) (fun x1 ex1 lx1 ux1 => ?_)
  replace H := H x1 ex1 lx1 ux1
  refine A_bipush d_MD_feed_4 rfl ?_
  have g2 := H.1
  replace H := H.2
  refine A_iaddv (z := (x1 + 20)) d_MD_feed_6 (w32_to (by omega) (by unfold i32; omega)) ?_
  refine A_sipush d_MD_feed_7 rfl ?_
  refine A_pc (pc' := 10) rfl ?_
  refine A_icmp_le (tgt := 16) d_MD_feed_10 (by decide) (fun c => ?_) (fun c => ?_)
  · replace H := H.1 c
    refine A_aload_n 0 d_MD_feed_16 rfl rfl ?_
    refine A_iload_n 1 d_MD_feed_17 rfl rfl ?_
    refine A_callV1 m_MD_lay T_ok d_MD_feed_18 l_MD_229 k_MD_lay (hb_s hb0 sf_170) rfl (by decide +kernel) (by decide) (Nat.le_of_ble_eq_true rfl) H (fun r h3 hq => ?_)
    clear H
    obtain ⟨rfl, hb4, H⟩ := hq
    refine A_aload_n 0 d_MD_feed_21 rfl rfl ?_
    refine A_iload_n 2 d_MD_feed_22 rfl rfl ?_
    refine A_callV1 m_MD_lay T_ok d_MD_feed_23 l_MD_229 k_MD_lay (hb_s hb4 sf_170) rfl (by decide +kernel) (by decide) (Nat.le_of_ble_eq_true rfl) H (fun r h6 hq => ?_)
    clear H
    obtain ⟨rfl, hb7, H⟩ := hq
    refine A_aload_n 0 d_MD_feed_26 rfl rfl ?_
    refine A_iload_n 3 d_MD_feed_27 rfl rfl ?_
    refine A_callV1 m_MD_lay T_ok d_MD_feed_28 l_MD_229 k_MD_lay (hb_s hb7 sf_170) rfl (by decide +kernel) (by decide) (Nat.le_of_ble_eq_true rfl) H (fun r h9 hq => ?_)
    clear H
    obtain ⟨rfl, hb10, H⟩ := hq
    refine A_aload_n 0 d_MD_feed_31 rfl rfl ?_
    refine A_iload d_MD_feed_32 rfl ?_
    refine A_callV1 m_MD_lay T_ok d_MD_feed_34 l_MD_229 k_MD_lay (hb_s hb10 sf_170) rfl (by decide +kernel) (by decide) (Nat.le_of_ble_eq_true rfl) H (fun r h12 hq => ?_)
    clear H
    obtain ⟨rfl, hb13, H⟩ := hq
    refine A_aload_n 0 d_MD_feed_37 rfl rfl ?_
    refine A_iload d_MD_feed_38 rfl ?_
    refine A_callV1 m_MD_lay T_ok d_MD_feed_40 l_MD_229 k_MD_lay (hb_s hb13 sf_170) rfl (by decide +kernel) (by decide) (Nat.le_of_ble_eq_true rfl) H (fun r h15 hq => ?_)
    clear H
    obtain ⟨rfl, hb16, H⟩ := hq
    refine A_aload_n 0 d_MD_feed_43 rfl rfl ?_
    refine A_getIf T_ok d_MD_feed_44 f_MD_226 (hb_s hb16 sf_170) (fun x18 ex18 lx18 ux18 => ?_)
    replace H := H x18 ex18 lx18 ux18
    exact A_iret d_MD_feed_47 (by decide) rfl H
  · replace H := H.2 c
    refine A_bipush d_MD_feed_13 rfl ?_
    exact A_iret d_MD_feed_15 (by decide) rfl H
theorem c_MD_feed {G : cx_T} {s : Nat} {a1 : Int} {a2 : Int} {a3 : Int} {a4 : Int} {a5 : Int} {h : ah_T} {Q : Option av_T → ah_T → Prop} (hb0 : hb s h) (H : i32 a1 → i32 a2 → i32 a3 → i32 a4 → i32 a5 → B_MD_feed_0 G s a1 a2 a3 a4 a5 h Q ) : con G 1 0 0 m_MD_feed [av_R (some 170), av_I a1, av_I a2, av_I a3, av_I a4, av_I a5] h Q := by
  have hS : isS s := hb0.2.1
  refine con_of (L := [some (av_R (some 170)), some (av_I a1), some (av_I a2), some (av_I a3), some (av_I a4), some (av_I a5)]) (by decide +kernel) (Nat.le_of_ble_eq_true rfl) rfl ?_
  refine A_locI 1 rfl (fun ra1 => ?_)
  refine A_locI 2 rfl (fun ra2 => ?_)
  refine A_locI 3 rfl (fun ra3 => ?_)
  refine A_locI 4 rfl (fun ra4 => ?_)
  refine A_locI 5 rfl (fun ra5 => ?_)
  exact b_MD_feed_0   hb0 (H ra1 ra2 ra3 ra4 ra5)
def B_MD_cut_12 (G : cx_T) (s : Nat) (a1 : Int) (h : ah_T) (Q : Option av_T → ah_T → Prop) : Prop :=
 Q (some (av_I (-1))) h
theorem b_MD_cut_12 {G : cx_T} {s : Nat} {a1 : Int} {h : ah_T} {Q : Option av_T → ah_T → Prop} (hb0 : hb s h) (H : B_MD_cut_12 G s a1 h Q ) : aw G (rm_R 0 0 0) m_MD_cut 0 0 12 [none, none] [] h Q := by
  unfold B_MD_cut_12 at H
  have hS : isS s := hb0.2.1
  refine A_iconst d_MD_cut_12 rfl ?_
  exact A_iret d_MD_cut_13 (by decide) rfl H
def B_MD_cut_0 (G : cx_T) (s : Nat) (a1 : Int) (h : ah_T) (Q : Option av_T → ah_T → Prop) : Prop :=
 ((a1 < 0 → B_MD_cut_12 G s a1 h Q ) ∧ (¬ a1 < 0 → ∀ x1 : Int, x1 = h.2.1 170 1 → -2147483648 ≤ x1 → x1 ≤ 2147483647 → ((a1 ≤ x1 → ((-2147483648) ≤ (x1 - a1) ∧ (x1 - a1) ≤ 2147483647) ∧ ∀ h4 : ah_T, h4 = st_i h 170 1 (x1 - a1) → Q (some (av_I (x1 - a1))) h4) ∧ (¬ a1 ≤ x1 → B_MD_cut_12 G s a1 h Q ))))
theorem b_MD_cut_0 {G : cx_T} {s : Nat} {a1 : Int} {h : ah_T} {Q : Option av_T → ah_T → Prop} (hb0 : hb s h) (H : B_MD_cut_0 G s a1 h Q ) : aw G (rm_R 0 0 0) m_MD_cut 0 0 0 [some (av_R (some 170)), some (av_I a1)] [] h Q := by
  unfold B_MD_cut_0 at H
  have hS : isS s := hb0.2.1
  refine A_iload_n 1 d_MD_cut_0 rfl rfl ?_
  refine A_if_lt (tgt := 12) d_MD_cut_1 (by decide) (fun c => ?_) (fun c => ?_)
  · replace H := H.1 c
    refine A_pc (pc' := 12) rfl ?_
    refine A_free (L' := [none, none]) trivial ?_
    exact b_MD_cut_12    hb0 H
  · replace H := H.2 c
    refine A_iload_n 1 d_MD_cut_4 rfl rfl ?_
    refine A_aload_n 0 d_MD_cut_5 rfl rfl ?_
    refine A_getIf T_ok d_MD_cut_6 f_MD_226 (hb_s hb0 sf_170) (fun x1 ex1 lx1 ux1 => ?_)
    replace H := H x1 ex1 lx1 ux1
    refine A_icmp_le (tgt := 14) d_MD_cut_9 (by decide) (fun c => ?_) (fun c => ?_)
    · replace H := H.1 c
      refine A_aload_n 0 d_MD_cut_14 rfl rfl ?_
      refine A_dupR d_MD_cut_15 ?_
      refine A_getIv (z := x1) T_ok d_MD_cut_16 f_MD_226 (hb_s hb0 sf_170) ex1.symm ?_
      refine A_iload_n 1 d_MD_cut_19 rfl rfl ?_
      have g3 := H.1
      replace H := H.2
      refine A_isubv (z := (x1 - a1)) d_MD_cut_20 (w32_to (by omega) (by unfold i32; omega)) ?_
      refine A_pc (pc' := 21) rfl ?_
      refine A_putI T_ok d_MD_cut_21 f_MD_226 (hb_s hb0 sf_170) fin_f ?_
      refine A_hn (fun h4 eh4 => ?_)
      have hb5 := hb_i hb0 eh4
      replace H := H h4 eh4
      refine A_aload_n 0 d_MD_cut_24 rfl rfl ?_
      refine A_getIv (z := (x1 - a1)) T_ok d_MD_cut_25 f_MD_226 (hb_s hb5 sf_170) (mv_i eh4) ?_
      exact A_iret d_MD_cut_28 (by decide) rfl H
    · replace H := H.2 c
      refine A_pc (pc' := 12) rfl ?_
      refine A_free (L' := [none, none]) trivial ?_
      exact b_MD_cut_12    hb0 H
theorem c_MD_cut {G : cx_T} {s : Nat} {a1 : Int} {h : ah_T} {Q : Option av_T → ah_T → Prop} (hb0 : hb s h) (H : i32 a1 → B_MD_cut_0 G s a1 h Q ) : con G 0 0 0 m_MD_cut [av_R (some 170), av_I a1] h Q := by
  have hS : isS s := hb0.2.1
  refine con_of (L := [some (av_R (some 170)), some (av_I a1)]) (by decide +kernel) (Nat.le_of_ble_eq_true rfl) rfl ?_
  refine A_locI 1 rfl (fun ra1 => ?_)
  exact b_MD_cut_0   hb0 (H ra1)

/-! ===== the reference: the tape, byte by byte ===== -/
theorem ss_b (A : BitVec 32) (n : Nat) (hn : n ≤ 24) : A.sshiftRight n &&& 255#32 = A >>> n &&& 255#32 := by
  have k : ∀ i, i < 32 → (255#32).getLsbD i = decide (i < 8) := by decide
  apply BitVec.eq_of_getLsbD_eq
  intro i hi
  rw [BitVec.getLsbD_and, BitVec.getLsbD_and, k i hi]
  by_cases c : i < 8
  · rw [BitVec.getLsbD_sshiftRight, BitVec.getLsbD_ushiftRight]
    have h1 : n + i < 32 := by omega
    have h2 : ¬ 32 ≤ i := by omega
    simp [h1, h2]
  · simp [c]
theorem mby (a : Int) (i : Nat) (hi : i < 4) : ((Int32.ofInt (((Int32.ofInt a) >>> (Int32.ofInt (24 - 8 * (i : Int)) &&& 31)).toInt)) &&& (Int32.ofInt 255)).toInt = byt a i := by
  unfold byt an_I us_I
  rw [Int32.ofInt_toInt, Int32.ofInt_toInt]
  generalize Int32.ofInt a = A
  congr 1
  apply Int32.toBitVec_inj.mp
  have e : ∀ n : Nat, n ≤ 24 → A.toBitVec.sshiftRight n &&& 255#32 = A.toBitVec >>> n &&& 255#32 := fun n hn => ss_b _ n hn
  obtain rfl | rfl | rfl | rfl : i = 0 ∨ i = 1 ∨ i = 2 ∨ i = 3 := by omega
  · exact e 24 (by decide)
  · exact e 16 (by decide)
  · exact e 8 (by decide)
  · exact e 0 (by decide)
theorem byt_b (a : Int) (i : Nat) : 0 ≤ byt a i ∧ byt a i ≤ 255 := and_r (m := 255) 8 rfl (by decide) (by decide) (by decide)
theorem fdb_b (a b c d e : Int) (j : Nat) : 0 ≤ fdb a b c d e j ∧ fdb a b c d e j ≤ 255 := by
  unfold fdb
  split
  · exact byt_b _ _
  split
  · exact byt_b _ _
  split
  · exact byt_b _ _
  split
  · exact byt_b _ _
  · exact byt_b _ _
abbrev WLy (k n : Nat) : Nat → Nat → Prop := fun x j => (x = 170 ∧ j = 1) ∨ (x = 171 ∧ k ≤ j ∧ j < k + n)
theorem t_MD_lay {G : cx_T} {s k : Nat} {h : ah_T} {a : Int} (hb0 : hb s h) (hk : h.2.1 170 1 = (k : Int)) (hk2 : k + 4 ≤ 2000) : con G 0 0 0 m_MD_lay [av_R (some 170), av_I a] h (fun r h' => r = none ∧ hb s h' ∧ fr (WLy k 4) h h' ∧ h'.2.1 170 1 = (k : Int) + 4 ∧ ∀ i, i < 4 → h'.2.1 171 (k + i) = byt a i) := by
  refine c_MD_lay (X3 := fun v2 hh => ∃ i : Nat, i ≤ 4 ∧ v2 = 24 - 8 * (i : Int) ∧ hh.2.1 170 1 = (k : Int) + i ∧ fr (WLy k 4) h hh ∧ ∀ j, j < i → hh.2.1 171 (k + j) = byt a j) ?_ hb0 (fun _ => ?_)
  · refine lp_MD_lay_3 (a1 := a) _ (fun v2 _ => (v2 + 8).toNat) ?_
    rintro v2 hh hb1 ⟨i, hi, rfl, hki, hf, hby⟩
    unfold B_MD_lay_3
    refine ⟨fun c => ?_, fun c x2 e2 _ _ x3 e3 _ _ x4 e4 _ _ => ⟨by omega, fun h6 e6 => ⟨⟨by omega, by omega⟩, fun h10 e10 => ⟨⟨by omega, by omega⟩, ⟨i + 1, by omega, by omega, by rw [mv_i e10]; omega, fr_i (fr_i hf e6 (by omega)) e10 (by omega), fun j hj => ?_⟩, by omega⟩⟩⟩⟩
    · have hi4 : i = 4 := by omega
      subst hi4
      exact ⟨rfl, hb1, hf, by rw [hki]; rfl, hby⟩
    · have ek : x2.toNat = k + i := by omega
      rw [ek] at e6
      rw [mm_i e10 (by omega)]
      by_cases c2 : j = i
      · rw [c2, mv_i e6, e4, e3]; exact mby a i (by omega)
      · rw [mm_i e6 (by omega)]; exact hby j (by omega)
  · unfold B_MD_lay_0
    exact ⟨0, by decide, rfl, by rw [hk]; omega, fr_0, fun j hj => by omega⟩
theorem t_MD_feed {G : cx_T} {s k : Nat} {h : ah_T} {a b c d e : Int} (hb0 : hb s h) (hk : h.2.1 170 1 = (k : Int)) (hk2 : k ≤ 2000) : con G 1 0 0 m_MD_feed [av_R (some 170), av_I a, av_I b, av_I c, av_I d, av_I e] h (fun r h' => hb s h' ∧ ((k + 20 ≤ 2000 ∧ r = some (av_I ((k : Int) + 20)) ∧ fr (WLy k 20) h h' ∧ h'.2.1 170 1 = (k : Int) + 20 ∧ ∀ j, j < 20 → h'.2.1 171 (k + j) = fdb a b c d e j) ∨ (¬ k + 20 ≤ 2000 ∧ r = some (av_I (-3)) ∧ h' = h))) := by
  refine c_MD_feed hb0 (fun _ _ _ _ _ => ?_)
  unfold B_MD_feed_0
  intro x1 e1 _ _
  obtain rfl : x1 = (k : Int) := e1.trans hk
  refine ⟨⟨by omega, by omega⟩, fun w => ?_, fun w => ⟨hb0, Or.inr ⟨by omega, rfl, rfl⟩⟩⟩
  refine con_mono (t_MD_lay hb0 hk (by omega)) ?_
  rintro r h3 ⟨rfl, hb3, f3, k3, y3⟩
  refine ⟨rfl, hb3, con_mono (t_MD_lay (k := k + 4) hb3 (by rw [k3]; omega) (by omega)) ?_⟩
  rintro r h6 ⟨rfl, hb6, f6, k6, y6⟩
  refine ⟨rfl, hb6, con_mono (t_MD_lay (k := k + 8) hb6 (by rw [k6]; omega) (by omega)) ?_⟩
  rintro r h9 ⟨rfl, hb9, f9, k9, y9⟩
  refine ⟨rfl, hb9, con_mono (t_MD_lay (k := k + 12) hb9 (by rw [k9]; omega) (by omega)) ?_⟩
  rintro r h12 ⟨rfl, hb12, f12, k12, y12⟩
  refine ⟨rfl, hb12, con_mono (t_MD_lay (k := k + 16) hb12 (by rw [k12]; omega) (by omega)) ?_⟩
  rintro r h15 ⟨rfl, hb15, f15, k15, y15⟩
  refine ⟨rfl, hb15, fun x18 e18 _ _ => ⟨hb15, Or.inl ⟨by omega, ?_, ?_, by rw [k15]; omega, fun j hj => ?_⟩⟩⟩
  · have : x18 = (k : Int) + 20 := by rw [e18, k15]; omega
    rw [this]
  · exact fr_t (fr_t (fr_t (fr_t (fr_w f3 (fun a k w => by unfold WLy at *; omega)) f6 (fun a k w => by unfold WLy at *; omega)) f9 (fun a k w => by unfold WLy at *; omega)) f12 (fun a k w => by unfold WLy at *; omega)) f15 (fun a k w => by unfold WLy at *; omega)
  · unfold fdb
    by_cases c1 : j < 4
    · rw [if_pos c1, fr_g f15 (by omega), fr_g f12 (by omega), fr_g f9 (by omega), fr_g f6 (by omega)]; exact y3 j c1
    rw [if_neg c1]
    by_cases c2 : j < 8
    · rw [if_pos c2, fr_g f15 (by omega), fr_g f12 (by omega), fr_g f9 (by omega)]
      have := y6 (j - 4) (by omega)
      rw [show k + 4 + (j - 4) = k + j by omega] at this; exact this
    rw [if_neg c2]
    by_cases c3 : j < 12
    · rw [if_pos c3, fr_g f15 (by omega), fr_g f12 (by omega)]
      have := y9 (j - 8) (by omega)
      rw [show k + 8 + (j - 8) = k + j by omega] at this; exact this
    rw [if_neg c3]
    by_cases c4 : j < 16
    · rw [if_pos c4, fr_g f15 (by omega)]
      have := y12 (j - 12) (by omega)
      rw [show k + 12 + (j - 12) = k + j by omega] at this; exact this
    rw [if_neg c4]
    have := y15 (j - 16) (by omega)
    rw [show k + 16 + (j - 16) = k + j by omega] at this; exact this
theorem t_MD_cut {G : cx_T} {s k : Nat} {h : ah_T} {a : Int} (hb0 : hb s h) (hk : h.2.1 170 1 = (k : Int)) (hk2 : k ≤ 2000) : con G 0 0 0 m_MD_cut [av_R (some 170), av_I a] h (fun r h' => hb s h' ∧ ((0 ≤ a ∧ a ≤ k ∧ r = some (av_I ((k : Int) - a)) ∧ fr (fun x j => x = 170 ∧ j = 1) h h' ∧ h'.2.1 170 1 = (k : Int) - a) ∨ (¬ (0 ≤ a ∧ a ≤ k) ∧ r = some (av_I (-1)) ∧ h' = h))) := by
  refine c_MD_cut hb0 (fun _ => ?_)
  unfold B_MD_cut_0 B_MD_cut_12
  refine ⟨fun c => ⟨hb0, Or.inr ⟨by omega, rfl, rfl⟩⟩, fun c x1 e1 _ _ => ?_⟩
  obtain rfl : x1 = (k : Int) := e1.trans hk
  exact ⟨fun c1 => ⟨⟨by omega, by omega⟩, fun h4 e4 => ⟨hb_i hb0 e4, Or.inl ⟨by omega, c1, rfl, fr_i fr_0 e4 ⟨rfl, rfl⟩, mv_i e4⟩⟩⟩, fun c1 => ⟨hb0, Or.inr ⟨by omega, rfl, rfl⟩⟩⟩

/-! ===== two heaps that tell one: the cells that are there ===== -/
def isIT (t : FieldType) : Bool := match t with
  | .long => false
  | .object _ => false
  | .array _ => false
  | _ => true
def icb (a k : Nat) : Bool := match sh_L[a]? with
  | some (0, n) => decide (k < n)
  | some (2, n) => decide (k < n)
  | some (c + 4, n) => decide (k < n) && isIT (f_ty c k)
  | _ => false
def lcb (a k : Nat) : Bool := match sh_L[a]? with
  | some (1, n) => decide (k < n)
  | _ => false
def rcb (a k : Nat) : Bool := match sh_L[a]? with
  | some (c + 4, n) => decide (k < n) && (match f_ty c k with
    | .object _ => true
    | _ => false)
  | _ => false
def agI (h1 h2 : ah_T) : Prop := ∀ a k, icb a k = true → h2.2.1 a k = h1.2.1 a k
def agL (h1 h2 : ah_T) : Prop := ∀ a k, lcb a k = true → h2.2.2.1 a k = h1.2.2.1 a k
def agR (h1 h2 : ah_T) : Prop := ∀ a k, rcb a k = true → h2.2.2.2 a k = h1.2.2.2 a k
theorem arrV_eq {c1 c2 : ClassId} {n k : Nat} {f g : Nat → Value} (e : arrV c1 n f = arrV c2 n g) (hk : k < n) : f k = g k := by
  have h1 := arrV_read c1 f hk
  rw [e, arrV_read c2 g hk] at h1
  exact (Option.some.inj h1).symm
theorem ob_eq {o n k : Nat} {cC : ClassId} {iS : Nat → Nat} {H : Heap} {V W : Nat → Value} (h1 : t_OB o cC n iS H V) (h2 : t_OB o cC n iS H W) (hk : k < n) : V k = W k := by
  obtain ⟨c1, e1, -, -, q1⟩ := h1
  obtain ⟨c2, e2, -, -, q2⟩ := h2
  rw [e1] at e2
  obtain rfl := Option.some.inj e2
  have := q1 k hk
  rw [q2 k hk] at this
  exact (Option.some.inj this).symm
theorem fv_i {b : Nat} {t : FieldType} {fi fl : Nat → Int} {fr : Nat → Option Nat} {k : Nat} (h : isIT t = true) : fv_V b t fi fl fr k = .int (Int32.ofInt (fi k)) := by
  unfold isIT at h
  cases t <;> first | rfl | (simp at h; done)
theorem agI_of {G : cx_T} {h1 h2 : ah_T} (e1 : h1.1 = sh_L) (e2 : h2.1 = sh_L) (S : sameH G h1 h2) : agI h1 h2 := by
  obtain ⟨t, ⟨-, C1, -, r1, -⟩, ⟨-, C2, -, r2, -⟩⟩ := S
  intro a k hk
  have fin : (Value.int (Int32.ofInt (h2.2.1 a k))) = .int (Int32.ofInt (h1.2.1 a k)) → h2.2.1 a k = h1.2.1 a k := fun e => (i32_eq (r2 a k) (r1 a k)).mp (by injection e)
  unfold icb at hk
  split at hk
  · rename_i n hs
    have c1 : _ = _ := C1 a 0 n (by rw [e1]; exact hs)
    have c2 : _ = _ := C2 a 0 n (by rw [e2]; exact hs)
    rw [c1] at c2
    exact fin (arrV_eq (Option.some.inj c2) (of_decide_eq_true hk)).symm
  · rename_i n hs
    have c1 := (show _ ∧ _ from C1 a 2 n (by rw [e1]; exact hs)).1
    have c2 := (show _ ∧ _ from C2 a 2 n (by rw [e2]; exact hs)).1
    rw [c1] at c2
    exact fin (arrV_eq (Option.some.inj c2) (of_decide_eq_true hk)).symm
  · rename_i c n hs
    rw [Bool.and_eq_true] at hk
    obtain ⟨_, -, -, c1, -⟩ := (show ∃ r : vw_C, _ from C1 a (c + 4) n (by rw [e1]; exact hs))
    obtain ⟨_, -, -, c2, -⟩ := (show ∃ r : vw_C, _ from C2 a (c + 4) n (by rw [e2]; exact hs))
    have e := ob_eq c2 c1 (of_decide_eq_true hk.1)
    rw [fv_i hk.2, fv_i hk.2] at e
    exact fin e
  · exact absurd hk (by decide)
theorem agL_of {G : cx_T} {h1 h2 : ah_T} (e1 : h1.1 = sh_L) (e2 : h2.1 = sh_L) (S : sameH G h1 h2) : agL h1 h2 := by
  obtain ⟨t, ⟨-, C1, -, -, r1⟩, ⟨-, C2, -, -, r2⟩⟩ := S
  intro a k hk
  have fin : (Value.long (Int64.ofInt (h2.2.2.1 a k))) = .long (Int64.ofInt (h1.2.2.1 a k)) → h2.2.2.1 a k = h1.2.2.1 a k := fun e => (i64_eq (r2 a k) (r1 a k)).mp (by injection e)
  unfold lcb at hk
  split at hk
  · rename_i n hs
    have c1 : _ = _ := C1 a 1 n (by rw [e1]; exact hs)
    have c2 : _ = _ := C2 a 1 n (by rw [e2]; exact hs)
    rw [c1] at c2
    exact fin (arrV_eq (Option.some.inj c2) (of_decide_eq_true hk)).symm
  · exact absurd hk (by decide)
theorem agR_of {G : cx_T} {h1 h2 : ah_T} (e1 : h1.1 = sh_L) (e2 : h2.1 = sh_L) (S : sameH G h1 h2) : agR h1 h2 := by
  obtain ⟨t, ⟨-, C1, -, -, -⟩, ⟨-, C2, -, -, -⟩⟩ := S
  intro a k hk
  unfold rcb at hk
  split at hk
  · rename_i c n hs
    rw [Bool.and_eq_true] at hk
    obtain ⟨_, -, -, c1, -⟩ := (show ∃ r : vw_C, _ from C1 a (c + 4) n (by rw [e1]; exact hs))
    obtain ⟨_, -, -, c2, -⟩ := (show ∃ r : vw_C, _ from C2 a (c + 4) n (by rw [e2]; exact hs))
    have e := ob_eq c2 c1 (of_decide_eq_true hk.1)
    have h2' := hk.2
    split at h2'
    · rename_i t ht
      rw [ht] at e
      unfold fv_V at e
      dsimp only at e
      generalize h2.2.2.2 a k = x at *
      generalize h1.2.2.2 a k = y at *
      cases x <;> cases y <;> simp [va_rf] at e ⊢
      exact e
    · exact absurd h2' (by decide)
  · exact absurd hk (by decide)
theorem ic0 {a n k : Nat} (h : sh_L[a]? = some (0, n)) (hk : k < n) : icb a k = true := by
  unfold icb
  rw [h]
  exact decide_eq_true hk
theorem ic2 {a n k : Nat} (h : sh_L[a]? = some (2, n)) (hk : k < n) : icb a k = true := by
  unfold icb
  rw [h]
  exact decide_eq_true hk
theorem lc1 {a n k : Nat} (h : sh_L[a]? = some (1, n)) (hk : k < n) : lcb a k = true := by
  unfold lcb
  rw [h]
  exact decide_eq_true hk
theorem shV {v : Nat} (hv : isV v) : sh_L[v]? = some (14, 17) ∧ sh_L[v + 1]? = some (0, 300) ∧ sh_L[v + 2]? = some (0, 300) ∧ sh_L[v + 3]? = some (0, 301) ∧ sh_L[v + 4]? = some (0, 300) ∧ sh_L[v + 5]? = some (0, 300) ∧ sh_L[v + 6]? = some (2, 300) ∧ sh_L[v + 7]? = some (0, 300) ∧ sh_L[v + 8]? = some (0, 300) ∧ sh_L[v + 9]? = some (1, 301) ∧ sh_L[v + 10]? = some (1, 301) ∧ sh_L[v + 11]? = some (1, 300) ∧ sh_L[v + 12]? = some (1, 300) ∧ sh_L[v + 13]? = some (0, 102) := by
  rcases hv with rfl | rfl | rfl | rfl | rfl | rfl | rfl | rfl <;> decide +kernel
theorem iV {v : Nat} (hv : isV v) : icb v 14 = true ∧ icb v 16 = true := by
  rcases hv with rfl | rfl | rfl | rfl | rfl | rfl | rfl | rfl <;> decide +kernel
theorem sS {c : Nat} (hc : isS c) : (sh_L[c + 2]? = some (0, 8) ∧ sh_L[c + 3]? = some (0, 24) ∧ sh_L[c + 4]? = some (0, 24) ∧ sh_L[c + 5]? = some (0, 24) ∧ sh_L[c + 6]? = some (0, 12)) ∧ (icb c 1 = true ∧ icb c 2 = true ∧ icb c 3 = true ∧ icb c 6 = true ∧ icb c 10 = true ∧ icb c 12 = true) := by
  rcases hc with rfl | rfl <;> decide +kernel
theorem vS {c n : Nat} (hc : isS c) (hn : n < 4) : isV (c + 7 + 14 * n) := by
  unfold isV; unfold isS at hc; omega
theorem rgV {v b : Nat} (hv : isV v) : (rg (v + 3) b).2 = 300 := by
  rcases hv with rfl | rfl | rfl | rfl | rfl | rfl | rfl | rfl <;> rfl
theorem RVo_ag {μ : pm_T} {n v : Nat} {h h' : ah_T} (hv : isV v) (H : RVo μ n v h) (M : MVo μ n) (A : agI h h') (L : agL h h') (q3 : ∀ b, h'.2.1 (v + 3) b ≤ 300) : RVo μ n v h' := by
  obtain ⟨s0, s1, s2, s3, s4, s5, s6, s7, s8, s9, s10, s11, s12, s13⟩ := shV hv
  obtain ⟨i14, i16⟩ := iV hv
  obtain ⟨⟨h1, h1'⟩, ⟨h2, h2'⟩, h3, h4, h5⟩ := H
  have m1 := M.1
  have m2 := M.2.1
  refine ⟨⟨(A _ _ i14).trans h1, (A _ _ i16).trans h1'⟩, ⟨(L _ _ (lc1 s9 (by omega))).trans h2, (L _ _ (lc1 s10 (by omega))).trans h2'⟩, fun e he => ?_, fun b hb => (A _ _ (ic0 s13 (by omega))).trans (h4 b hb), (A _ _ (ic0 s13 (by omega))).trans h5⟩
  obtain ⟨b, q, y1, y2, y3, ⟨z1, z2, z3, z4⟩, ⟨u1, u2⟩, ⟨w1, w2, w3⟩, y7⟩ := h3 e he
  have a1 := (A _ _ (ic0 (k := b + 1) s3 (by omega))).trans u2
  have a2 := q3 (b + 1)
  refine ⟨b, q, y1, (A _ _ (ic0 s7 (by omega))).trans y2, (A _ _ (ic0 s8 (by omega))).trans y3, ⟨(L _ _ (lc1 s9 (by omega))).trans z1, (L _ _ (lc1 s10 (by omega))).trans z2, (L _ _ (lc1 s11 (by omega))).trans z3, (L _ _ (lc1 s12 (by omega))).trans z4⟩, ⟨(A _ _ (ic0 s3 (by omega))).trans u1, a1⟩, ⟨(A _ _ (ic2 s6 (by omega))).trans w1, (A _ _ (ic0 s4 (by omega))).trans w2, (A _ _ (ic0 s5 (by omega))).trans w3⟩, fun p hp => ?_⟩
  obtain ⟨x1, x2⟩ := y7 p hp
  exact ⟨(A _ _ (ic0 s1 (by omega))).trans x1, (A _ _ (ic0 s2 (by omega))).trans x2⟩
theorem CKn_ag {μ : pm_T} {s c : Nat} {h h' : ah_T} (hc : isS c) (H : CKn μ c h) (A : agI h h') (L : agL h h') (hx : xi s h') : CKn μ c h' := by
  obtain ⟨⟨a1, a2, a3, a4, a5, a6⟩, b, l, ru, ro, V⟩ := H
  obtain ⟨⟨s2, s3, s4, s5, s6⟩, i1, i2, i3, i6, i10, i12⟩ := sS hc
  refine ⟨⟨(A _ _ i1).trans a1, (A _ _ i2).trans a2, (A _ _ i3).trans a3, (A _ _ i6).trans a4, (A _ _ i10).trans a5, (A _ _ i12).trans a6⟩, b, fun j hj => (A _ _ (ic0 s2 (by omega))).trans (l j hj), fun j hj => ?_, fun j hj => (A _ _ (ic0 s6 (by omega))).trans (ro j hj), fun n hn => ?_⟩
  · obtain ⟨x1, x2, x3⟩ := ru j hj
    exact ⟨(A _ _ (ic0 s3 (by omega))).trans x1, (A _ _ (ic0 s4 (by omega))).trans x2, (A _ _ (ic0 s5 (by omega))).trans x3⟩
  · have hv : isV (c + 7 + 14 * n) := vS hc (by omega)
    refine ⟨RVo_ag hv (V n hn).1 (V n hn).2 A L (fun b => ?_), (V n hn).2⟩
    have hl : c + 7 + 14 * n + 3 < 170 := by unfold isV at hv; omega
    have := (hx.2.2.2.2.2.2.1 (c + 7 + 14 * n + 3) b hl).2
    rw [rgV hv] at this
    exact this
theorem KSn_ag {μ : pm_T} {h h' : ah_T} (H : KSn μ h) (A : agI h h') (L : agL h h') : KSn μ h' := by
  obtain ⟨⟨a1, a2, a3, a4⟩, ⟨b3, b4, b5, b7⟩, l, ru, ro, vo⟩ := H
  refine ⟨⟨(A _ _ (by decide +kernel)).trans a1, (A _ _ (by decide +kernel)).trans a2, (A _ _ (by decide +kernel)).trans a3, (A _ _ (by decide +kernel)).trans a4⟩, ⟨b3, b4, b5, b7⟩, fun j hj => (A 176 j (ic0 (n := 16) (by decide +kernel) (by omega))).trans (l j hj), fun j hj => ?_, fun j hj => (A 182 j (ic0 (n := 24) (by decide +kernel) (by omega))).trans (ro j hj), fun n hn => ?_⟩
  · obtain ⟨x1, x2, x3⟩ := ru j hj
    exact ⟨(A 178 j (ic0 (n := 48) (by decide +kernel) (by omega))).trans x1, (A 179 j (ic0 (n := 48) (by decide +kernel) (by omega))).trans x2, (A 180 j (ic0 (n := 48) (by decide +kernel) (by omega))).trans x3⟩
  · obtain ⟨⟨h1, h1'⟩, h2, h3, h4, h5, h6⟩ := vo n hn
    refine ⟨⟨(A 185 n (ic0 (n := 8) (by decide +kernel) (by omega))).trans h1, (A 186 n (ic0 (n := 8) (by decide +kernel) (by omega))).trans h1'⟩, h2, fun e he => ?_, fun b hb => ?_, (L 199 _ (lc1 (n := 816) (by decide +kernel) (by omega))).trans h5, (L 200 _ (lc1 (n := 816) (by decide +kernel) (by omega))).trans h6⟩
    · obtain ⟨⟨y1, y2, y3, y4, y5, y6⟩, ⟨z1, z2, z3, z4⟩, b, k⟩ := h3 e he
      refine ⟨⟨(A 191 _ (ic0 (n := 2400) (by decide +kernel) (by omega))).trans y1, (A 195 _ (ic2 (n := 2400) (by decide +kernel) (by omega))).trans y2, (A 196 _ (ic0 (n := 2400) (by decide +kernel) (by omega))).trans y3, (A 197 _ (ic0 (n := 2400) (by decide +kernel) (by omega))).trans y4, (A 198 _ (ic0 (n := 2400) (by decide +kernel) (by omega))).trans y5, (A 194 _ (ic0 (n := 2400) (by decide +kernel) (by omega))).trans y6⟩, ⟨(L 187 _ (lc1 (n := 2400) (by decide +kernel) (by omega))).trans z1, (L 188 _ (lc1 (n := 2400) (by decide +kernel) (by omega))).trans z2, (L 189 _ (lc1 (n := 2400) (by decide +kernel) (by omega))).trans z3, (L 190 _ (lc1 (n := 2400) (by decide +kernel) (by omega))).trans z4⟩, b, fun p hp => ?_⟩
      obtain ⟨x1, x2⟩ := k p hp
      exact ⟨(A 192 _ (ic0 (n := 9600) (by decide +kernel) (by omega))).trans x1, (A 193 _ (ic0 (n := 9600) (by decide +kernel) (by omega))).trans x2⟩
    · obtain ⟨x1, x2⟩ := h4 b hb
      exact ⟨(L 199 _ (lc1 (n := 816) (by decide +kernel) (by omega))).trans x1, (L 200 _ (lc1 (n := 816) (by decide +kernel) (by omega))).trans x2⟩
theorem hb_xm {s : Nat} {h : ah_T} (hx : xi s h) (hm : mi h) : hb s h := ⟨hx.1, hx.2.1, hx.2.2.1, hx.2.2.2.1, hx.2.2.2.2.1, hx.2.2.2.2.2.1, hm.2.1⟩
theorem s_eq {s s' : Nat} {h h' : ah_T} (hx : xi s h) (hb1 : hb s' h') (R : agR h' h) : s = s' := by
  have h1 := R 0 3 (by decide +kernel)
  rw [hx.2.2.1, hb1.2.2.1] at h1
  have a := hx.2.1
  have b := hb1.2.1
  unfold isS at a b
  have := Option.some.inj h1
  omega

/-! ===== the TIME of a score is good ===== -/
def TMg (μ : pm_T) : Prop := (1 ≤ μ 0 1 ∧ μ 0 1 ≤ 32) ∧ (1 ≤ μ 0 2 ∧ μ 0 2 ≤ 32) ∧ pwb (μ 0 2) = true
theorem TMg_k {μ μ' : pm_T} (h : TMg μ) (e1 : μ' 0 1 = μ 0 1) (e2 : μ' 0 2 = μ 0 2) : TMg μ' := by
  unfold TMg
  rw [e1, e2]
  exact h
theorem tg_bn {β γ : Type} {x : F_T ⊕ β} {f : β → F_T ⊕ γ} {y : γ} (h : bnd x f = .inr y) : ∃ b, x = .inr b ∧ f b = .inr y := by
  cases x with
  | inl q => exact absurd h (by simp [bnd])
  | inr b => exact ⟨b, rfl, h⟩
theorem tg_num {t : tk_T} {i : Nat} {m a : Int} {p : Bool} (h : sp_num t i m p = .inr a) : (1 ≤ a ∧ a ≤ m) ∧ (p = false ∨ pwb a = true) := by
  unfold sp_num at h
  split at h
  · split at h
    · rename_i c
      obtain rfl := Sum.inr.inj h
      exact c
    · exact absurd h (by simp)
  · exact absurd h (by simp)
theorem tg_time {t : tk_T} {i : Nat} {μ : pm_T} {q : Nat × pm_T} (h : sp_time t i μ = .inr q) : TMg q.2 := by
  unfold sp_time at h
  split at h
  · obtain ⟨a, ea, h⟩ := tg_bn h
    obtain ⟨_, -, h⟩ := tg_bn h
    obtain ⟨b, eb, h⟩ := tg_bn h
    obtain ⟨_, -, h⟩ := tg_bn h
    obtain rfl := Sum.inr.inj h
    obtain ⟨a1, -⟩ := tg_num ea
    obtain ⟨b1, b2⟩ := tg_num eb
    have e1 : (up2 (up2 (up2 μ 0 0 1) 0 1 a) 0 2 b) 0 1 = a := by simp [up2]
    have e2 : (up2 (up2 (up2 μ 0 0 1) 0 1 a) 0 2 b) 0 2 = b := by simp [up2]
    show TMg (up2 (up2 (up2 μ 0 0 1) 0 1 a) 0 2 b)
    unfold TMg
    rw [e1, e2]
    exact ⟨a1, b1, b2.elim (fun c => absurd c (by decide)) id⟩
  · exact absurd h (by simp)
theorem tg_pits {t : tk_T} : ∀ (f i : Nat) (μ : pm_T) (q : Nat × pm_T), sp_pits t f i μ = .inr q → TMg μ → TMg q.2
  | 0, _, _, _, h, _ => absurd h (by simp [sp_pits])
  | f + 1, i, μ, q, h, T => by
    have T' : TMg (pit t i μ) := TMg_k T (by simp [pit, up2]) (by simp [pit, up2])
    rw [sp_pits] at h
    split at h
    · split at h
      · exact absurd h (by simp)
      · split at h
        · obtain rfl := Sum.inr.inj h
          exact T'
        · exact tg_pits f _ _ _ h T'
    · exact absurd h (by simp)
theorem tg_name {t : tk_T} {i : Nat} {μ : pm_T} {q : Int × pm_T} (h : sp_name t i μ = .inr q) (T : TMg μ) : TMg q.2 := by
  unfold sp_name at h
  split at h
  · split at h
    · obtain rfl := Sum.inr.inj h
      exact T
    · split at h
      · exact absurd h (by simp)
      · obtain rfl := Sum.inr.inj h
        exact TMg_k T (by simp [up2]) (by simp [up2])
  · exact absurd h (by simp)
theorem tg_rows {t : tk_T} : ∀ (f i : Nat) (μ : pm_T) (q : Nat × pm_T), sp_rows t f i μ = .inr q → TMg μ → TMg q.2
  | 0, _, _, _, h, _ => absurd h (by simp [sp_rows])
  | f + 1, i, μ, q, h, T => by
    rw [sp_rows] at h
    split at h
    · split at h
      · obtain ⟨a, ea, h⟩ := tg_bn h
        have T' : TMg (rowa a.2 a.1) := TMg_k (tg_name ea T) (by simp [rowa, up2]) (by simp [rowa, up2])
        split at h
        · obtain rfl := Sum.inr.inj h
          exact T'
        · exact tg_rows f _ _ _ h T'
      · exact absurd h (by simp)
    · exact absurd h (by simp)
theorem tg_addr {μ : pm_T} {a b c : Int} (T : TMg μ) : TMg (addr μ a b c) := TMg_k T (by simp [addr, up2]) (by simp [addr, up2])
theorem tg_rule {t : tk_T} {i : Nat} {μ : pm_T} {q : Nat × pm_T} (h : sp_rule t i μ = .inr q) (T : TMg μ) : TMg q.2 := by
  unfold sp_rule at h
  split at h
  · obtain ⟨a, ea, h⟩ := tg_bn h
    obtain ⟨_, -, h⟩ := tg_bn h
    obtain ⟨b, eb, h⟩ := tg_bn h
    have Tb := tg_name eb (tg_name ea T)
    split at h
    · obtain ⟨c, ec, h⟩ := tg_bn h
      obtain ⟨_, -, h⟩ := tg_bn h
      obtain rfl := Sum.inr.inj h
      exact tg_addr (tg_name ec Tb)
    · obtain ⟨_, -, h⟩ := tg_bn h
      obtain rfl := Sum.inr.inj h
      exact tg_addr Tb
  · exact absurd h (by simp)
theorem tg_addV {μ π α : pm_T} (T : TMg μ) : TMg (addV μ π α) := by
  refine TMg_k T ?_ ?_ <;> · unfold addV; rw [if_neg (by omega), if_neg (by omega), if_neg (by omega), if_neg (by omega)]
theorem tg_voice {t : tk_T} {i : Nat} {μ : pm_T} {q : Nat × pm_T} (h : sp_voice t i μ = .inr q) (T : TMg μ) : TMg q.2 := by
  unfold sp_voice at h
  split at h
  · obtain ⟨a, ea, h⟩ := tg_bn h
    split at h
    · exact absurd h (by simp)
    · split at h
      · obtain rfl := Sum.inr.inj h
        exact tg_addV T
      · exact absurd h (by simp)
  · exact absurd h (by simp)
theorem tg_items {t : tk_T} : ∀ (f i : Nat) (μ ν : pm_T), sp_items t f i μ = .inr ν → TMg μ → TMg ν
  | 0, _, _, _, h, _ => absurd h (by simp [sp_items])
  | f + 1, i, μ, ν, h, T => by
    rw [sp_items] at h
    split at h
    · obtain rfl := Sum.inr.inj h
      exact T
    · obtain ⟨q, eq, h⟩ := tg_bn h
      refine tg_items f _ _ _ h ?_
      split at eq
      · exact tg_time eq
      · split at eq
        · exact tg_voice eq T
        · split at eq
          · unfold sp_line at eq
            split at eq
            · exact tg_pits _ _ _ _ eq T
            · exact absurd eq (by simp)
          · split at eq
            · exact tg_rule eq T
            · split at eq
              · unfold sp_row at eq
                split at eq
                · exact tg_rows _ _ _ _ eq T
                · exact absurd eq (by simp)
              · exact absurd eq (by simp)
theorem tg_score {t : tk_T} {ν : pm_T} (h : sp_score t = .inr ν) : TMg ν := tg_items _ _ _ _ h (by unfold TMg sco0; refine ⟨⟨?_, ?_⟩, ⟨?_, ?_⟩, ?_⟩ <;> simp [up2, pwb])

/-! ===== what the law carries: both tell one tape, one place, one score ===== -/
def tmo (x : Int) : Int := if x = 0 then 4 else x
def TCt (T : Nat → Int) (n : Nat) (h : ah_T) : Prop := h.2.1 0 1 = (n : Int) ∧ ∀ j, j < n → h.2.1 1 j = T j ∧ 0 ≤ T j ∧ T j ≤ 255
def TRt (T : Nat → Int) (n : Nat) (h : ah_T) : Prop := h.2.1 170 1 = (n : Int) ∧ ∀ j, j < n → h.2.1 171 j = T j
def TPq (h : ah_T) : Prop := ∃ (T : Nat → Int) (n : Nat), n ≤ 2000 ∧ TCt T n h ∧ TRt T n h
/-- a memory that a text gave, or the one of the start -/
def OKm (μ : pm_T) : Prop := (∃ X : tx_T, XA X ∧ sp_score X.2.2.1 = .inr μ) ∨ μ = sco0
def SRq (μ : pm_T) (h : ah_T) : Prop := KSn μ h ∧ tmo (h.2.1 173 0) = μ 0 1 ∧ tmo (h.2.1 174 0) = μ 0 2 ∧ OKm μ ∧ (0 < μ 0 7 → h.2.1 173 0 = μ 0 1 ∧ h.2.1 174 0 = μ 0 2)
theorem OKm_t {μ : pm_T} (H : OKm μ) : TMg μ := by
  rcases H with ⟨X, -, e⟩ | rfl
  · exact tg_score e
  · unfold TMg sco0
    refine ⟨⟨?_, ?_⟩, ⟨?_, ?_⟩, ?_⟩ <;> simp [up2, pwb]
def SCq (s : Nat) (h : ah_T) : Prop := ∃ μ : pm_T, CKn μ (97 - s) h ∧ SRq μ h
def EX (s : Nat) (h : ah_T) : Prop := TPq h ∧ h.2.1 0 4 = h.2.1 170 13 ∧ SCq s h
theorem sm_fr {W : Nat → Prop} {h h' : ah_T} (f : ∀ a, ¬ W a → same3 h h' a) (h3 : ¬ W 3) : fr (fun a _ => W a) h h' :=
  ⟨fun a k q => ⟨congrFun (f a q).1 k, congrFun (f a q).2.1 k⟩, fun e => by rw [(f 3 h3).2.2]; exact e⟩
theorem sh_sym {G : cx_T} {h h' : ah_T} (S : sameH G h h') : sameH G h' h := by
  obtain ⟨t, a, b⟩ := S
  exact ⟨t, b, a⟩
theorem CK_s {s : Nat} {μ : pm_T} {h h' : ah_T} (hs : isS s) (H : CKn μ (97 - s) h) (f : ∀ a, 17 ≤ a → a < 143 → same3 h h' a) : CKn μ (97 - s) h' := by
  have H' : CKn μ (97 - s) (h.1, h.2.1, h.2.2.1, fun _ _ => none) := H
  have f' : fr (fun a _ => ¬ (17 ≤ a ∧ a < 143)) (h.1, h.2.1, h.2.2.1, fun _ _ => none) h' := ⟨fun a k q => by
    have q2 : 17 ≤ a ∧ a < 143 := Decidable.of_not_not q
    exact ⟨congrFun (f a q2.1 q2.2).1 k, congrFun (f a q2.1 q2.2).2.1 k⟩, fun e => by cases e⟩
  refine CKn_f H' f' (fun a k q => ?_)
  unfold isS at hs
  omega
theorem KS_s2 {μ : pm_T} {h h' : ah_T} (H : SRq μ h) (f : ∀ a k, 172 ≤ a → a ≤ 200 → h'.2.1 a k = h.2.1 a k ∧ h'.2.2.1 a k = h.2.2.1 a k) : SRq μ h' := by
  obtain ⟨K, t1, t2, T, t3⟩ := H
  refine ⟨KSn_g K (fun a k q => f a k ?_ ?_), ?_, ?_, T, ?_⟩
  · rcases q with ⟨p1, p2⟩ | ⟨p1, p2⟩ | ⟨p1, p2⟩ | ⟨p1, p2⟩ | ⟨p1, p2⟩ | ⟨p1, p2⟩ | ⟨p1, p2⟩ | ⟨p1, p2⟩ <;> omega
  · rcases q with ⟨p1, p2⟩ | ⟨p1, p2⟩ | ⟨p1, p2⟩ | ⟨p1, p2⟩ | ⟨p1, p2⟩ | ⟨p1, p2⟩ | ⟨p1, p2⟩ | ⟨p1, p2⟩ <;> omega
  · rw [(f 173 0 (by decide) (by decide)).1]; exact t1
  · rw [(f 174 0 (by decide) (by decide)).1]; exact t2
  · rw [(f 173 0 (by decide) (by decide)).1, (f 174 0 (by decide) (by decide)).1]; exact t3
theorem TC_e {T : Nat → Int} {n : Nat} {h h' : ah_T} (H : TCt T n h) (f0 : h'.2.1 0 1 = h.2.1 0 1) (f1 : h'.2.1 1 = h.2.1 1) : TCt T n h' := by
  unfold TCt
  rw [f0, f1]
  exact H
theorem TR_e {T : Nat → Int} {n : Nat} {h h' : ah_T} (H : TRt T n h) (f0 : h'.2.1 170 1 = h.2.1 170 1) (f1 : h'.2.1 171 = h.2.1 171) : TRt T n h' := by
  unfold TRt
  rw [f0, f1]
  exact H
/-- the class's other calls -/
theorem EX_c {s : Nat} {h h' : ah_T} (E : EX s h) (k : kF FC s h h') : EX s h' := by
  obtain ⟨⟨T, n, hn, c, r⟩, p, μ, C, R⟩ := E
  obtain ⟨hx, f⟩ := k
  have g : ∀ a, a < 143 ∨ 170 ≤ a → same3 h h' a := fun a q => f a q
  refine ⟨⟨T, n, hn, TC_e c (congrFun (g 0 (by decide)).1 1) (g 1 (by decide)).1, TR_e r (congrFun (g 170 (by decide)).1 1) (g 171 (by decide)).1⟩, ?_, μ, CK_s hx.2.1 C (fun a q1 q2 => g a (Or.inl q2)), KS_s2 R (fun a k q1 q2 => ⟨congrFun (g a (by omega)).1 k, congrFun (g a (by omega)).2.1 k⟩)⟩
  rw [(g 0 (by decide)).1, (g 170 (by decide)).1]
  exact p
/-- the reference's other calls -/
theorem EX_m {s : Nat} {F A : List Nat} {h h' : ah_T} (E : EX s h) (hs : isS s) (kn : kM (pm F A) h h') (hA : A.all (fun x => decide (200 < x)) = true) (hF : F.contains 1 = false) (hF2 : F.contains 13 = false) : EX s h' := by
  obtain ⟨⟨T, n, hn, c, r⟩, p, μ, C, R⟩ := E
  obtain ⟨-, f, k1, k2⟩ := kn
  have hP : ∀ a k, 171 ≤ a → a ≤ 200 → pm F A a k = false := by
    intro a k q1 q2
    have n1 : (a == 170) = false := by simp; omega
    have n2 : A.contains a = false := by
      cases c : A.contains a with
      | false => rfl
      | true =>
        have := of_decide_eq_true (List.all_eq_true.mp hA a (by simpa using c))
        omega
    unfold pm
    rw [n1, n2]
    rfl
  have nA : A.contains 170 = false := by
    cases c : A.contains 170 with
    | false => rfl
    | true =>
      have := of_decide_eq_true (List.all_eq_true.mp hA 170 (by simpa using c))
      omega
  have h1 : pm F A 170 1 = false := by
    unfold pm
    rw [hF, nA]
    rfl
  have h13 : pm F A 170 13 = false := by
    unfold pm
    rw [hF2, nA]
    rfl
  refine ⟨⟨T, n, hn, TC_e c (congrFun (f 0 (by decide)).1 1) (f 1 (by decide)).1, TR_e r (k1 170 1 h1) (funext fun j => k1 171 j (hP 171 j (by decide) (by decide)))⟩, ?_, μ, CK_s hs C (fun a q1 q2 => f a (by omega)), KS_s2 R (fun a k q1 q2 => ⟨k1 a k (hP a k (by omega) q2), k2 a k (hP a k (by omega) q2)⟩)⟩
  rw [(f 0 (by decide)).1, k1 170 13 h13]
  exact p
/-- between the two feeds -/
def FDq (s : Nat) (a b c d e : Int) (h : ah_T) : Prop := (∃ (T : Nat → Int) (n : Nat), n ≤ 2000 ∧ TRt T n h ∧ ((n + 20 ≤ 2000 ∧ TCt T (n + 20) h ∧ ∀ j, j < 20 → T (n + j) = fdb a b c d e j) ∨ (¬ n + 20 ≤ 2000 ∧ TCt T n h))) ∧ h.2.1 0 4 = h.2.1 170 13 ∧ SCq s h
theorem TC_ag {T : Nat → Int} {n : Nat} {h h' : ah_T} (hn : n ≤ 2000) (H : TCt T n h) (A : agI h h') : TCt T n h' :=
  ⟨(A 0 1 (by decide +kernel)).trans H.1, fun j hj => ⟨(A 1 j (ic0 (n := 2000) (by decide +kernel) (by omega))).trans (H.2 j hj).1, (H.2 j hj).2⟩⟩
theorem TR_ag {T : Nat → Int} {n : Nat} {h h' : ah_T} (hn : n ≤ 2000) (H : TRt T n h) (A : agI h h') : TRt T n h' :=
  ⟨(A 170 1 (by decide +kernel)).trans H.1, fun j hj => (A 171 j (ic0 (n := 2000) (by decide +kernel) (by omega))).trans (H.2 j hj)⟩
theorem e_PM_feed {G : cx_T} {s : Nat} {h : ah_T} {a b c d e : Int} (hx : xi s h) (hm : mi h) (E : EX s h) : con G 1 0 0 m_PM_feed [av_R (some 0), av_I a, av_I b, av_I c, av_I d, av_I e] h (fun r h' => ∃ z, r = some (av_I z) ∧ ((-3) ≤ z ∧ z ≤ 2000) ∧ ((h.2.1 0 1 ≤ 1980 → z = h.2.1 0 1 + 20 ∧ h'.2.1 0 1 = h.2.1 0 1 + 20) ∧ (1980 < h.2.1 0 1 → z = -3 ∧ h'.2.1 0 1 = h.2.1 0 1)) ∧ kF FA s h h' ∧ FDq s a b c d e h') := by
  obtain ⟨⟨T, n, hn, tc, tr⟩, p, μ, C, R⟩ := E
  have hb0 := hb_xm hx hm
  refine con_mono (con_conj (h2 := h) (s_PM_feed hx) (t_PM_feed hb0 tc.1 hn)) ?_
  rintro r h' ⟨⟨z, q1, q2, q3, kf⟩, r2, h2, ⟨hb2, q⟩, -, S⟩
  refine ⟨z, q1, q2, q3, kf, ?_, ?_, μ, CK_s hx.2.1 C (fun a q1 q2 => kf.2 a (Or.inl ⟨q1, q2⟩)), KS_s2 R (fun a k q1 q2 => ⟨congrFun (kf.2 a (Or.inr (by omega))).1 k, congrFun (kf.2 a (Or.inr (by omega))).2.1 k⟩)⟩
  all_goals have A : agI h2 h' := agI_of hb2.1 kf.1.1 (sh_sym S)
  · have tr' : TRt T n h' := TR_e tr (congrFun (kf.2 170 (Or.inr (by decide))).1 1) (kf.2 171 (Or.inr (by decide))).1
    rcases q with ⟨w1, -, w3, w4, w5⟩ | ⟨w1, -, rfl⟩
    · refine ⟨fun j => if j < n then T j else fdb a b c d e (j - n), n, hn, ⟨tr'.1, fun j hj => ?_⟩, Or.inl ⟨w1, TC_ag w1 ⟨by rw [w4]; omega, fun j hj => ?_⟩ A, fun j hj => ?_⟩⟩
      · dsimp only
        rw [if_pos hj]
        exact tr'.2 j hj
      · dsimp only
        by_cases c : j < n
        · rw [if_pos c, fr_g w3 (by omega)]
          exact tc.2 j c
        · have := w5 (j - n) (by omega)
          rw [show n + (j - n) = j by omega] at this
          rw [if_neg c]
          exact ⟨this, fdb_b _ _ _ _ _ _⟩
      · dsimp only
        rw [if_neg (by omega), show n + j - n = j by omega]
    · exact ⟨T, n, hn, tr', Or.inr ⟨w1, TC_ag hn tc A⟩⟩
  · rw [A 0 4 (by decide +kernel), (kf.2 170 (Or.inr (by decide))).1, ← p]
    rcases q with ⟨w1, -, w3, w4, w5⟩ | ⟨w1, -, rfl⟩
    · exact fr_g w3 (by omega)
    · rfl

/-! ===== feed, cut and score of both, one after the other ===== -/
theorem e_MD_feed {G : cx_T} {s : Nat} {h : ah_T} {a b c d e : Int} (hx : xi s h) (hm : mi h) (E : FDq s a b c d e h) : con G 1 0 0 m_MD_feed [av_R (some 170), av_I a, av_I b, av_I c, av_I d, av_I e] h (fun r h' => ∃ z, r = some (av_I z) ∧ ((-3) ≤ z ∧ z ≤ 2000) ∧ ((h.2.1 170 1 ≤ 1980 → z = h.2.1 170 1 + 20 ∧ h'.2.1 170 1 = h.2.1 170 1 + 20) ∧ (1980 < h.2.1 170 1 → z = -3 ∧ h'.2.1 170 1 = h.2.1 170 1)) ∧ kM (pm [1] [171]) h h' ∧ EX s h') := by
  obtain ⟨⟨T, n, hn, tr, tc⟩, p, μ, C, R⟩ := E
  have hb0 := hb_xm hx hm
  refine con_mono (con_conj (h2 := h) (s_MD_feed hm) (t_MD_feed hb0 tr.1 hn)) ?_
  rintro r h' ⟨⟨z, q1, q2, q3, kn⟩, r2, h2, ⟨hb2, q⟩, -, S⟩
  have A : agI h2 h' := agI_of hb2.1 kn.1.1 (sh_sym S)
  have kn' := kn
  obtain ⟨-, f, k1, k2⟩ := kn'
  have hP : ∀ a k, 172 ≤ a → pm [1] [171] a k = false := by
    intro a k q1
    have n1 : (a == 170) = false := by simp; omega
    have n2 : [171].contains a = false := by simp; omega
    unfold pm
    rw [n1, n2]
    rfl
  refine ⟨z, q1, q2, q3, kn, ?_, ?_, μ, CK_s hx.2.1 C (fun a q1 q2 => f a (by omega)), KS_s2 R (fun a k q1 q2 => ⟨k1 a k (hP a k q1), k2 a k (hP a k q1)⟩)⟩
  · have tc' : ∀ {m : Nat}, TCt T m h → TCt T m h' := fun H => TC_e H (congrFun (f 0 (by decide)).1 1) (f 1 (by decide)).1
    rcases q with ⟨w1, -, w3, w4, w5⟩ | ⟨w1, -, rfl⟩
    · rcases tc with ⟨v1, v2, v3⟩ | ⟨v1, v2⟩
      · refine ⟨T, n + 20, v1, tc' v2, TR_ag v1 ⟨by rw [w4]; omega, fun j hj => ?_⟩ A⟩
        by_cases c : j < n
        · rw [fr_g w3 (by omega)]
          exact tr.2 j c
        · have e1 := w5 (j - n) (by omega)
          have e2 := v3 (j - n) (by omega)
          rw [show n + (j - n) = j by omega] at e1 e2
          rw [e1, e2]
      · exact absurd w1 v1
    · rcases tc with ⟨v1, v2, v3⟩ | ⟨v1, v2⟩
      · exact absurd v1 w1
      · exact ⟨T, n, hn, tc' v2, TR_ag hn tr A⟩
  · rw [(f 0 (by decide)).1, k1 170 13 rfl]
    exact p
/-- between the two cuts -/
def CTq (s : Nat) (a : Int) (h : ah_T) : Prop := (∃ (T : Nat → Int) (n m : Nat), n ≤ 2000 ∧ m ≤ n ∧ TRt T n h ∧ TCt T m h ∧ ((0 ≤ a ∧ a ≤ n ∧ (m : Int) = n - a) ∨ (¬ (0 ≤ a ∧ a ≤ n) ∧ m = n))) ∧ h.2.1 0 4 = h.2.1 170 13 ∧ SCq s h
theorem e_PM_cut {G : cx_T} {s : Nat} {h : ah_T} {a : Int} (hx : xi s h) (hm : mi h) (E : EX s h) : con G 0 0 0 m_PM_cut [av_R (some 0), av_I a] h (fun r h' => ∃ z, r = some (av_I z) ∧ ((-1) ≤ z ∧ z ≤ 2000) ∧ ((a < 0 ∨ h.2.1 0 1 < a → z = -1 ∧ h'.2.1 0 1 = h.2.1 0 1) ∧ (0 ≤ a → a ≤ h.2.1 0 1 → z = h.2.1 0 1 - a ∧ h'.2.1 0 1 = h.2.1 0 1 - a)) ∧ kF FA s h h' ∧ CTq s a h') := by
  obtain ⟨⟨T, n, hn, tc, tr⟩, p, μ, C, R⟩ := E
  have hb0 := hb_xm hx hm
  refine con_mono (con_conj (h2 := h) (s_PM_cut hx) (t_PM_cut hb0 tc.1 hn)) ?_
  rintro r h' ⟨⟨z, q1, q2, q3, kf⟩, r2, h2, ⟨hb2, q⟩, -, S⟩
  have A : agI h2 h' := agI_of hb2.1 kf.1.1 (sh_sym S)
  refine ⟨z, q1, q2, q3, kf, ?_, ?_, μ, CK_s hx.2.1 C (fun a q1 q2 => kf.2 a (Or.inl ⟨q1, q2⟩)), KS_s2 R (fun a k q1 q2 => ⟨congrFun (kf.2 a (Or.inr (by omega))).1 k, congrFun (kf.2 a (Or.inr (by omega))).2.1 k⟩)⟩
  · have tr' : TRt T n h' := TR_e tr (congrFun (kf.2 170 (Or.inr (by decide))).1 1) (kf.2 171 (Or.inr (by decide))).1
    rcases q with ⟨w1, w2, -, w3, w4⟩ | ⟨w1, -, rfl⟩
    · refine ⟨T, n, (n - a).toNat, hn, by omega, tr', TC_ag (by omega) ⟨by rw [w4]; omega, fun j hj => ?_⟩ A, Or.inl ⟨w1, w2, by omega⟩⟩
      rw [fr_g w3 (by omega)]
      exact tc.2 j (by omega)
    · exact ⟨T, n, n, hn, Nat.le_refl _, tr', TC_ag hn tc A, Or.inr ⟨w1, rfl⟩⟩
  · rw [A 0 4 (by decide +kernel), (kf.2 170 (Or.inr (by decide))).1, ← p]
    rcases q with ⟨w1, w2, -, w3, w4⟩ | ⟨w1, -, rfl⟩
    · exact fr_g w3 (by omega)
    · rfl
theorem e_MD_cut {G : cx_T} {s : Nat} {h : ah_T} {a : Int} (hx : xi s h) (hm : mi h) (E : CTq s a h) : con G 0 0 0 m_MD_cut [av_R (some 170), av_I a] h (fun r h' => ∃ z, r = some (av_I z) ∧ ((-1) ≤ z ∧ z ≤ 2000) ∧ ((a < 0 ∨ h.2.1 170 1 < a → z = -1 ∧ h'.2.1 170 1 = h.2.1 170 1) ∧ (0 ≤ a → a ≤ h.2.1 170 1 → z = h.2.1 170 1 - a ∧ h'.2.1 170 1 = h.2.1 170 1 - a)) ∧ kM (pm [1] []) h h' ∧ EX s h') := by
  obtain ⟨⟨T, n, m, hn, hmn, tr, tc, ca⟩, p, μ, C, R⟩ := E
  have hb0 := hb_xm hx hm
  refine con_mono (con_conj (h2 := h) (s_MD_cut hm) (t_MD_cut hb0 tr.1 hn)) ?_
  rintro r h' ⟨⟨z, q1, q2, q3, kn⟩, r2, h2, ⟨hb2, q⟩, -, S⟩
  have A : agI h2 h' := agI_of hb2.1 kn.1.1 (sh_sym S)
  have kn' := kn
  obtain ⟨-, f, k1, k2⟩ := kn'
  have hP : ∀ a k, 171 ≤ a → pm [1] [] a k = false := by
    intro a k q1
    have n1 : (a == 170) = false := by simp; omega
    unfold pm
    rw [n1]
    rfl
  refine ⟨z, q1, q2, q3, kn, ?_, ?_, μ, CK_s hx.2.1 C (fun a q1 q2 => f a (by omega)), KS_s2 R (fun a k q1 q2 => ⟨k1 a k (hP a k (by omega)), k2 a k (hP a k (by omega))⟩)⟩
  · have tc' : TCt T m h' := TC_e tc (congrFun (f 0 (by decide)).1 1) (f 1 (by decide)).1
    refine ⟨T, m, by omega, tc', TR_ag (by omega) ⟨?_, fun j hj => ?_⟩ A⟩
    · rcases q with ⟨w1, w2, -, w3, w4⟩ | ⟨w1, -, rfl⟩
      · rw [w4]; omega
      · rw [tr.1]; omega
    · rcases q with ⟨w1, w2, -, w3, w4⟩ | ⟨w1, -, rfl⟩
      · rw [fr_g w3 (by omega)]
        exact tr.2 j (by omega)
      · exact tr.2 j (by omega)
  · rw [(f 0 (by decide)).1, k1 170 13 rfl]
    exact p
/-- between the two scores -/
def SRr (s : Nat) (R : F_T ⊕ pm_T) (z : Int) (h : ah_T) : Prop := match R with
  | .inl q => Int32.ofInt z = Int32.ofInt (-10 - q.1) ∧ h.2.1 0 4 = q.2 ∧ SCq s h
  | .inr μ => Int32.ofInt z = Int32.ofInt (evs μ (μ 0 7).toNat) ∧ h.2.1 0 4 = -2 ∧ CKn μ (97 - s) h
def SDq (s : Nat) (z : Int) (h : ah_T) : Prop := h.2.1 0 1 = 0 ∧ ∃ (T : Nat → Int) (n : Nat), n ≤ 2000 ∧ TRt T n h ∧ (∀ j, j < n → 0 ≤ T j ∧ T j ≤ 255) ∧ ∃ (t : tk_T) (m : Nat) (a b : Nat → Nat), TkA T n t m a b ∧ SRr s (sp_score t) z h
theorem cv_I {G : cx_T} {z w : Int} {r : Option av_T} (e : r.map (cv G) = (some (av_I z)).map (cv G)) (hr : r = some (av_I w)) : Int32.ofInt z = Int32.ofInt w := by
  subst hr
  have e1 : some (Value.int (Int32.ofInt w)) = some (Value.int (Int32.ofInt z)) := e
  injection e1 with e2
  injection e2 with e3
  exact e3.symm
theorem e_PM_score {G : cx_T} {s : Nat} {h : ah_T} (hx : xi s h) (hm : mi h) (E : EX s h) : con G 24 0 0 m_PM_score [av_R (some 0)] h (fun r h' => ∃ z, r = some (av_I z) ∧ ((-2147483648) ≤ z ∧ z ≤ 2147483647) ∧ ∃ s', xi s' h' ∧ h'.2.1 0 1 = 0 ∧ (∀ a, 170 ≤ a → same3 h h' a) ∧ SDq s' z h') := by
  obtain ⟨⟨T, n, hn, tc, tr⟩, p, μ, C, R⟩ := E
  have hb0 := hb_xm hx hm
  refine con_mono (con_conj (h2 := h) (s_PM_score hx) (t_PM_score hb0 tc.1 hn tc.2)) ?_
  rintro r h' ⟨⟨z, q1, q2, s', hx', q3, f⟩, r2, h2, ⟨z2, s2, q4, hb2, -, q5, t, m, a, b, TK, PS⟩, er, S⟩
  have A : agI h2 h' := agI_of hb2.1 hx'.1 (sh_sym S)
  have L : agL h2 h' := agL_of hb2.1 hx'.1 (sh_sym S)
  obtain rfl : s' = s2 := s_eq hx' hb2 (agR_of hb2.1 hx'.1 (sh_sym S))
  subst q1
  have ez := cv_I er q4
  refine ⟨z, rfl, q2, s', hx', q3, f, q3, T, n, hn, TR_e tr (congrFun (f 170 (by decide)).1 1) (f 171 (by decide)).1, fun j hj => (tc.2 j hj).2, t, m, a, b, TK, ?_⟩
  have R' : SRq μ h' := KS_s2 R (fun a k q1 q2 => ⟨congrFun (f a (by omega)).1 k, congrFun (f a (by omega)).2.1 k⟩)
  revert PS
  generalize sp_score t = Y
  intro PS
  have h04 : h'.2.1 0 4 = h2.2.1 0 4 := A 0 4 (by decide +kernel)
  have hs := hx.2.1
  cases Y with
  | inl q =>
    obtain ⟨rfl, rfl, -, e4, fw⟩ := PS
    refine ⟨ez, h04.trans e4, μ, ?_, R'⟩
    refine CKn_ag (by unfold isS at *; omega) (CKn_f C fw (fun a k w => ?_)) A L hx'
    unfold isS at hs
    rcases w with (w | w) | w <;> omega
  | inr ν =>
    obtain ⟨e1, rfl, e4, K, -⟩ := PS
    refine ⟨ez, h04.trans e4, ?_⟩
    have : 97 - s' = s := by unfold isS at hs; omega
    rw [this]
    exact CKn_ag hs K A L hx'
theorem e_MD_score {G : cx_T} {s : Nat} {z : Int} {h : ah_T} (hx : xi s h) (hm : mi h) (hp : PX h) (hz : (-2147483648) ≤ z ∧ z ≤ 2147483647) (E : SDq s z h) : con G 8 0 0 m_MD_score [av_R (some 170)] h (fun r h' => ∃ w, r = some (av_I w) ∧ ((-2147483648) ≤ w ∧ w ≤ 2147483647) ∧ (h'.2.1 170 1 = 0 ∧ PX h') ∧ kM (pm [1, 2, 3, 4, 5, 6, 7, 8, 9, 10, 11, 12, 13, 43, 59, 60, 61, 63, 64, 65, 66, 70, 71, 72, 73, 74, 75, 76, 77, 78, 80, 85, 89, 91, 98, 104, 105] [172, 173, 174, 175, 176, 177, 178, 179, 180, 181, 182, 183, 184, 185, 186, 187, 188, 189, 190, 191, 192, 193, 194, 195, 196, 197, 198, 199, 200, 201, 202, 203, 204, 205, 206, 207, 208, 209, 210, 211, 212, 213, 214, 215, 216, 217, 218, 219, 220]) h h' ∧ z = w ∧ EX s h') := by
  obtain ⟨q0, T, n, hn, tr, hT, t, m, a, b, TK, SR⟩ := E
  have hb0 := hb_xm hx hm
  refine con_mono (con_conj (h2 := h) (s_MD_score hm hp) (t_MD_score (X := (T, n, t, m, a, b)) hb0 TK tr.1 hn (fun j hj => ⟨tr.2 j hj, hT j hj⟩))) ?_
  rintro r h' ⟨⟨w, q1, q2, q3, kn⟩, r2, h2, ⟨z2, q4, hb2, -, q5, PS⟩, er, S⟩
  have A : agI h2 h' := agI_of hb2.1 kn.1.1 (sh_sym S)
  have L : agL h2 h' := agL_of hb2.1 kn.1.1 (sh_sym S)
  have f := kn.2.1
  subst q1
  have ez := cv_I er q4
  have tq : TPq h' := ⟨fun _ => 0, 0, by decide, ⟨by rw [(f 0 (by decide)).1]; exact q0, fun j hj => by omega⟩, ⟨q3.1, fun j hj => by omega⟩⟩
  have h13 : h'.2.1 170 13 = h2.2.1 170 13 := A 170 13 (by decide +kernel)
  have h04 : h'.2.1 0 4 = h.2.1 0 4 := by rw [(f 0 (by decide)).1]
  have fin : ∀ v, Int32.ofInt z = Int32.ofInt v → v = z2 → z = w := by
    rintro v e rfl
    rw [← ez] at e
    exact (i32_eq (by unfold i32; omega) (by unfold i32; omega)).mp e
  replace PS : PSm (sp_score t) z2 h h2 := PS
  have TMs : ∀ ν, sp_score t = .inr ν → OKm ν := fun ν e => Or.inl ⟨(T, n, t, m, a, b), TK, e⟩
  revert SR PS TMs
  generalize sp_score t = Y
  intro SR PS TMs
  cases Y with
  | inl q =>
    obtain ⟨e1, e2, μ, C, R⟩ := SR
    obtain ⟨p1, p2, p3, fw⟩ := PS
    refine ⟨w, rfl, q2, q3, kn, fin _ e1 p1.symm, tq, ?_, μ, CK_s hx.2.1 C (fun a q1 q2 => f a (by omega)), ?_⟩
    · rw [h04, h13, e2, p3]
    · obtain ⟨K, t1, t2, TT, t3⟩ := R
      have e73 : h'.2.1 173 0 = h.2.1 173 0 := (A 173 0 (by decide +kernel)).trans (fr_g fw (WSf_k 173 0 (by omega)))
      have e74 : h'.2.1 174 0 = h.2.1 174 0 := (A 174 0 (by decide +kernel)).trans (fr_g fw (WSf_k 174 0 (by omega)))
      refine ⟨KSn_ag (KSn_g K (fun a k q => ⟨fr_g fw (WSf_k a k q), fr_gl fw (WSf_k a k q)⟩)) A L, by rw [e73]; exact t1, by rw [e74]; exact t2, TT, by rw [e73, e74]; exact t3⟩
  | inr ν =>
    obtain ⟨e1, e2, C⟩ := SR
    obtain ⟨p1, p2, K, p73, p74, -⟩ := PS
    have OO := TMs ν rfl
    have TT := OKm_t OO
    have e73 : h'.2.1 173 0 = ν 0 1 := (A 173 0 (by decide +kernel)).trans p73
    have e74 : h'.2.1 174 0 = ν 0 2 := (A 174 0 (by decide +kernel)).trans p74
    refine ⟨w, rfl, q2, q3, kn, fin _ e1 p1.symm, tq, ?_, ν, CK_s hx.2.1 C (fun a q1 q2 => f a (by omega)), KSn_ag K A L, ?_, ?_, OO, fun _ => ⟨e73, e74⟩⟩
    · rw [h04, h13, e2, p2]
    · rw [e73]
      unfold tmo
      have := TT.1
      rw [if_neg (by omega)]
    · rw [e74]
      unfold tmo
      have := TT.2.1
      rw [if_neg (by omega)]
