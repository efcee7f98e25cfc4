/-! ===== verification conditions, 510 ===== -/
def B_MD_lay_3 (G : cx_T) (s : Nat) (a1 : Int) (v2 : Int) (h : ah_T) (Q : Option av_T → ah_T → Prop) (X3 : Int → ah_T → Prop) : Prop :=
 ((v2 < 0 → Q none h) ∧ (¬ v2 < 0 → ∀ x2 : Int, x2 = h.2.1 170 1 → -2147483648 ≤ x2 → x2 ≤ 2147483647 → ∀ x3 : Int, x3 = ((Int32.ofInt a1) >>> (Int32.ofInt v2 &&& 31)).toInt → (-2147483648) ≤ x3 → x3 ≤ 2147483647 → ∀ x4 : Int, x4 = ((Int32.ofInt x3) &&& (Int32.ofInt 255)).toInt → (-2147483648) ≤ x4 → x4 ≤ 2147483647 → (0 ≤ x2 ∧ x2 < 2000) ∧ ∀ h6 : ah_T, h6 = st_i h 171 (x2).toNat x4 → ((-2147483648) ≤ (x2 + 1) ∧ (x2 + 1) ≤ 2147483647) ∧ ∀ h10 : ah_T, h10 = st_i h6 170 1 (x2 + 1) → ((-2147483648) ≤ (v2 - 8) ∧ (v2 - 8) ≤ 2147483647) ∧ X3 ((v2 - 8)) h10))
theorem b_MD_lay_3 {G : cx_T} {s : Nat} {a1 : Int} {v2 : Int} {h : ah_T} {Q : Option av_T → ah_T → Prop} {X3 : Int → ah_T → Prop} (hX3 : ∀ (v2 : Int) (h : ah_T), hb s h → X3 v2 h → aw G (rm_R 0 0 0) m_MD_lay 0 0 3 [some (av_R (some 170)), some (av_I a1), some (av_I v2)] [] h Q) (hb0 : hb s h) (H : B_MD_lay_3 G s a1 v2 h Q X3) : aw G (rm_R 0 0 0) m_MD_lay 0 0 3 [some (av_R (some 170)), some (av_I a1), some (av_I v2)] [] h Q := by
  unfold B_MD_lay_3 at H
  have hS : isS s := hb0.2.1
  refine A_iload_n 2 d_MD_lay_3 rfl rfl ?_
  refine A_if_lt (tgt := 39) d_MD_lay_4 (by decide) (fun c => ?_) (fun c => ?_)
  · replace H := H.1 c
    exact A_vret d_MD_lay_39 (by decide) rfl H
  · replace H := H.2 c
    refine A_aload_n 0 d_MD_lay_7 rfl rfl ?_
    refine A_getAv (z := some 171) T_ok d_MD_lay_8 f_MD_7 (hb_s hb0 sf_170) (hb_m hb0 rfm_0) ?_
    refine A_aload_n 0 d_MD_lay_11 rfl rfl ?_
    refine A_getIf T_ok d_MD_lay_12 f_MD_226 (hb_s hb0 sf_170) (fun x2 ex2 lx2 ux2 => ?_)
    replace H := H x2 ex2 lx2 ux2
    refine A_iload_n 1 d_MD_lay_15 rfl rfl ?_
    refine A_pc (pc' := 16) rfl ?_
    refine A_iload_n 2 d_MD_lay_16 rfl rfl ?_
    refine A_ishr d_MD_lay_17 ?_
    refine A_nrI (fun x3 ex3 lx3 ux3 => ?_)
    replace H := H x3 ex3 lx3 ux3
    refine A_sipush d_MD_lay_18 rfl ?_
    refine A_iand d_MD_lay_21 ?_
    refine A_nrI (fun x4 ex4 lx4 ux4 => ?_)
    replace H := H x4 ex4 lx4 ux4
    have g5 := H.1
    replace H := H.2
    refine A_iastoreN d_MD_lay_22 (hb_s hb0 sf_171) g5.1 g5.2 ?_
    refine A_hn (fun h6 eh6 => ?_)
    have hb7 := hb_i hb0 eh6
    replace H := H h6 eh6
    refine A_aload_n 0 d_MD_lay_23 rfl rfl ?_
    refine A_pc (pc' := 24) rfl ?_
    refine A_dupR d_MD_lay_24 ?_
    refine A_getIv (z := x2) T_ok d_MD_lay_25 f_MD_226 (hb_s hb7 sf_170) ((mm_i eh6 (fun q => absurd q.1 (by decide))).trans ex2.symm) ?_
    refine A_iconst d_MD_lay_28 rfl ?_
    have g9 := H.1
    replace H := H.2
    refine A_iaddv (z := (x2 + 1)) d_MD_lay_29 (w32_to (by omega) (by unfold i32; omega)) ?_
    refine A_putI T_ok d_MD_lay_30 f_MD_226 (hb_s hb7 sf_170) fin_f ?_
    refine A_hn (fun h10 eh10 => ?_)
    have hb11 := hb_i hb7 eh10
    replace H := H h10 eh10
    have g12 := H.1
    replace H := H.2
    refine A_iincv (z := (v2 - 8)) (L' := [some (av_R (some 170)), some (av_I a1), some (av_I (v2 - 8))]) d_MD_lay_33 rfl (w32_to (by omega) (by unfold i32; omega)) rfl ?_
    refine A_pc (pc' := 36) rfl ?_
    refine A_goto (tgt := 3) d_MD_lay_36 (by decide) ?_
    refine A_pc (pc' := 3) rfl ?_
    exact hX3 ((v2 - 8)) h10  hb11 H
theorem lp_MD_lay_3 {G : cx_T} {s : Nat} {a1 : Int} {Q : Option av_T → ah_T → Prop} (I : Int → ah_T → Prop) (μ : Int → ah_T → Nat) (hI : ∀ (v2 : Int) (h : ah_T), hb s h → I v2 h → B_MD_lay_3 G s a1 v2 h Q (fun v2' h' => I v2' h' ∧ μ v2' h' < μ v2 h)) : ∀ (v2 : Int) (h : ah_T), hb s h → I v2 h → aw G (rm_R 0 0 0) m_MD_lay 0 0 3 [some (av_R (some 170)), some (av_I a1), some (av_I v2)] [] h Q := by
  have key : ∀ (n : Nat) (v2 : Int) (h : ah_T), hb s h → I v2 h → μ v2 h < n → aw G (rm_R 0 0 0) m_MD_lay 0 0 3 [some (av_R (some 170)), some (av_I a1), some (av_I v2)] [] h Q := by
    intro n
    induction n with
    | zero => intro v2 h  hb0 hi hm; omega
    | succ n ih => intro v2 h  hb0 hi hm; exact b_MD_lay_3  (fun v2' h'  hb' hx => ih v2' h'  hb' hx.1 (by have := hx.2; omega))  hb0 (hI v2 h  hb0 hi)
  exact fun v2 h  hb0 hi => key _ v2 h  hb0 hi (Nat.lt_succ_self _)
def B_MD_lay_0 (G : cx_T) (s : Nat) (a1 : Int) (h : ah_T) (Q : Option av_T → ah_T → Prop) (X3 : Int → ah_T → Prop) : Prop :=
 X3 (24) h
theorem b_MD_lay_0 {G : cx_T} {s : Nat} {a1 : Int} {h : ah_T} {Q : Option av_T → ah_T → Prop} {X3 : Int → ah_T → Prop} (hX3 : ∀ (v2 : Int) (h : ah_T), hb s h → X3 v2 h → aw G (rm_R 0 0 0) m_MD_lay 0 0 3 [some (av_R (some 170)), some (av_I a1), some (av_I v2)] [] h Q) (hb0 : hb s h) (H : B_MD_lay_0 G s a1 h Q X3) : aw G (rm_R 0 0 0) m_MD_lay 0 0 0 [some (av_R (some 170)), some (av_I a1), none] [] h Q := by
  unfold B_MD_lay_0 at H
  have hS : isS s := hb0.2.1
  refine A_bipush d_MD_lay_0 rfl ?_
  refine A_istore_n 2 (L' := [some (av_R (some 170)), some (av_I a1), some (av_I 24)]) d_MD_lay_2 rfl (Nat.le_of_ble_eq_true rfl) rfl ?_
  refine A_pc (pc' := 3) rfl ?_
  exact hX3 (24) h  hb0 H
theorem c_MD_lay {G : cx_T} {s : Nat} {a1 : Int} {h : ah_T} {Q : Option av_T → ah_T → Prop} {X3 : Int → ah_T → Prop} (hX3 : ∀ (v2 : Int) (h : ah_T), hb s h → X3 v2 h → aw G (rm_R 0 0 0) m_MD_lay 0 0 3 [some (av_R (some 170)), some (av_I a1), some (av_I v2)] [] h Q) (hb0 : hb s h) (H : i32 a1 → B_MD_lay_0 G s a1 h Q X3) : con G 0 0 0 m_MD_lay [av_R (some 170), av_I a1] h Q := by
  have hS : isS s := hb0.2.1
  refine con_of (L := [some (av_R (some 170)), some (av_I a1), none]) (by decide +kernel) (Nat.le_of_ble_eq_true rfl) rfl ?_
  refine A_locI 1 rfl (fun ra1 => ?_)
  exact b_MD_lay_0  hX3 hb0 (H ra1)
def B_MD_feed_0 (G : cx_T) (s : Nat) (a1 : Int) (a2 : Int) (a3 : Int) (a4 : Int) (a5 : Int) (h : ah_T) (Q : Option av_T → ah_T → Prop) : Prop :=
 ∀ x1 : Int, x1 = h.2.1 170 1 → -2147483648 ≤ x1 → x1 ≤ 2147483647 → ((-2147483648) ≤ (x1 + 20) ∧ (x1 + 20) ≤ 2147483647) ∧ (((x1 + 20) ≤ 2000 → con G 0 0 0 m_MD_lay [av_R (some 170), av_I a1] h (fun r h3 => r = none ∧ hb s h3 ∧ con G 0 0 0 m_MD_lay [av_R (some 170), av_I a2] h3 (fun r h6 => r = none ∧ hb s h6 ∧ con G 0 0 0 m_MD_lay [av_R (some 170), av_I a3] h6 (fun r h9 => r = none ∧ hb s h9 ∧ con G 0 0 0 m_MD_lay [av_R (some 170), av_I a4] h9 (fun r h12 => r = none ∧ hb s h12 ∧ con G 0 0 0 m_MD_lay [av_R (some 170), av_I a5] h12 (fun r h15 => r = none ∧ hb s h15 ∧ ∀ x18 : Int, x18 = h15.2.1 170 1 → -2147483648 ≤ x18 → x18 ≤ 2147483647 → Q (some (av_I x18)) h15)))))) ∧ (¬ (x1 + 20) ≤ 2000 → Q (some (av_I (-3))) h))
theorem b_MD_feed_0 {G : cx_T} {s : Nat} {a1 : Int} {a2 : Int} {a3 : Int} {a4 : Int} {a5 : Int} {h : ah_T} {Q : Option av_T → ah_T → Prop} (hb0 : hb s h) (H : B_MD_feed_0 G s a1 a2 a3 a4 a5 h Q ) : aw G (rm_R 1 0 0) m_MD_feed 0 0 0 [some (av_R (some 170)), some (av_I a1), some (av_I a2), some (av_I a3), some (av_I a4), some (av_I a5)] [] h Q := by
  unfold B_MD_feed_0 at H
  have hS : isS s := hb0.2.1
  refine A_aload_n 0 d_MD_feed_0 rfl rfl ?_
  refine A_getIf T_ok d_MD_feed_1 f_MD_226 (hb_s hb0 sf_170) (fun x1 ex1 lx1 ux1 => ?_)
  replace H := H x1 ex1 lx1 ux1
  refine A_bipush d_MD_feed_4 rfl ?_
  have g2 := H.1
  replace H := H.2
  refine A_iaddv (z := (x1 + 20)) d_MD_feed_6 (w32_to (by omega) (by unfold i32; omega)) ?_
  refine A_sipush d_MD_feed_7 rfl ?_
  refine A_pc (pc' := 10) rfl ?_
  refine A_icmp_le (tgt := 16) d_MD_feed_10 (by decide) (fun c => ?_) (fun c => ?_)
  · replace H := H.1 c
    refine A_aload_n 0 d_MD_feed_16 rfl rfl ?_
    refine A_iload_n 1 d_MD_feed_17 rfl rfl ?_
    refine A_callV1 m_MD_lay T_ok d_MD_feed_18 l_MD_229 k_MD_lay (hb_s hb0 sf_170) rfl (by decide +kernel) (by decide) (Nat.le_of_ble_eq_true rfl) H (fun r h3 hq => ?_)
    clear H
    obtain ⟨rfl, hb4, H⟩ := hq
    refine A_aload_n 0 d_MD_feed_21 rfl rfl ?_
    refine A_iload_n 2 d_MD_feed_22 rfl rfl ?_
    refine A_callV1 m_MD_lay T_ok d_MD_feed_23 l_MD_229 k_MD_lay (hb_s hb4 sf_170) rfl (by decide +kernel) (by decide) (Nat.le_of_ble_eq_true rfl) H (fun r h6 hq => ?_)
    clear H
    obtain ⟨rfl, hb7, H⟩ := hq
    refine A_aload_n 0 d_MD_feed_26 rfl rfl ?_
    refine A_iload_n 3 d_MD_feed_27 rfl rfl ?_
    refine A_callV1 m_MD_lay T_ok d_MD_feed_28 l_MD_229 k_MD_lay (hb_s hb7 sf_170) rfl (by decide +kernel) (by decide) (Nat.le_of_ble_eq_true rfl) H (fun r h9 hq => ?_)
    clear H
    obtain ⟨rfl, hb10, H⟩ := hq
    refine A_aload_n 0 d_MD_feed_31 rfl rfl ?_
    refine A_iload d_MD_feed_32 rfl ?_
    refine A_callV1 m_MD_lay T_ok d_MD_feed_34 l_MD_229 k_MD_lay (hb_s hb10 sf_170) rfl (by decide +kernel) (by decide) (Nat.le_of_ble_eq_true rfl) H (fun r h12 hq => ?_)
    clear H
    obtain ⟨rfl, hb13, H⟩ := hq
    refine A_aload_n 0 d_MD_feed_37 rfl rfl ?_
    refine A_iload d_MD_feed_38 rfl ?_
    refine A_callV1 m_MD_lay T_ok d_MD_feed_40 l_MD_229 k_MD_lay (hb_s hb13 sf_170) rfl (by decide +kernel) (by decide) (Nat.le_of_ble_eq_true rfl) H (fun r h15 hq => ?_)
    clear H
    obtain ⟨rfl, hb16, H⟩ := hq
    refine A_aload_n 0 d_MD_feed_43 rfl rfl ?_
    refine A_getIf T_ok d_MD_feed_44 f_MD_226 (hb_s hb16 sf_170) (fun x18 ex18 lx18 ux18 => ?_)
    replace H := H x18 ex18 lx18 ux18
    exact A_iret d_MD_feed_47 (by decide) rfl H
  · replace H := H.2 c
    refine A_bipush d_MD_feed_13 rfl ?_
    exact A_iret d_MD_feed_15 (by decide) rfl H
theorem c_MD_feed {G : cx_T} {s : Nat} {a1 : Int} {a2 : Int} {a3 : Int} {a4 : Int} {a5 : Int} {h : ah_T} {Q : Option av_T → ah_T → Prop} (hb0 : hb s h) (H : i32 a1 → i32 a2 → i32 a3 → i32 a4 → i32 a5 → B_MD_feed_0 G s a1 a2 a3 a4 a5 h Q ) : con G 1 0 0 m_MD_feed [av_R (some 170), av_I a1, av_I a2, av_I a3, av_I a4, av_I a5] h Q := by
  have hS : isS s := hb0.2.1
  refine con_of (L := [some (av_R (some 170)), some (av_I a1), some (av_I a2), some (av_I a3), some (av_I a4), some (av_I a5)]) (by decide +kernel) (Nat.le_of_ble_eq_true rfl) rfl ?_
  refine A_locI 1 rfl (fun ra1 => ?_)
  refine A_locI 2 rfl (fun ra2 => ?_)
  refine A_locI 3 rfl (fun ra3 => ?_)
  refine A_locI 4 rfl (fun ra4 => ?_)
  refine A_locI 5 rfl (fun ra5 => ?_)
  exact b_MD_feed_0   hb0 (H ra1 ra2 ra3 ra4 ra5)
def B_MD_cut_12 (G : cx_T) (s : Nat) (a1 : Int) (h : ah_T) (Q : Option av_T → ah_T → Prop) : Prop :=
 Q (some (av_I (-1))) h
theorem b_MD_cut_12 {G : cx_T} {s : Nat} {a1 : Int} {h : ah_T} {Q : Option av_T → ah_T → Prop} (hb0 : hb s h) (H : B_MD_cut_12 G s a1 h Q ) : aw G (rm_R 0 0 0) m_MD_cut 0 0 12 [none, none] [] h Q := by
  unfold B_MD_cut_12 at H
  have hS : isS s := hb0.2.1
  refine A_iconst d_MD_cut_12 rfl ?_
  exact A_iret d_MD_cut_13 (by decide) rfl H
def B_MD_cut_0 (G : cx_T) (s : Nat) (a1 : Int) (h : ah_T) (Q : Option av_T → ah_T → Prop) : Prop :=
 ((a1 < 0 → B_MD_cut_12 G s a1 h Q ) ∧ (¬ a1 < 0 → ∀ x1 : Int, x1 = h.2.1 170 1 → -2147483648 ≤ x1 → x1 ≤ 2147483647 → ((a1 ≤ x1 → ((-2147483648) ≤ (x1 - a1) ∧ (x1 - a1) ≤ 2147483647) ∧ ∀ h4 : ah_T, h4 = st_i h 170 1 (x1 - a1) → Q (some (av_I (x1 - a1))) h4) ∧ (¬ a1 ≤ x1 → B_MD_cut_12 G s a1 h Q ))))
theorem b_MD_cut_0 {G : cx_T} {s : Nat} {a1 : Int} {h : ah_T} {Q : Option av_T → ah_T → Prop} (hb0 : hb s h) (H : B_MD_cut_0 G s a1 h Q ) : aw G (rm_R 0 0 0) m_MD_cut 0 0 0 [some (av_R (some 170)), some (av_I a1)] [] h Q := by
  unfold B_MD_cut_0 at H
  have hS : isS s := hb0.2.1
  refine A_iload_n 1 d_MD_cut_0 rfl rfl ?_
  refine A_if_lt (tgt := 12) d_MD_cut_1 (by decide) (fun c => ?_) (fun c => ?_)
  · replace H := H.1 c
    refine A_pc (pc' := 12) rfl ?_
    refine A_free (L' := [none, none]) trivial ?_
    exact b_MD_cut_12    hb0 H
  · replace H := H.2 c
    refine A_iload_n 1 d_MD_cut_4 rfl rfl ?_
    refine A_aload_n 0 d_MD_cut_5 rfl rfl ?_
    refine A_getIf T_ok d_MD_cut_6 f_MD_226 (hb_s hb0 sf_170) (fun x1 ex1 lx1 ux1 => ?_)
    replace H := H x1 ex1 lx1 ux1
    refine A_icmp_le (tgt := 14) d_MD_cut_9 (by decide) (fun c => ?_) (fun c => ?_)
    · replace H := H.1 c
      refine A_aload_n 0 d_MD_cut_14 rfl rfl ?_
      refine A_dupR d_MD_cut_15 ?_
      refine A_getIv (z := x1) T_ok d_MD_cut_16 f_MD_226 (hb_s hb0 sf_170) ex1.symm ?_
      refine A_iload_n 1 d_MD_cut_19 rfl rfl ?_
      have g3 := H.1
      replace H := H.2
      refine A_isubv (z := (x1 - a1)) d_MD_cut_20 (w32_to (by omega) (by unfold i32; omega)) ?_
      refine A_pc (pc' := 21) rfl ?_
      refine A_putI T_ok d_MD_cut_21 f_MD_226 (hb_s hb0 sf_170) fin_f ?_
      refine A_hn (fun h4 eh4 => ?_)
      have hb5 := hb_i hb0 eh4
      replace H := H h4 eh4
      refine A_aload_n 0 d_MD_cut_24 rfl rfl ?_
      refine A_getIv (z := (x1 - a1)) T_ok d_MD_cut_25 f_MD_226 (hb_s hb5 sf_170) (mv_i eh4) ?_
      exact A_iret d_MD_cut_28 (by decide) rfl H
    · replace H := H.2 c
      refine A_pc (pc' := 12) rfl ?_
      refine A_free (L' := [none, none]) trivial ?_
      exact b_MD_cut_12    hb0 H
theorem c_MD_cut {G : cx_T} {s : Nat} {a1 : Int} {h : ah_T} {Q : Option av_T → ah_T → Prop} (hb0 : hb s h) (H : i32 a1 → B_MD_cut_0 G s a1 h Q ) : con G 0 0 0 m_MD_cut [av_R (some 170), av_I a1] h Q := by
  have hS : isS s := hb0.2.1
  refine con_of (L := [some (av_R (some 170)), some (av_I a1)]) (by decide +kernel) (Nat.le_of_ble_eq_true rfl) rfl ?_
  refine A_locI 1 rfl (fun ra1 => ?_)
  exact b_MD_cut_0   hb0 (H ra1)
