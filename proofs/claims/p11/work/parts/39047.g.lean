/-! ===== verification conditions, 507 ===== -/
def B_PM_putBytes_45 (G : cx_T) (s : Nat) (a1 : Int) (v2 : Int) (h : ah_T) (Q : Option av_T → ah_T → Prop) (X3 : Int → ah_T → Prop) : Prop :=
 ((-2147483648) ≤ (v2 - 8) ∧ (v2 - 8) ≤ 2147483647) ∧ X3 ((v2 - 8)) h
theorem b_PM_putBytes_45 {G : cx_T} {s : Nat} {a1 : Int} {v2 : Int} {h : ah_T} {Q : Option av_T → ah_T → Prop} {X3 : Int → ah_T → Prop} (hX3 : ∀ (v2 : Int) (h : ah_T), hb s h → X3 v2 h → aw G (rm_R 0 0 0) m_PM_putBytes 0 0 3 [some (av_R (some 0)), some (av_I a1), some (av_I v2)] [] h Q) (hb0 : hb s h) (H : B_PM_putBytes_45 G s a1 v2 h Q X3) : aw G (rm_R 0 0 0) m_PM_putBytes 0 0 45 [some (av_R (some 0)), some (av_I a1), some (av_I v2)] [] h Q := by
  unfold B_PM_putBytes_45 at H
  have hS : isS s := hb0.2.1
  have g1 := H.1
  replace H := H.2
  refine A_iincv (z := (v2 - 8)) (L' := [some (av_R (some 0)), some (av_I a1), some (av_I (v2 - 8))]) d_PM_putBytes_45 rfl (w32_to (by omega) (by unfold i32; omega)) rfl ?_
  refine A_goto (tgt := 3) d_PM_putBytes_48 (by decide) ?_
  refine A_pc (pc' := 3) rfl ?_
  exact hX3 ((v2 - 8)) h  hb0 H
def B_PM_putBytes_3 (G : cx_T) (s : Nat) (a1 : Int) (v2 : Int) (h : ah_T) (Q : Option av_T → ah_T → Prop) (X3 : Int → ah_T → Prop) : Prop :=
 ((v2 < 0 → Q none h) ∧ (¬ v2 < 0 → ∀ x1 : Int, x1 = h.2.1 0 1 → -2147483648 ≤ x1 → x1 ≤ 2147483647 → ((2000 ≤ x1 → B_PM_putBytes_45 G s a1 (v2) h Q X3) ∧ (¬ 2000 ≤ x1 → ∀ x5 : Int, x5 = ((Int32.ofInt a1).toUInt32 >>> ((Int32.ofInt v2).toUInt32 &&& Int32.toUInt32 31)).toInt32.toInt → (-2147483648) ≤ x5 → x5 ≤ 2147483647 → ∀ x6 : Int, x6 = ((Int32.ofInt x5) &&& (Int32.ofInt 255)).toInt → (-2147483648) ≤ x6 → x6 ≤ 2147483647 → (0 ≤ x1 ∧ x1 < 2000) ∧ ∀ h8 : ah_T, h8 = st_i h 1 (x1).toNat x6 → ((-2147483648) ≤ (x1 + 1) ∧ (x1 + 1) ≤ 2147483647) ∧ ∀ h12 : ah_T, h12 = st_i h8 0 1 (x1 + 1) → B_PM_putBytes_45 G s a1 (v2) h12 Q X3))))
theorem b_PM_putBytes_3 {G : cx_T} {s : Nat} {a1 : Int} {v2 : Int} {h : ah_T} {Q : Option av_T → ah_T → Prop} {X3 : Int → ah_T → Prop} (hX3 : ∀ (v2 : Int) (h : ah_T), hb s h → X3 v2 h → aw G (rm_R 0 0 0) m_PM_putBytes 0 0 3 [some (av_R (some 0)), some (av_I a1), some (av_I v2)] [] h Q) (hb0 : hb s h) (H : B_PM_putBytes_3 G s a1 v2 h Q X3) : aw G (rm_R 0 0 0) m_PM_putBytes 0 0 3 [some (av_R (some 0)), some (av_I a1), some (av_I v2)] [] h Q := by
  unfold B_PM_putBytes_3 at H
  have hS : isS s := hb0.2.1
  refine A_iload_n 2 d_PM_putBytes_3 rfl rfl ?_
  refine A_if_lt (tgt := 51) d_PM_putBytes_4 (by decide) (fun c => ?_) (fun c => ?_)
  · replace H := H.1 c
    exact A_vret d_PM_putBytes_51 (by decide) rfl H
  · replace H := H.2 c
    refine A_aload_n 0 d_PM_putBytes_7 rfl rfl ?_
    refine A_getIf T_ok d_PM_putBytes_8 f_PM_13 (hb_s hb0 sf_0) (fun x1 ex1 lx1 ux1 => ?_)
    replace H := H x1 ex1 lx1 ux1
    refine A_aload_n 0 d_PM_putBytes_11 rfl rfl ?_
    refine A_getAv (z := some 1) T_ok d_PM_putBytes_12 f_PM_9 (hb_s hb0 sf_0) (hb_r hb0 rff_0_0) ?_
    refine A_alenN d_PM_putBytes_15 (hb_s hb0 sf_1) (by decide) (by decide) ?_
    refine A_pc (pc' := 16) rfl ?_
    refine A_icmp_ge (tgt := 45) d_PM_putBytes_16 (by decide) (fun c => ?_) (fun c => ?_)
    · replace H := H.1 c
      refine A_pc (pc' := 45) rfl ?_
      exact b_PM_putBytes_45  hX3  hb0 H
    · replace H := H.2 c
      refine A_aload_n 0 d_PM_putBytes_19 rfl rfl ?_
      refine A_getAv (z := some 1) T_ok d_PM_putBytes_20 f_PM_9 (hb_s hb0 sf_0) (hb_r hb0 rff_0_0) ?_
      refine A_aload_n 0 d_PM_putBytes_23 rfl rfl ?_
      refine A_getIv (z := x1) T_ok d_PM_putBytes_24 f_PM_13 (hb_s hb0 sf_0) ex1.symm ?_
      refine A_iload_n 1 d_PM_putBytes_27 rfl rfl ?_
      refine A_pc (pc' := 28) rfl ?_
      refine A_iload_n 2 d_PM_putBytes_28 rfl rfl ?_
      refine A_iushr d_PM_putBytes_29 ?_
      refine A_nrI (fun x5 ex5 lx5 ux5 => ?_)
      replace H := H x5 ex5 lx5 ux5
      refine A_sipush d_PM_putBytes_30 rfl ?_
      refine A_iand d_PM_putBytes_33 ?_
      refine A_nrI (fun x6 ex6 lx6 ux6 => ?_)
      replace H := H x6 ex6 lx6 ux6
      have g7 := H.1
      replace H := H.2
      refine A_iastoreN d_PM_putBytes_34 (hb_s hb0 sf_1) g7.1 g7.2 ?_
      refine A_hn (fun h8 eh8 => ?_)
      have hb9 := hb_i hb0 eh8
      replace H := H h8 eh8
      refine A_aload_n 0 d_PM_putBytes_35 rfl rfl ?_
      refine A_pc (pc' := 36) rfl ?_
      refine A_dupR d_PM_putBytes_36 ?_
      refine A_getIv (z := x1) T_ok d_PM_putBytes_37 f_PM_13 (hb_s hb9 sf_0) ((mm_i eh8 (fun q => absurd q.1 (by decide))).trans ex1.symm) ?_
      refine A_iconst d_PM_putBytes_40 rfl ?_
      have g11 := H.1
      replace H := H.2
      refine A_iaddv (z := (x1 + 1)) d_PM_putBytes_41 (w32_to (by omega) (by unfold i32; omega)) ?_
      refine A_putI T_ok d_PM_putBytes_42 f_PM_13 (hb_s hb9 sf_0) fin_f ?_
      refine A_hn (fun h12 eh12 => ?_)
      have hb13 := hb_i hb9 eh12
      replace H := H h12 eh12
      refine A_pc (pc' := 45) rfl ?_
      exact b_PM_putBytes_45  hX3  hb13 H
theorem lp_PM_putBytes_3 {G : cx_T} {s : Nat} {a1 : Int} {Q : Option av_T → ah_T → Prop} (I : Int → ah_T → Prop) (μ : Int → ah_T → Nat) (hI : ∀ (v2 : Int) (h : ah_T), hb s h → I v2 h → B_PM_putBytes_3 G s a1 v2 h Q (fun v2' h' => I v2' h' ∧ μ v2' h' < μ v2 h)) : ∀ (v2 : Int) (h : ah_T), hb s h → I v2 h → aw G (rm_R 0 0 0) m_PM_putBytes 0 0 3 [some (av_R (some 0)), some (av_I a1), some (av_I v2)] [] h Q := by
  have key : ∀ (n : Nat) (v2 : Int) (h : ah_T), hb s h → I v2 h → μ v2 h < n → aw G (rm_R 0 0 0) m_PM_putBytes 0 0 3 [some (av_R (some 0)), some (av_I a1), some (av_I v2)] [] h Q := by
    intro n
    induction n with
    | zero => intro v2 h  hb0 hi hm; omega
    | succ n ih => intro v2 h  hb0 hi hm; exact b_PM_putBytes_3  (fun v2' h'  hb' hx => ih v2' h'  hb' hx.1 (by have := hx.2; omega))  hb0 (hI v2 h  hb0 hi)
  exact fun v2 h  hb0 hi => key _ v2 h  hb0 hi (Nat.lt_succ_self _)
def B_PM_putBytes_0 (G : cx_T) (s : Nat) (a1 : Int) (h : ah_T) (Q : Option av_T → ah_T → Prop) (X3 : Int → ah_T → Prop) : Prop :=
 X3 (24) h
theorem b_PM_putBytes_0 {G : cx_T} {s : Nat} {a1 : Int} {h : ah_T} {Q : Option av_T → ah_T → Prop} {X3 : Int → ah_T → Prop} (hX3 : ∀ (v2 : Int) (h : ah_T), hb s h → X3 v2 h → aw G (rm_R 0 0 0) m_PM_putBytes 0 0 3 [some (av_R (some 0)), some (av_I a1), some (av_I v2)] [] h Q) (hb0 : hb s h) (H : B_PM_putBytes_0 G s a1 h Q X3) : aw G (rm_R 0 0 0) m_PM_putBytes 0 0 0 [some (av_R (some 0)), some (av_I a1), none] [] h Q := by
  unfold B_PM_putBytes_0 at H
  have hS : isS s := hb0.2.1
  refine A_bipush d_PM_putBytes_0 rfl ?_
  refine A_istore_n 2 (L' := [some (av_R (some 0)), some (av_I a1), some (av_I 24)]) d_PM_putBytes_2 rfl (Nat.le_of_ble_eq_true rfl) rfl ?_
  refine A_pc (pc' := 3) rfl ?_
  exact hX3 (24) h  hb0 H
theorem c_PM_putBytes {G : cx_T} {s : Nat} {a1 : Int} {h : ah_T} {Q : Option av_T → ah_T → Prop} {X3 : Int → ah_T → Prop} (hX3 : ∀ (v2 : Int) (h : ah_T), hb s h → X3 v2 h → aw G (rm_R 0 0 0) m_PM_putBytes 0 0 3 [some (av_R (some 0)), some (av_I a1), some (av_I v2)] [] h Q) (hb0 : hb s h) (H : i32 a1 → B_PM_putBytes_0 G s a1 h Q X3) : con G 0 0 0 m_PM_putBytes [av_R (some 0), av_I a1] h Q := by
  have hS : isS s := hb0.2.1
  refine con_of (L := [some (av_R (some 0)), some (av_I a1), none]) (by decide +kernel) (Nat.le_of_ble_eq_true rfl) rfl ?_
  refine A_locI 1 rfl (fun ra1 => ?_)
  exact b_PM_putBytes_0  hX3 hb0 (H ra1)
def B_PM_feed_0 (G : cx_T) (s : Nat) (a1 : Int) (a2 : Int) (a3 : Int) (a4 : Int) (a5 : Int) (h : ah_T) (Q : Option av_T → ah_T → Prop) : Prop :=
 ∀ x1 : Int, x1 = h.2.1 0 1 → -2147483648 ≤ x1 → x1 ≤ 2147483647 → ((-2147483648) ≤ (x1 + 20) ∧ (x1 + 20) ≤ 2147483647) ∧ (((x1 + 20) ≤ 2000 → con G 0 0 0 m_PM_putBytes [av_R (some 0), av_I a1] h (fun r h3 => r = none ∧ hb s h3 ∧ con G 0 0 0 m_PM_putBytes [av_R (some 0), av_I a2] h3 (fun r h6 => r = none ∧ hb s h6 ∧ con G 0 0 0 m_PM_putBytes [av_R (some 0), av_I a3] h6 (fun r h9 => r = none ∧ hb s h9 ∧ con G 0 0 0 m_PM_putBytes [av_R (some 0), av_I a4] h9 (fun r h12 => r = none ∧ hb s h12 ∧ con G 0 0 0 m_PM_putBytes [av_R (some 0), av_I a5] h12 (fun r h15 => r = none ∧ hb s h15 ∧ ∀ x18 : Int, x18 = h15.2.1 0 1 → -2147483648 ≤ x18 → x18 ≤ 2147483647 → Q (some (av_I x18)) h15)))))) ∧ (¬ (x1 + 20) ≤ 2000 → Q (some (av_I (-3))) h))
theorem b_PM_feed_0 {G : cx_T} {s : Nat} {a1 : Int} {a2 : Int} {a3 : Int} {a4 : Int} {a5 : Int} {h : ah_T} {Q : Option av_T → ah_T → Prop} (hb0 : hb s h) (H : B_PM_feed_0 G s a1 a2 a3 a4 a5 h Q ) : aw G (rm_R 1 0 0) m_PM_feed 0 0 0 [some (av_R (some 0)), some (av_I a1), some (av_I a2), some (av_I a3), some (av_I a4), some (av_I a5)] [] h Q := by
  unfold B_PM_feed_0 at H
  have hS : isS s := hb0.2.1
  refine A_aload_n 0 d_PM_feed_0 rfl rfl ?_
  refine A_getIf T_ok d_PM_feed_1 f_PM_13 (hb_s hb0 sf_0) (fun x1 ex1 lx1 ux1 => ?_)
  replace H := H x1 ex1 lx1 ux1
  refine A_bipush d_PM_feed_4 rfl ?_
  have g2 := H.1
  replace H := H.2
  refine A_iaddv (z := (x1 + 20)) d_PM_feed_6 (w32_to (by omega) (by unfold i32; omega)) ?_
  refine A_sipush d_PM_feed_7 rfl ?_
  refine A_pc (pc' := 10) rfl ?_
  refine A_icmp_le (tgt := 16) d_PM_feed_10 (by decide) (fun c => ?_) (fun c => ?_)
  · replace H := H.1 c
    refine A_aload_n 0 d_PM_feed_16 rfl rfl ?_
    refine A_iload_n 1 d_PM_feed_17 rfl rfl ?_
    refine A_callV1 m_PM_putBytes T_ok d_PM_feed_18 l_PM_76 k_PM_putBytes (hb_s hb0 sf_0) rfl (by decide +kernel) (by decide) (Nat.le_of_ble_eq_true rfl) H (fun r h3 hq => ?_)
    clear H
    obtain ⟨rfl, hb4, H⟩ := hq
    refine A_aload_n 0 d_PM_feed_21 rfl rfl ?_
    refine A_iload_n 2 d_PM_feed_22 rfl rfl ?_
    refine A_callV1 m_PM_putBytes T_ok d_PM_feed_23 l_PM_76 k_PM_putBytes (hb_s hb4 sf_0) rfl (by decide +kernel) (by decide) (Nat.le_of_ble_eq_true rfl) H (fun r h6 hq => ?_)
    clear H
    obtain ⟨rfl, hb7, H⟩ := hq
    refine A_aload_n 0 d_PM_feed_26 rfl rfl ?_
    refine A_iload_n 3 d_PM_feed_27 rfl rfl ?_
    refine A_callV1 m_PM_putBytes T_ok d_PM_feed_28 l_PM_76 k_PM_putBytes (hb_s hb7 sf_0) rfl (by decide +kernel) (by decide) (Nat.le_of_ble_eq_true rfl) H (fun r h9 hq => ?_)
    clear H
    obtain ⟨rfl, hb10, H⟩ := hq
    refine A_aload_n 0 d_PM_feed_31 rfl rfl ?_
    refine A_iload d_PM_feed_32 rfl ?_
    refine A_callV1 m_PM_putBytes T_ok d_PM_feed_34 l_PM_76 k_PM_putBytes (hb_s hb10 sf_0) rfl (by decide +kernel) (by decide) (Nat.le_of_ble_eq_true rfl) H (fun r h12 hq => ?_)
    clear H
    obtain ⟨rfl, hb13, H⟩ := hq
    refine A_aload_n 0 d_PM_feed_37 rfl rfl ?_
    refine A_iload d_PM_feed_38 rfl ?_
    refine A_callV1 m_PM_putBytes T_ok d_PM_feed_40 l_PM_76 k_PM_putBytes (hb_s hb13 sf_0) rfl (by decide +kernel) (by decide) (Nat.le_of_ble_eq_true rfl) H (fun r h15 hq => ?_)
    clear H
    obtain ⟨rfl, hb16, H⟩ := hq
    refine A_aload_n 0 d_PM_feed_43 rfl rfl ?_
    refine A_getIf T_ok d_PM_feed_44 f_PM_13 (hb_s hb16 sf_0) (fun x18 ex18 lx18 ux18 => ?_)
    replace H := H x18 ex18 lx18 ux18
    exact A_iret d_PM_feed_47 (by decide) rfl H
  · replace H := H.2 c
    refine A_bipush d_PM_feed_13 rfl ?_
    exact A_iret d_PM_feed_15 (by decide) rfl H
theorem c_PM_feed {G : cx_T} {s : Nat} {a1 : Int} {a2 : Int} {a3 : Int} {a4 : Int} {a5 : Int} {h : ah_T} {Q : Option av_T → ah_T → Prop} (hb0 : hb s h) (H : i32 a1 → i32 a2 → i32 a3 → i32 a4 → i32 a5 → B_PM_feed_0 G s a1 a2 a3 a4 a5 h Q ) : con G 1 0 0 m_PM_feed [av_R (some 0), av_I a1, av_I a2, av_I a3, av_I a4, av_I a5] h Q := by
  have hS : isS s := hb0.2.1
  refine con_of (L := [some (av_R (some 0)), some (av_I a1), some (av_I a2), some (av_I a3), some (av_I a4), some (av_I a5)]) (by decide +kernel) (Nat.le_of_ble_eq_true rfl) rfl ?_
  refine A_locI 1 rfl (fun ra1 => ?_)
  refine A_locI 2 rfl (fun ra2 => ?_)
  refine A_locI 3 rfl (fun ra3 => ?_)
  refine A_locI 4 rfl (fun ra4 => ?_)
  refine A_locI 5 rfl (fun ra5 => ?_)
  exact b_PM_feed_0   hb0 (H ra1 ra2 ra3 ra4 ra5)
def B_PM_cut_12 (G : cx_T) (s : Nat) (a1 : Int) (h : ah_T) (Q : Option av_T → ah_T → Prop) : Prop :=
 Q (some (av_I (-1))) h
theorem b_PM_cut_12 {G : cx_T} {s : Nat} {a1 : Int} {h : ah_T} {Q : Option av_T → ah_T → Prop} (hb0 : hb s h) (H : B_PM_cut_12 G s a1 h Q ) : aw G (rm_R 0 0 0) m_PM_cut 0 0 12 [none, none] [] h Q := by
  unfold B_PM_cut_12 at H
  have hS : isS s := hb0.2.1
  refine A_iconst d_PM_cut_12 rfl ?_
  exact A_iret d_PM_cut_13 (by decide) rfl H
def B_PM_cut_0 (G : cx_T) (s : Nat) (a1 : Int) (h : ah_T) (Q : Option av_T → ah_T → Prop) : Prop :=
 ((a1 < 0 → B_PM_cut_12 G s a1 h Q ) ∧ (¬ a1 < 0 → ∀ x1 : Int, x1 = h.2.1 0 1 → -2147483648 ≤ x1 → x1 ≤ 2147483647 → ((a1 ≤ x1 → ((-2147483648) ≤ (x1 - a1) ∧ (x1 - a1) ≤ 2147483647) ∧ ∀ h4 : ah_T, h4 = st_i h 0 1 (x1 - a1) → Q (some (av_I (x1 - a1))) h4) ∧ (¬ a1 ≤ x1 → B_PM_cut_12 G s a1 h Q ))))
theorem b_PM_cut_0 {G : cx_T} {s : Nat} {a1 : Int} {h : ah_T} {Q : Option av_T → ah_T → Prop} (hb0 : hb s h) (H : B_PM_cut_0 G s a1 h Q ) : aw G (rm_R 0 0 0) m_PM_cut 0 0 0 [some (av_R (some 0)), some (av_I a1)] [] h Q := by
  unfold B_PM_cut_0 at H
  have hS : isS s := hb0.2.1
  refine A_iload_n 1 d_PM_cut_0 rfl rfl ?_
  refine A_if_lt (tgt := 12) d_PM_cut_1 (by decide) (fun c => ?_) (fun c => ?_)
  · replace H := H.1 c
    refine A_pc (pc' := 12) rfl ?_
    refine A_free (L' := [none, none]) trivial ?_
    exact b_PM_cut_12    hb0 H
  · replace H := H.2 c
    refine A_iload_n 1 d_PM_cut_4 rfl rfl ?_
    refine A_aload_n 0 d_PM_cut_5 rfl rfl ?_
    refine A_getIf T_ok d_PM_cut_6 f_PM_13 (hb_s hb0 sf_0) (fun x1 ex1 lx1 ux1 => ?_)
    replace H := H x1 ex1 lx1 ux1
    refine A_icmp_le (tgt := 14) d_PM_cut_9 (by decide) (fun c => ?_) (fun c => ?_)
    · replace H := H.1 c
      refine A_aload_n 0 d_PM_cut_14 rfl rfl ?_
      refine A_dupR d_PM_cut_15 ?_
      refine A_getIv (z := x1) T_ok d_PM_cut_16 f_PM_13 (hb_s hb0 sf_0) ex1.symm ?_
      refine A_iload_n 1 d_PM_cut_19 rfl rfl ?_
      have g3 := H.1
      replace H := H.2
      refine A_isubv (z := (x1 - a1)) d_PM_cut_20 (w32_to (by omega) (by unfold i32; omega)) ?_
      refine A_pc (pc' := 21) rfl ?_
      refine A_putI T_ok d_PM_cut_21 f_PM_13 (hb_s hb0 sf_0) fin_f ?_
      refine A_hn (fun h4 eh4 => ?_)
      have hb5 := hb_i hb0 eh4
      replace H := H h4 eh4
      refine A_aload_n 0 d_PM_cut_24 rfl rfl ?_
      refine A_getIv (z := (x1 - a1)) T_ok d_PM_cut_25 f_PM_13 (hb_s hb5 sf_0) (mv_i eh4) ?_
      exact A_iret d_PM_cut_28 (by decide) rfl H
    · replace H := H.2 c
      refine A_pc (pc' := 12) rfl ?_
      refine A_free (L' := [none, none]) trivial ?_
      exact b_PM_cut_12    hb0 H
theorem c_PM_cut {G : cx_T} {s : Nat} {a1 : Int} {h : ah_T} {Q : Option av_T → ah_T → Prop} (hb0 : hb s h) (H : i32 a1 → B_PM_cut_0 G s a1 h Q ) : con G 0 0 0 m_PM_cut [av_R (some 0), av_I a1] h Q := by
  have hS : isS s := hb0.2.1
  refine con_of (L := [some (av_R (some 0)), some (av_I a1)]) (by decide +kernel) (Nat.le_of_ble_eq_true rfl) rfl ?_
  refine A_locI 1 rfl (fun ra1 => ?_)
  exact b_PM_cut_0   hb0 (H ra1)

/-! ===== the class: the tape, byte by byte ===== -/
/-- byte i of an int, from the top -/
def byt (a : Int) (i : Nat) : Int := an_I (us_I a (24 - 8 * (i : Int))) 255
theorem t_PM_putBytes {G : cx_T} {s k : Nat} {h : ah_T} {a : Int} (hb0 : hb s h) (hk : h.2.1 0 1 = (k : Int)) (hk2 : k + 4 ≤ 2000) : con G 0 0 0 m_PM_putBytes [av_R (some 0), av_I a] h (fun r h' => r = none ∧ hb s h' ∧ fr (fun x j => (x = 0 ∧ j = 1) ∨ (x = 1 ∧ k ≤ j ∧ j < k + 4)) h h' ∧ h'.2.1 0 1 = (k : Int) + 4 ∧ ∀ i, i < 4 → h'.2.1 1 (k + i) = byt a i) := by
  refine c_PM_putBytes (X3 := fun v2 hh => ∃ i : Nat, i ≤ 4 ∧ v2 = 24 - 8 * (i : Int) ∧ hh.2.1 0 1 = (k : Int) + i ∧ fr (fun x j => (x = 0 ∧ j = 1) ∨ (x = 1 ∧ k ≤ j ∧ j < k + 4)) h hh ∧ ∀ j, j < i → hh.2.1 1 (k + j) = byt a j) ?_ hb0 (fun _ => ?_)
  · refine lp_PM_putBytes_3 (a1 := a) _ (fun v2 _ => (v2 + 8).toNat) ?_
    rintro v2 hh hb1 ⟨i, hi, rfl, hki, hf, hby⟩
    unfold B_PM_putBytes_3 B_PM_putBytes_45
    refine ⟨fun c => ?_, fun c x1 e1 _ _ => ⟨fun c1 => by omega, fun c1 x5 e5 _ _ x6 e6 _ _ => ⟨⟨by omega, by omega⟩, ?_⟩⟩⟩
    · have hi4 : i = 4 := by omega
      subst hi4
      exact ⟨rfl, hb1, hf, by rw [hki]; rfl, hby⟩
    · have ek : x1.toNat = k + i := by omega
      rw [ek]
      intro h8 e8
      refine ⟨⟨by omega, by omega⟩, fun h12 e12 => ⟨⟨by omega, by omega⟩, ⟨i + 1, by omega, by omega, by rw [mv_i e12]; omega, fr_i (fr_i hf e8 (by omega)) e12 (by omega), fun j hj => ?_⟩, by omega⟩⟩
      rw [mm_i e12 (by omega)]
      by_cases c2 : j = i
      · rw [c2, mv_i e8, e6, e5]; rfl
      · rw [mm_i e8 (by omega)]; exact hby j (by omega)
  · unfold B_PM_putBytes_0
    exact ⟨0, by decide, rfl, by rw [hk]; omega, fr_0, fun j hj => by omega⟩
/-- the twenty bytes of a feed -/
def fdb (a b c d e : Int) (j : Nat) : Int := if j < 4 then byt a j else if j < 8 then byt b (j - 4) else if j < 12 then byt c (j - 8) else if j < 16 then byt d (j - 12) else byt e (j - 16)
theorem t_PM_feed {G : cx_T} {s k : Nat} {h : ah_T} {a b c d e : Int} (hb0 : hb s h) (hk : h.2.1 0 1 = (k : Int)) (hk2 : k ≤ 2000) : con G 1 0 0 m_PM_feed [av_R (some 0), av_I a, av_I b, av_I c, av_I d, av_I e] h (fun r h' => hb s h' ∧ ((k + 20 ≤ 2000 ∧ r = some (av_I ((k : Int) + 20)) ∧ fr (fun x j => (x = 0 ∧ j = 1) ∨ (x = 1 ∧ k ≤ j ∧ j < k + 20)) h h' ∧ h'.2.1 0 1 = (k : Int) + 20 ∧ ∀ j, j < 20 → h'.2.1 1 (k + j) = fdb a b c d e j) ∨ (¬ k + 20 ≤ 2000 ∧ r = some (av_I (-3)) ∧ h' = h))) := by
  refine c_PM_feed hb0 (fun _ _ _ _ _ => ?_)
  unfold B_PM_feed_0
  intro x1 e1 _ _
  obtain rfl : x1 = (k : Int) := e1.trans hk
  refine ⟨⟨by omega, by omega⟩, fun w => ?_, fun w => ⟨hb0, Or.inr ⟨by omega, rfl, rfl⟩⟩⟩
  refine con_mono (t_PM_putBytes hb0 hk (by omega)) ?_
  rintro r h3 ⟨rfl, hb3, f3, k3, y3⟩
  refine ⟨rfl, hb3, con_mono (t_PM_putBytes (k := k + 4) hb3 (by rw [k3]; omega) (by omega)) ?_⟩
  rintro r h6 ⟨rfl, hb6, f6, k6, y6⟩
  refine ⟨rfl, hb6, con_mono (t_PM_putBytes (k := k + 8) hb6 (by rw [k6]; omega) (by omega)) ?_⟩
  rintro r h9 ⟨rfl, hb9, f9, k9, y9⟩
  refine ⟨rfl, hb9, con_mono (t_PM_putBytes (k := k + 12) hb9 (by rw [k9]; omega) (by omega)) ?_⟩
  rintro r h12 ⟨rfl, hb12, f12, k12, y12⟩
  refine ⟨rfl, hb12, con_mono (t_PM_putBytes (k := k + 16) hb12 (by rw [k12]; omega) (by omega)) ?_⟩
  rintro r h15 ⟨rfl, hb15, f15, k15, y15⟩
  refine ⟨rfl, hb15, fun x18 e18 _ _ => ⟨hb15, Or.inl ⟨by omega, ?_, ?_, by rw [k15]; omega, fun j hj => ?_⟩⟩⟩
  · have : x18 = (k : Int) + 20 := by rw [e18, k15]; omega
    rw [this]
  · exact fr_t (fr_t (fr_t (fr_t (fr_w f3 (fun a k w => by omega)) f6 (fun a k w => by omega)) f9 (fun a k w => by omega)) f12 (fun a k w => by omega)) f15 (fun a k w => by omega)
  · unfold fdb
    by_cases c1 : j < 4
    · rw [if_pos c1, fr_g f15 (by omega), fr_g f12 (by omega), fr_g f9 (by omega), fr_g f6 (by omega)]; exact y3 j c1
    rw [if_neg c1]
    by_cases c2 : j < 8
    · rw [if_pos c2, fr_g f15 (by omega), fr_g f12 (by omega), fr_g f9 (by omega)]
      have := y6 (j - 4) (by omega)
      rw [show k + 4 + (j - 4) = k + j by omega] at this; exact this
    rw [if_neg c2]
    by_cases c3 : j < 12
    · rw [if_pos c3, fr_g f15 (by omega), fr_g f12 (by omega)]
      have := y9 (j - 8) (by omega)
      rw [show k + 8 + (j - 8) = k + j by omega] at this; exact this
    rw [if_neg c3]
    by_cases c4 : j < 16
    · rw [if_pos c4, fr_g f15 (by omega)]
      have := y12 (j - 12) (by omega)
      rw [show k + 12 + (j - 12) = k + j by omega] at this; exact this
    rw [if_neg c4]
    have := y15 (j - 16) (by omega)
    rw [show k + 16 + (j - 16) = k + j by omega] at this; exact this
theorem t_PM_cut {G : cx_T} {s k : Nat} {h : ah_T} {a : Int} (hb0 : hb s h) (hk : h.2.1 0 1 = (k : Int)) (hk2 : k ≤ 2000) : con G 0 0 0 m_PM_cut [av_R (some 0), av_I a] h (fun r h' => hb s h' ∧ ((0 ≤ a ∧ a ≤ k ∧ r = some (av_I ((k : Int) - a)) ∧ fr (fun x j => x = 0 ∧ j = 1) h h' ∧ h'.2.1 0 1 = (k : Int) - a) ∨ (¬ (0 ≤ a ∧ a ≤ k) ∧ r = some (av_I (-1)) ∧ h' = h))) := by
  refine c_PM_cut hb0 (fun _ => ?_)
  unfold B_PM_cut_0 B_PM_cut_12
  refine ⟨fun c => ⟨hb0, Or.inr ⟨by omega, rfl, rfl⟩⟩, fun c x1 e1 _ _ => ?_⟩
  obtain rfl : x1 = (k : Int) := e1.trans hk
  exact ⟨fun c1 => ⟨⟨by omega, by omega⟩, fun h4 e4 => ⟨hb_i hb0 e4, Or.inl ⟨by omega, c1, rfl, fr_i fr_0 e4 ⟨rfl, rfl⟩, mv_i e4⟩⟩⟩, fun c1 => ⟨hb0, Or.inr ⟨by omega, rfl, rfl⟩⟩⟩

/-! ===== two contracts of one call hold together ===== -/
theorem ended_within {s : State} {below : List Frame} {o : Outcome} (h : Ended s below o) (w : Within s below) : False := by
  obtain ⟨ab, e, ne, nt⟩ := w
  have hp : 0 < ab.length := List.length_pos_iff.mpr ne
  cases o with
  | threw a =>
    have h' : s.frames = .throwing a :: below := h
    rw [e] at h'
    have : ab = [.throwing a] := List.append_cancel_right (as := ab) (bs := below) (cs := [.throwing a]) (by simpa using h')
    exact nt a this
  | returned v =>
    have hl : s.frames.length = below.length := by
      unfold Ended at h
      dsimp only at h
      split at h
      · obtain ⟨c, i, len, -, -, h⟩ := h; rw [h]; rfl
      · rw [h]; rfl
      · rw [h]; rfl
      · rw [h.2]
    rw [e, List.length_append] at hl
    omega
theorem ended_one {tb : Tables} {e : Env} {s : State} {below : List Frame} {n1 n2 : Nat} {o1 o2 : Outcome} (w1 : ∀ k, k < n1 → Within (stepsAlone tb e k s) below) (e1 : Ended (stepsAlone tb e n1 s) below o1) (w2 : ∀ k, k < n2 → Within (stepsAlone tb e k s) below) (e2 : Ended (stepsAlone tb e n2 s) below o2) : n1 = n2 := by
  rcases Nat.lt_trichotomy n1 n2 with h | h | h
  · exact (ended_within e1 (w2 n1 h)).elim
  · exact h
  · exact (ended_within e2 (w1 n2 h)).elim
theorem ended_val {s : State} {below : List Frame} {o1 o2 : Outcome} (h1 : Ended s below o1) (h2 : Ended s below o2) : o1 = o2 := by
  have len : ∀ v, Ended s below (.returned v) → s.frames.length = below.length := by
    intro v h
    unfold Ended at h
    dsimp only at h
    split at h
    · obtain ⟨c, i, len, -, -, h⟩ := h; rw [h]; rfl
    · rw [h]; rfl
    · rw [h]; rfl
    · rw [h.2]
  have thr : ∀ a, Ended s below (.threw a) → s.frames = .throwing a :: below := fun a h => h
  cases o1 with
  | threw a =>
    have e1 := thr a h1
    cases o2 with
    | threw b => have e2 := thr b h2; rw [e1] at e2; injection e2 with e3 _; injection e3 with e4; rw [e4]
    | returned v => have := len v h2; rw [e1, List.length_cons] at this; omega
  | returned v =>
    cases o2 with
    | threw b => have e2 := thr b h2; have := len v h1; rw [e2, List.length_cons] at this; omega
    | returned w =>
      congr 1
      unfold Ended at h1 h2
      dsimp only at h1 h2
      split at h1
      · obtain ⟨c, i, l, x1, x2, x3⟩ := h1
        obtain ⟨c', i', l', y1, y2, y3⟩ := h2
        rw [x3] at y3
        injection y3 with y4 _
        injection y4 with y5
        injection y5 with _ _ _ y6
        first
          | (have := List.append_cancel_right y6; cases v <;> cases w <;> simp_all)
          | simp_all
      · rw [h1] at h2
        injection h2 with y4 _
        injection y4 with y5
        simp_all
      · rw [h1] at h2
        injection h2 with y4 _
        injection y4 with y5
        simp_all
      · split at h2
        all_goals first
          | (rw [h1.1, h2.1]; done)
          | (exfalso; simp_all)
/-- what both say of one heap -/
def sameH (G : cx_T) (h1 h2 : ah_T) : Prop := ∃ t : State, hr_OK G h1 t.heap ∧ hr_OK G h2 t.heap
theorem con_conj {G : cx_T} {d mc ms : Nat} {M : mr_T} {As : List av_T} {h h2 : ah_T} {Q1 Q2 : Option av_T → ah_T → Prop} (H1 : con G d mc ms M As h Q1) (H2 : con G d mc ms M As h Q2) : con G d mc ms M As h (fun r h' => Q1 r h' ∧ ∃ r2 h2, Q2 r2 h2 ∧ r2.map (cv G) = r.map (cv G) ∧ sameH G h' h2) := by
  intro hn
  have K1 := H1 hn
  have K2 := H2 hn
  unfold Met MetFree at *
  intro p e hp hf hc s m args below hs ha hP hK
  obtain ⟨n, o, a1, a2, a3, ⟨⟨r, h', q1, q2, q3, q4, q5⟩, a5⟩, a6⟩ := K1 p e hp hf hc s m args below hs ha hP hK
  obtain ⟨n', o', b1, b2, b3, ⟨⟨r', h'', c1, c2, c3, c4, c5⟩, b5⟩, b6⟩ := K2 p e hp hf hc s m args below hs ha hP hK
  have en := ended_one a1 a3 b1 b3
  subst en
  have eo := ended_val a3 b3
  rw [q1, c1] at eo
  injection eo with eo
  exact ⟨n, o, a1, a2, a3, ⟨⟨r, h', q1, q2, ⟨q3, r', h'', c3, eo.symm, _, q4, c4⟩, q4, q5⟩, a5⟩, a6⟩
