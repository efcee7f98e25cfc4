/-! ===== verification conditions, 512 ===== -/
def B_MD_tell_51 (G : cx_T) (s : Nat) (a1 : Int) (a2 : Int) (a3 : Int) (a4 : Int) (h : ah_T) (Q : Option av_T → ah_T → Prop) : Prop :=
 ∀ x1 : Int, x1 = h.2.1 170 80 → -2147483648 ≤ x1 → x1 ≤ 2147483647 → ((-2147483648) ≤ (x1 + 1) ∧ (x1 + 1) ≤ 2147483647) ∧ ∀ h3 : ah_T, h3 = st_i h 170 80 (x1 + 1) → Q none h3
theorem b_MD_tell_51 {G : cx_T} {s : Nat} {a1 : Int} {a2 : Int} {a3 : Int} {a4 : Int} {h : ah_T} {Q : Option av_T → ah_T → Prop} (hb0 : hb s h) (H : B_MD_tell_51 G s a1 a2 a3 a4 h Q ) : aw G (rm_R 0 0 0) m_MD_tell 0 0 51 [some (av_R (some 170)), none, none, none, none] [] h Q := by
  unfold B_MD_tell_51 at H
  have hS : isS s := hb0.2.1
  refine A_aload_n 0 d_MD_tell_51 rfl rfl ?_
  refine A_dupR d_MD_tell_52 ?_
  refine A_getIf T_ok d_MD_tell_53 f_MD_471 (hb_s hb0 sf_170) (fun x1 ex1 lx1 ux1 => ?_)
  replace H := H x1 ex1 lx1 ux1
  refine A_iconst d_MD_tell_56 rfl ?_
  have g2 := H.1
  replace H := H.2
  refine A_iaddv (z := (x1 + 1)) d_MD_tell_57 (w32_to (by omega) (by unfold i32; omega)) ?_
  refine A_pc (pc' := 58) rfl ?_
  refine A_putI T_ok d_MD_tell_58 f_MD_471 (hb_s hb0 sf_170) fin_f ?_
  refine A_hn (fun h3 eh3 => ?_)
  have hb4 := hb_i hb0 eh3
  replace H := H h3 eh3
  exact A_vret d_MD_tell_61 (by decide) rfl H
def B_MD_tell_0 (G : cx_T) (s : Nat) (a1 : Int) (a2 : Int) (a3 : Int) (a4 : Int) (h : ah_T) (Q : Option av_T → ah_T → Prop) : Prop :=
 ∀ x1 : Int, x1 = h.2.1 170 80 → -2147483648 ≤ x1 → x1 ≤ 2147483647 → ((8000 ≤ x1 → B_MD_tell_51 G s a1 a2 a3 a4 h Q ) ∧ (¬ 8000 ≤ x1 → (0 ≤ x1 ∧ x1 < 8000) ∧ ∀ h5 : ah_T, h5 = st_i h 221 (x1).toNat a1 → ∀ h9 : ah_T, h9 = st_i h5 222 (x1).toNat a2 → ∀ h13 : ah_T, h13 = st_i h9 223 (x1).toNat a3 → ∀ h17 : ah_T, h17 = st_i h13 224 (x1).toNat a4 → B_MD_tell_51 G s a1 a2 a3 a4 h17 Q ))
theorem b_MD_tell_0 {G : cx_T} {s : Nat} {a1 : Int} {a2 : Int} {a3 : Int} {a4 : Int} {h : ah_T} {Q : Option av_T → ah_T → Prop} (hb0 : hb s h) (H : B_MD_tell_0 G s a1 a2 a3 a4 h Q ) : aw G (rm_R 0 0 0) m_MD_tell 0 0 0 [some (av_R (some 170)), some (av_I a1), some (av_I a2), some (av_I a3), some (av_I a4)] [] h Q := by
  unfold B_MD_tell_0 at H
  have hS : isS s := hb0.2.1
  refine A_aload_n 0 d_MD_tell_0 rfl rfl ?_
  refine A_getIf T_ok d_MD_tell_1 f_MD_471 (hb_s hb0 sf_170) (fun x1 ex1 lx1 ux1 => ?_)
  replace H := H x1 ex1 lx1 ux1
  refine A_sipush d_MD_tell_4 rfl ?_
  refine A_icmp_ge (tgt := 51) d_MD_tell_7 (by decide) (fun c => ?_) (fun c => ?_)
  · replace H := H.1 c
    refine A_pc (pc' := 51) rfl ?_
    refine A_free (L' := [some (av_R (some 170)), none, none, none, none]) (And.intro rfl trivial) ?_
    exact b_MD_tell_51    hb0 H
  · replace H := H.2 c
    refine A_aload_n 0 d_MD_tell_10 rfl rfl ?_
    refine A_getAv (z := some 221) T_ok d_MD_tell_11 f_MD_166 (hb_s hb0 sf_170) (hb_m hb0 rfm_81) ?_
    refine A_aload_n 0 d_MD_tell_14 rfl rfl ?_
    refine A_getIv (z := x1) T_ok d_MD_tell_15 f_MD_471 (hb_s hb0 sf_170) ex1.symm ?_
    refine A_iload_n 1 d_MD_tell_18 rfl rfl ?_
    refine A_pc (pc' := 19) rfl ?_
    have g4 := H.1
    replace H := H.2
    refine A_iastoreN d_MD_tell_19 (hb_s hb0 sf_221) g4.1 g4.2 ?_
    refine A_hn (fun h5 eh5 => ?_)
    have hb6 := hb_i hb0 eh5
    replace H := H h5 eh5
    refine A_aload_n 0 d_MD_tell_20 rfl rfl ?_
    refine A_getAv (z := some 222) T_ok d_MD_tell_21 f_MD_169 (hb_s hb6 sf_170) (hb_m hb6 rfm_82) ?_
    refine A_aload_n 0 d_MD_tell_24 rfl rfl ?_
    refine A_getIv (z := x1) T_ok d_MD_tell_25 f_MD_471 (hb_s hb6 sf_170) ((mm_i eh5 (fun q => absurd q.1 (by decide))).trans ex1.symm) ?_
    refine A_iload_n 2 d_MD_tell_28 rfl rfl ?_
    refine A_pc (pc' := 29) rfl ?_
    refine A_iastoreN d_MD_tell_29 (hb_s hb6 sf_222) g4.1 g4.2 ?_
    refine A_hn (fun h9 eh9 => ?_)
    have hb10 := hb_i hb6 eh9
    replace H := H h9 eh9
    refine A_aload_n 0 d_MD_tell_30 rfl rfl ?_
    refine A_getAv (z := some 223) T_ok d_MD_tell_31 f_MD_172 (hb_s hb10 sf_170) (hb_m hb10 rfm_83) ?_
    refine A_aload_n 0 d_MD_tell_34 rfl rfl ?_
    refine A_getIv (z := x1) T_ok d_MD_tell_35 f_MD_471 (hb_s hb10 sf_170) ((mm_i eh9 (fun q => absurd q.1 (by decide))).trans ((mm_i eh5 (fun q => absurd q.1 (by decide))).trans ex1.symm)) ?_
    refine A_iload_n 3 d_MD_tell_38 rfl rfl ?_
    refine A_pc (pc' := 39) rfl ?_
    refine A_iastoreN d_MD_tell_39 (hb_s hb10 sf_223) g4.1 g4.2 ?_
    refine A_hn (fun h13 eh13 => ?_)
    have hb14 := hb_i hb10 eh13
    replace H := H h13 eh13
    refine A_aload_n 0 d_MD_tell_40 rfl rfl ?_
    refine A_getAv (z := some 224) T_ok d_MD_tell_41 f_MD_175 (hb_s hb14 sf_170) (hb_m hb14 rfm_84) ?_
    refine A_aload_n 0 d_MD_tell_44 rfl rfl ?_
    refine A_getIv (z := x1) T_ok d_MD_tell_45 f_MD_471 (hb_s hb14 sf_170) ((mm_i eh13 (fun q => absurd q.1 (by decide))).trans ((mm_i eh9 (fun q => absurd q.1 (by decide))).trans ((mm_i eh5 (fun q => absurd q.1 (by decide))).trans ex1.symm))) ?_
    refine A_iload d_MD_tell_48 rfl ?_
    refine A_pc (pc' := 50) rfl ?_
    refine A_iastoreN d_MD_tell_50 (hb_s hb14 sf_224) g4.1 g4.2 ?_
    refine A_hn (fun h17 eh17 => ?_)
    have hb18 := hb_i hb14 eh17
    replace H := H h17 eh17
    refine A_pc (pc' := 51) rfl ?_
    refine A_free (L' := [some (av_R (some 170)), none, none, none, none]) (And.intro rfl trivial) ?_
    exact b_MD_tell_51    hb18 H
theorem c_MD_tell {G : cx_T} {s : Nat} {a1 : Int} {a2 : Int} {a3 : Int} {a4 : Int} {h : ah_T} {Q : Option av_T → ah_T → Prop} (hb0 : hb s h) (H : i32 a1 → i32 a2 → i32 a3 → i32 a4 → B_MD_tell_0 G s a1 a2 a3 a4 h Q ) : con G 0 0 0 m_MD_tell [av_R (some 170), av_I a1, av_I a2, av_I a3, av_I a4] h Q := by
  have hS : isS s := hb0.2.1
  refine con_of (L := [some (av_R (some 170)), some (av_I a1), some (av_I a2), some (av_I a3), some (av_I a4)]) (by decide +kernel) (Nat.le_of_ble_eq_true rfl) rfl ?_
  refine A_locI 1 rfl (fun ra1 => ?_)
  refine A_locI 2 rfl (fun ra2 => ?_)
  refine A_locI 3 rfl (fun ra3 => ?_)
  refine A_locI 4 rfl (fun ra4 => ?_)
  exact b_MD_tell_0   hb0 (H ra1 ra2 ra3 ra4)
def B_MD_lowest_0 (G : cx_T) (s : Nat) (a1 : Int) (h : ah_T) (Q : Option av_T → ah_T → Prop) : Prop :=
 ((-2147483648) ≤ (4 * a1) ∧ (4 * a1) ≤ 2147483647) ∧ (0 ≤ (4 * a1) ∧ (4 * a1) < 9600) ∧ ∀ x3 : Int, x3 = h.2.1 192 ((4 * a1)).toNat → -2147483648 ≤ x3 → x3 ≤ 2147483647 → Q (some (av_I x3)) h
theorem b_MD_lowest_0 {G : cx_T} {s : Nat} {a1 : Int} {h : ah_T} {Q : Option av_T → ah_T → Prop} (hb0 : hb s h) (H : B_MD_lowest_0 G s a1 h Q ) : aw G (rm_R 0 0 0) m_MD_lowest 0 0 0 [some (av_R (some 170)), some (av_I a1)] [] h Q := by
  unfold B_MD_lowest_0 at H
  have hS : isS s := hb0.2.1
  refine A_aload_n 0 d_MD_lowest_0 rfl rfl ?_
  refine A_getAv (z := some 192) T_ok d_MD_lowest_1 f_MD_78 (hb_s hb0 sf_170) (hb_m hb0 rfm_34) ?_
  refine A_iconst d_MD_lowest_4 rfl ?_
  refine A_iload_n 1 d_MD_lowest_5 rfl rfl ?_
  have g2 := H.1
  replace H := H.2
  refine A_imulv (z := (4 * a1)) d_MD_lowest_6 (w32_to (by omega) (by unfold i32; omega)) ?_
  refine A_pc (pc' := 7) rfl ?_
  have g4 := H.1
  replace H := H.2
  refine A_ialoadf d_MD_lowest_7 (hb_s hb0 sf_192) g4.1 g4.2 (fun x3 ex3 lx3 ux3 => ?_)
  replace H := H x3 ex3 lx3 ux3
  exact A_iret d_MD_lowest_8 (by decide) rfl H
theorem c_MD_lowest {G : cx_T} {s : Nat} {a1 : Int} {h : ah_T} {Q : Option av_T → ah_T → Prop} (hb0 : hb s h) (H : i32 a1 → B_MD_lowest_0 G s a1 h Q ) : con G 0 0 0 m_MD_lowest [av_R (some 170), av_I a1] h Q := by
  have hS : isS s := hb0.2.1
  refine con_of (L := [some (av_R (some 170)), some (av_I a1)]) (by decide +kernel) (Nat.le_of_ble_eq_true rfl) rfl ?_
  refine A_locI 1 rfl (fun ra1 => ?_)
  exact b_MD_lowest_0   hb0 (H ra1)
def B_MD_highest_0 (G : cx_T) (s : Nat) (a1 : Int) (h : ah_T) (Q : Option av_T → ah_T → Prop) : Prop :=
 ((-2147483648) ≤ (4 * a1) ∧ (4 * a1) ≤ 2147483647) ∧ (0 ≤ a1 ∧ a1 < 2400) ∧ ∀ x4 : Int, x4 = h.2.1 191 (a1).toNat → -2147483648 ≤ x4 → x4 ≤ 2147483647 → ((-2147483648) ≤ (4 * a1 + x4) ∧ (4 * a1 + x4) ≤ 2147483647) ∧ ((-2147483648) ≤ (4 * a1 + x4 - 1) ∧ (4 * a1 + x4 - 1) ≤ 2147483647) ∧ (0 ≤ (4 * a1 + x4 - 1) ∧ (4 * a1 + x4 - 1) < 9600) ∧ ∀ x8 : Int, x8 = h.2.1 192 ((4 * a1 + x4 - 1)).toNat → -2147483648 ≤ x8 → x8 ≤ 2147483647 → Q (some (av_I x8)) h
theorem b_MD_highest_0 {G : cx_T} {s : Nat} {a1 : Int} {h : ah_T} {Q : Option av_T → ah_T → Prop} (hb0 : hb s h) (H : B_MD_highest_0 G s a1 h Q ) : aw G (rm_R 0 0 0) m_MD_highest 0 0 0 [some (av_R (some 170)), some (av_I a1)] [] h Q := by
  unfold B_MD_highest_0 at H
  have hS : isS s := hb0.2.1
  refine A_aload_n 0 d_MD_highest_0 rfl rfl ?_
  refine A_getAv (z := some 192) T_ok d_MD_highest_1 f_MD_78 (hb_s hb0 sf_170) (hb_m hb0 rfm_34) ?_
  refine A_iconst d_MD_highest_4 rfl ?_
  refine A_iload_n 1 d_MD_highest_5 rfl rfl ?_
  have g2 := H.1
  replace H := H.2
  refine A_imulv (z := (4 * a1)) d_MD_highest_6 (w32_to (by omega) (by unfold i32; omega)) ?_
  refine A_pc (pc' := 7) rfl ?_
  refine A_aload_n 0 d_MD_highest_7 rfl rfl ?_
  refine A_getAv (z := some 191) T_ok d_MD_highest_8 f_MD_75 (hb_s hb0 sf_170) (hb_m hb0 rfm_33) ?_
  refine A_iload_n 1 d_MD_highest_11 rfl rfl ?_
  have g5 := H.1
  replace H := H.2
  refine A_ialoadf d_MD_highest_12 (hb_s hb0 sf_191) g5.1 g5.2 (fun x4 ex4 lx4 ux4 => ?_)
  replace H := H x4 ex4 lx4 ux4
  have g6 := H.1
  replace H := H.2
  refine A_iaddv (z := (4 * a1 + x4)) d_MD_highest_13 (w32_to (by omega) (by unfold i32; omega)) ?_
  refine A_iconst d_MD_highest_14 rfl ?_
  refine A_pc (pc' := 15) rfl ?_
  have g7 := H.1
  replace H := H.2
  refine A_isubv (z := (4 * a1 + x4 - 1)) d_MD_highest_15 (w32_to (by omega) (by unfold i32; omega)) ?_
  have g9 := H.1
  replace H := H.2
  refine A_ialoadf d_MD_highest_16 (hb_s hb0 sf_192) g9.1 g9.2 (fun x8 ex8 lx8 ux8 => ?_)
  replace H := H x8 ex8 lx8 ux8
  exact A_iret d_MD_highest_17 (by decide) rfl H
theorem c_MD_highest {G : cx_T} {s : Nat} {a1 : Int} {h : ah_T} {Q : Option av_T → ah_T → Prop} (hb0 : hb s h) (H : i32 a1 → B_MD_highest_0 G s a1 h Q ) : con G 0 0 0 m_MD_highest [av_R (some 170), av_I a1] h Q := by
  have hS : isS s := hb0.2.1
  refine con_of (L := [some (av_R (some 170)), some (av_I a1)]) (by decide +kernel) (Nat.le_of_ble_eq_true rfl) rfl ?_
  refine A_locI 1 rfl (fun ra1 => ?_)
  exact b_MD_highest_0   hb0 (H ra1)
def B_MD_isWhole_99 (G : cx_T) (s : Nat) (a1 : Int) (a2 : Int) (t0 : Int) (h : ah_T) (Q : Option av_T → ah_T → Prop) : Prop :=
 (t0 = 0 ∨ t0 = 1) ∧ Q (some (av_I t0)) h
theorem b_MD_isWhole_99 {G : cx_T} {s : Nat} {a1 : Int} {a2 : Int} {t0 : Int} {h : ah_T} {Q : Option av_T → ah_T → Prop} (hb0 : hb s h) (H : B_MD_isWhole_99 G s a1 a2 t0 h Q ) : aw G (rm_R 3 0 0) m_MD_isWhole 0 0 99 [none, none, none, none, none] [av_I t0] h Q := by
  unfold B_MD_isWhole_99 at H
  have hS : isS s := hb0.2.1
  exact A_zret d_MD_isWhole_99 (by decide) rfl H.1 H.2
def B_MD_isWhole_98 (G : cx_T) (s : Nat) (a1 : Int) (a2 : Int) (h : ah_T) (Q : Option av_T → ah_T → Prop) : Prop :=
 B_MD_isWhole_99 G s a1 a2 (0) h Q 
theorem b_MD_isWhole_98 {G : cx_T} {s : Nat} {a1 : Int} {a2 : Int} {h : ah_T} {Q : Option av_T → ah_T → Prop} (hb0 : hb s h) (H : B_MD_isWhole_98 G s a1 a2 h Q ) : aw G (rm_R 3 0 0) m_MD_isWhole 0 0 98 [none, none, none, none, none] [] h Q := by
  unfold B_MD_isWhole_98 at H
  have hS : isS s := hb0.2.1
  refine A_iconst d_MD_isWhole_98 rfl ?_
  refine A_pc (pc' := 99) rfl ?_
  exact b_MD_isWhole_99    hb0 H
def B_MD_isWhole_94 (G : cx_T) (s : Nat) (a1 : Int) (a2 : Int) (h : ah_T) (Q : Option av_T → ah_T → Prop) : Prop :=
 B_MD_isWhole_99 G s a1 a2 (1) h Q 
theorem b_MD_isWhole_94 {G : cx_T} {s : Nat} {a1 : Int} {a2 : Int} {h : ah_T} {Q : Option av_T → ah_T → Prop} (hb0 : hb s h) (H : B_MD_isWhole_94 G s a1 a2 h Q ) : aw G (rm_R 3 0 0) m_MD_isWhole 0 0 94 [none, none, none, none, none] [] h Q := by
  unfold B_MD_isWhole_94 at H
  have hS : isS s := hb0.2.1
  refine A_iconst d_MD_isWhole_94 rfl ?_
  refine A_goto (tgt := 99) d_MD_isWhole_95 (by decide) ?_
  refine A_pc (pc' := 99) rfl ?_
  exact b_MD_isWhole_99    hb0 H
def B_MD_isWhole_0 (G : cx_T) (s : Nat) (a1 : Int) (a2 : Int) (h : ah_T) (Q : Option av_T → ah_T → Prop) : Prop :=
 ((-2147483648) ≤ (102 * a1) ∧ (102 * a1) ≤ 2147483647) ∧ ((-2147483648) ≤ (102 * a1 + a2) ∧ (102 * a1 + a2) ≤ 2147483647) ∧ ((-2147483648) ≤ (102 * a1 + a2 + 1) ∧ (102 * a1 + a2 + 1) ≤ 2147483647) ∧ (0 ≤ (102 * a1 + a2 + 1) ∧ (102 * a1 + a2 + 1) < 816) ∧ ∀ x5 : Int, x5 = h.2.2.1 199 ((102 * a1 + a2 + 1)).toNat → -9223372036854775808 ≤ x5 → x5 ≤ 9223372036854775807 → ∀ x8 : Int, x8 = h.2.2.1 200 ((102 * a1 + a2 + 1)).toNat → -9223372036854775808 ≤ x8 → x8 ≤ 9223372036854775807 → (0 ≤ (102 * a1 + a2) ∧ (102 * a1 + a2) < 816) ∧ ∀ x10 : Int, x10 = h.2.2.1 199 ((102 * a1 + a2)).toNat → -9223372036854775808 ≤ x10 → x10 ≤ 9223372036854775807 → ((-9223372036854775808) ≤ (-x10) ∧ (-x10) ≤ 9223372036854775807) ∧ ∀ x14 : Int, x14 = h.2.2.1 200 ((102 * a1 + a2)).toNat → -9223372036854775808 ≤ x14 → x14 ≤ 9223372036854775807 → con G 2 0 0 m_MD_sum [av_R (some 170), av_L x5, av_L x8, av_L (-x10), av_L x14] h (fun r h15 => r = none ∧ hb s h15 ∧ ∀ x18 : Int, x18 = h15.2.2.1 170 65 → -9223372036854775808 ≤ x18 → x18 ≤ 9223372036854775807 → ∀ x19 : Int, x19 = h15.2.2.1 170 66 → -9223372036854775808 ≤ x19 → x19 ≤ 9223372036854775807 → ∀ x21 : Int, x21 = h15.2.1 173 0 → -2147483648 ≤ x21 → x21 ≤ 2147483647 → ∀ x23 : Int, x23 = h15.2.1 174 0 → -2147483648 ≤ x23 → x23 ≤ 2147483647 → con G 0 0 0 m_MD_compare [av_R (some 170), av_L x18, av_L x19, av_L x21, av_L x23] h15 (fun r h24 => ∃ z26 : Int, r = some (av_I z26) ∧ hb s h24 ∧ ((z26 = 0 → B_MD_isWhole_94 G s a1 a2 h24 Q ) ∧ (¬ z26 = 0 → ((0 ≤ z26 → B_MD_isWhole_98 G s a1 a2 h24 Q ) ∧ (¬ 0 ≤ z26 → ((a2 = 0 → B_MD_isWhole_94 G s a1 a2 h24 Q ) ∧ (¬ a2 = 0 → (0 ≤ a1 ∧ a1 < 8) ∧ ∀ x28 : Int, x28 = h24.2.1 186 (a1).toNat → -2147483648 ≤ x28 → x28 ≤ 2147483647 → ((-2147483648) ≤ (x28 - 1) ∧ (x28 - 1) ≤ 2147483647) ∧ ((a2 = (x28 - 1) → B_MD_isWhole_94 G s a1 a2 h24 Q ) ∧ (¬ a2 = (x28 - 1) → B_MD_isWhole_98 G s a1 a2 h24 Q ))))))))))
theorem b_MD_isWhole_0 {G : cx_T} {s : Nat} {a1 : Int} {a2 : Int} {h : ah_T} {Q : Option av_T → ah_T → Prop} (hb0 : hb s h) (H : B_MD_isWhole_0 G s a1 a2 h Q ) : aw G (rm_R 3 0 0) m_MD_isWhole 0 0 0 [some (av_R (some 170)), some (av_I a1), some (av_I a2), none, none] [] h Q := by
  unfold B_MD_isWhole_0 at H
  have hS : isS s := hb0.2.1
  refine A_bipush d_MD_isWhole_0 rfl ?_
  refine A_iload_n 1 d_MD_isWhole_2 rfl rfl ?_
  have g1 := H.1
  replace H := H.2
  refine A_imulv (z := (102 * a1)) d_MD_isWhole_3 (w32_to (by omega) (by unfold i32; omega)) ?_
  refine A_iload_n 2 d_MD_isWhole_4 rfl rfl ?_
  have g2 := H.1
  replace H := H.2
  refine A_iaddv (z := (102 * a1 + a2)) d_MD_isWhole_5 (w32_to (by omega) (by unfold i32; omega)) ?_
  refine A_pc (pc' := 6) rfl ?_
  refine A_istore_n 3 (L' := [some (av_R (some 170)), some (av_I a1), some (av_I a2), some (av_I (102 * a1 + a2)), none]) d_MD_isWhole_6 rfl (Nat.le_of_ble_eq_true rfl) rfl ?_
  refine A_aload_n 0 d_MD_isWhole_7 rfl rfl ?_
  refine A_aload_n 0 d_MD_isWhole_8 rfl rfl ?_
  refine A_getAv (z := some 199) T_ok d_MD_isWhole_9 f_MD_100 (hb_s hb0 sf_170) (hb_m hb0 rfm_41) ?_
  refine A_iload_n 3 d_MD_isWhole_12 rfl rfl ?_
  refine A_iconst d_MD_isWhole_13 rfl ?_
  refine A_pc (pc' := 14) rfl ?_
  have g4 := H.1
  replace H := H.2
  refine A_iaddv (z := (102 * a1 + a2 + 1)) d_MD_isWhole_14 (w32_to (by omega) (by unfold i32; omega)) ?_
  have g6 := H.1
  replace H := H.2
  refine A_laloadf d_MD_isWhole_15 (hb_s hb0 sf_199) g6.1 g6.2 (fun x5 ex5 lx5 ux5 => ?_)
  replace H := H x5 ex5 lx5 ux5
  refine A_aload_n 0 d_MD_isWhole_16 rfl rfl ?_
  refine A_getAv (z := some 200) T_ok d_MD_isWhole_17 f_MD_103 (hb_s hb0 sf_170) (hb_m hb0 rfm_42) ?_
  refine A_iload_n 3 d_MD_isWhole_20 rfl rfl ?_
  refine A_iconst d_MD_isWhole_21 rfl ?_
  refine A_pc (pc' := 22) rfl ?_
  refine A_iaddv (z := (102 * a1 + a2 + 1)) d_MD_isWhole_22 (w32_to (by omega) (by unfold i32; omega)) ?_
  refine A_laloadf d_MD_isWhole_23 (hb_s hb0 sf_200) g6.1 g6.2 (fun x8 ex8 lx8 ux8 => ?_)
  replace H := H x8 ex8 lx8 ux8
  refine A_aload_n 0 d_MD_isWhole_24 rfl rfl ?_
  refine A_getAv (z := some 199) T_ok d_MD_isWhole_25 f_MD_100 (hb_s hb0 sf_170) (hb_m hb0 rfm_41) ?_
  refine A_iload_n 3 d_MD_isWhole_28 rfl rfl ?_
  have g11 := H.1
  replace H := H.2
  refine A_laloadf d_MD_isWhole_29 (hb_s hb0 sf_199) g11.1 g11.2 (fun x10 ex10 lx10 ux10 => ?_)
  replace H := H x10 ex10 lx10 ux10
  refine A_pc (pc' := 30) rfl ?_
  have g12 := H.1
  replace H := H.2
  refine A_lnegv (z := (-x10)) d_MD_isWhole_30 (w64_to (by omega) (by unfold i64; omega)) ?_
  refine A_aload_n 0 d_MD_isWhole_31 rfl rfl ?_
  refine A_getAv (z := some 200) T_ok d_MD_isWhole_32 f_MD_103 (hb_s hb0 sf_170) (hb_m hb0 rfm_42) ?_
  refine A_iload_n 3 d_MD_isWhole_35 rfl rfl ?_
  refine A_laloadf d_MD_isWhole_36 (hb_s hb0 sf_200) g11.1 g11.2 (fun x14 ex14 lx14 ux14 => ?_)
  replace H := H x14 ex14 lx14 ux14
  refine A_callV4 m_MD_sum T_ok d_MD_isWhole_37 l_MD_458 k_MD_sum (hb_s hb0 sf_170) rfl (by decide +kernel) (by decide) (Nat.le_of_ble_eq_true rfl) H (fun r h15 hq => ?_)
  clear H
  obtain ⟨rfl, hb16, H⟩ := hq
  refine A_aload_n 0 d_MD_isWhole_40 rfl rfl ?_
  refine A_aload_n 0 d_MD_isWhole_41 rfl rfl ?_
  refine A_getLf T_ok d_MD_isWhole_42 f_MD_385 (hb_s hb16 sf_170) (fun x18 ex18 lx18 ux18 => ?_)
  replace H := H x18 ex18 lx18 ux18
  refine A_aload_n 0 d_MD_isWhole_45 rfl rfl ?_
  refine A_getLf T_ok d_MD_isWhole_46 f_MD_388 (hb_s hb16 sf_170) (fun x19 ex19 lx19 ux19 => ?_)
  replace H := H x19 ex19 lx19 ux19
  refine A_pc (pc' := 49) rfl ?_
  refine A_aload_n 0 d_MD_isWhole_49 rfl rfl ?_
  refine A_getAv (z := some 173) T_ok d_MD_isWhole_50 f_MD_20 (hb_s hb16 sf_170) (hb_m hb16 rfm_15) ?_
  refine A_iconst d_MD_isWhole_53 rfl ?_
  refine A_ialoadf d_MD_isWhole_54 (hb_s hb16 sf_173) (by decide) (by decide) (fun x21 ex21 lx21 ux21 => ?_)
  replace H := H x21 ex21 lx21 ux21
  refine A_i2l d_MD_isWhole_55 ?_
  refine A_aload_n 0 d_MD_isWhole_56 rfl rfl ?_
  refine A_pc (pc' := 57) rfl ?_
  refine A_getAv (z := some 174) T_ok d_MD_isWhole_57 f_MD_23 (hb_s hb16 sf_170) (hb_m hb16 rfm_16) ?_
  refine A_iconst d_MD_isWhole_60 rfl ?_
  refine A_ialoadf d_MD_isWhole_61 (hb_s hb16 sf_174) (by decide) (by decide) (fun x23 ex23 lx23 ux23 => ?_)
  replace H := H x23 ex23 lx23 ux23
  refine A_i2l d_MD_isWhole_62 ?_
  refine A_callV4 m_MD_compare T_ok d_MD_isWhole_63 l_MD_500 k_MD_compare (hb_s hb16 sf_170) rfl (by decide +kernel) (by decide) (Nat.le_of_ble_eq_true rfl) H (fun r h24 hq => ?_)
  clear H
  obtain ⟨z26, rfl, hb25, H⟩ := hq
  refine A_istore (L' := [some (av_R (some 170)), some (av_I a1), some (av_I a2), some (av_I (102 * a1 + a2)), some (av_I z26)]) d_MD_isWhole_66 (Nat.le_of_ble_eq_true rfl) rfl ?_
  refine A_iload d_MD_isWhole_68 rfl ?_
  refine A_if_eq (tgt := 94) d_MD_isWhole_70 (by decide) (fun c => ?_) (fun c => ?_)
  · replace H := H.1 c
    refine A_pc (pc' := 94) rfl ?_
    refine A_free (L' := [none, none, none, none, none]) trivial ?_
    exact b_MD_isWhole_94    hb25 H
  · replace H := H.2 c
    refine A_iload d_MD_isWhole_73 rfl ?_
    refine A_if_ge (tgt := 98) d_MD_isWhole_75 (by decide) (fun c => ?_) (fun c => ?_)
    · replace H := H.1 c
      refine A_pc (pc' := 98) rfl ?_
      refine A_free (L' := [none, none, none, none, none]) trivial ?_
      exact b_MD_isWhole_98    hb25 H
    · replace H := H.2 c
      refine A_iload_n 2 d_MD_isWhole_78 rfl rfl ?_
      refine A_if_eq (tgt := 94) d_MD_isWhole_79 (by decide) (fun c => ?_) (fun c => ?_)
      · replace H := H.1 c
        refine A_pc (pc' := 94) rfl ?_
        refine A_free (L' := [none, none, none, none, none]) trivial ?_
        exact b_MD_isWhole_94    hb25 H
      · replace H := H.2 c
        refine A_iload_n 2 d_MD_isWhole_82 rfl rfl ?_
        refine A_aload_n 0 d_MD_isWhole_83 rfl rfl ?_
        refine A_getAv (z := some 186) T_ok d_MD_isWhole_84 f_MD_60 (hb_s hb25 sf_170) (hb_m hb25 rfm_28) ?_
        refine A_iload_n 1 d_MD_isWhole_87 rfl rfl ?_
        have g29 := H.1
        replace H := H.2
        refine A_ialoadf d_MD_isWhole_88 (hb_s hb25 sf_186) g29.1 g29.2 (fun x28 ex28 lx28 ux28 => ?_)
        replace H := H x28 ex28 lx28 ux28
        refine A_pc (pc' := 89) rfl ?_
        refine A_iconst d_MD_isWhole_89 rfl ?_
        have g30 := H.1
        replace H := H.2
        refine A_isubv (z := (x28 - 1)) d_MD_isWhole_90 (w32_to (by omega) (by unfold i32; omega)) ?_
        refine A_icmp_ne (tgt := 98) d_MD_isWhole_91 (by decide) (fun c => ?_) (fun c => ?_)
        · replace H := H.2 c
          refine A_pc (pc' := 98) rfl ?_
          refine A_free (L' := [none, none, none, none, none]) trivial ?_
          exact b_MD_isWhole_98    hb25 H
        · replace H := H.1 c
          refine A_pc (pc' := 94) rfl ?_
          refine A_free (L' := [none, none, none, none, none]) trivial ?_
          exact b_MD_isWhole_94    hb25 H
theorem c_MD_isWhole {G : cx_T} {s : Nat} {a1 : Int} {a2 : Int} {h : ah_T} {Q : Option av_T → ah_T → Prop} (hb0 : hb s h) (H : i32 a1 → i32 a2 → B_MD_isWhole_0 G s a1 a2 h Q ) : con G 3 0 0 m_MD_isWhole [av_R (some 170), av_I a1, av_I a2] h Q := by
  have hS : isS s := hb0.2.1
  refine con_of (L := [some (av_R (some 170)), some (av_I a1), some (av_I a2), none, none]) (by decide +kernel) (Nat.le_of_ble_eq_true rfl) rfl ?_
  refine A_locI 1 rfl (fun ra1 => ?_)
  refine A_locI 2 rfl (fun ra2 => ?_)
  exact b_MD_isWhole_0   hb0 (H ra1 ra2)
def B_MD_firstOf_34 (G : cx_T) (s : Nat) (a1 : Int) (a2 : Int) (v3 : Int) (h : ah_T) (Q : Option av_T → ah_T → Prop) : Prop :=
 Q (some (av_I v3)) h
theorem b_MD_firstOf_34 {G : cx_T} {s : Nat} {a1 : Int} {a2 : Int} {v3 : Int} {h : ah_T} {Q : Option av_T → ah_T → Prop} (hb0 : hb s h) (H : B_MD_firstOf_34 G s a1 a2 v3 h Q ) : aw G (rm_R 0 0 0) m_MD_firstOf 0 0 34 [none, none, none, some (av_I v3)] [] h Q := by
  unfold B_MD_firstOf_34 at H
  have hS : isS s := hb0.2.1
  refine A_iload_n 3 d_MD_firstOf_34 rfl rfl ?_
  exact A_iret d_MD_firstOf_35 (by decide) rfl H
def B_MD_firstOf_2 (G : cx_T) (s : Nat) (a1 : Int) (a2 : Int) (v3 : Int) (h : ah_T) (Q : Option av_T → ah_T → Prop) (X2 : Int → ah_T → Prop) : Prop :=
 (0 ≤ a1 ∧ a1 < 8) ∧ ∀ x2 : Int, x2 = h.2.1 185 (a1).toNat → -2147483648 ≤ x2 → x2 ≤ 2147483647 → ((x2 ≤ v3 → B_MD_firstOf_34 G s a1 a2 (v3) h Q ) ∧ (¬ x2 ≤ v3 → ((-2147483648) ≤ (300 * a1) ∧ (300 * a1) ≤ 2147483647) ∧ ((-2147483648) ≤ (300 * a1 + v3) ∧ (300 * a1 + v3) ≤ 2147483647) ∧ (0 ≤ (300 * a1 + v3) ∧ (300 * a1 + v3) < 2400) ∧ ∀ x7 : Int, x7 = h.2.1 196 ((300 * a1 + v3)).toNat → -2147483648 ≤ x7 → x7 ≤ 2147483647 → ((a2 ≤ x7 → B_MD_firstOf_34 G s a1 a2 (v3) h Q ) ∧ (¬ a2 ≤ x7 → ((-2147483648) ≤ (v3 + 1) ∧ (v3 + 1) ≤ 2147483647) ∧ X2 ((v3 + 1)) h))))
theorem b_MD_firstOf_2 {G : cx_T} {s : Nat} {a1 : Int} {a2 : Int} {v3 : Int} {h : ah_T} {Q : Option av_T → ah_T → Prop} {X2 : Int → ah_T → Prop} (hX2 : ∀ (v3 : Int) (h : ah_T), hb s h → X2 v3 h → aw G (rm_R 0 0 0) m_MD_firstOf 0 0 2 [some (av_R (some 170)), some (av_I a1), some (av_I a2), some (av_I v3)] [] h Q) (hb0 : hb s h) (H : B_MD_firstOf_2 G s a1 a2 v3 h Q X2) : aw G (rm_R 0 0 0) m_MD_firstOf 0 0 2 [some (av_R (some 170)), some (av_I a1), some (av_I a2), some (av_I v3)] [] h Q := by
  unfold B_MD_firstOf_2 at H
  have hS : isS s := hb0.2.1
  refine A_iload_n 3 d_MD_firstOf_2 rfl rfl ?_
  refine A_aload_n 0 d_MD_firstOf_3 rfl rfl ?_
  refine A_getAv (z := some 185) T_ok d_MD_firstOf_4 f_MD_57 (hb_s hb0 sf_170) (hb_m hb0 rfm_27) ?_
  refine A_iload_n 1 d_MD_firstOf_7 rfl rfl ?_
  have g3 := H.1
  replace H := H.2
  refine A_ialoadf d_MD_firstOf_8 (hb_s hb0 sf_185) g3.1 g3.2 (fun x2 ex2 lx2 ux2 => ?_)
  replace H := H x2 ex2 lx2 ux2
  refine A_pc (pc' := 9) rfl ?_
  refine A_icmp_ge (tgt := 34) d_MD_firstOf_9 (by decide) (fun c => ?_) (fun c => ?_)
  · replace H := H.1 c
    refine A_pc (pc' := 34) rfl ?_
    refine A_free (L' := [none, none, none, some (av_I v3)]) (And.intro rfl trivial) ?_
    exact b_MD_firstOf_34    hb0 H
  · replace H := H.2 c
    refine A_aload_n 0 d_MD_firstOf_12 rfl rfl ?_
    refine A_getAv (z := some 196) T_ok d_MD_firstOf_13 f_MD_91 (hb_s hb0 sf_170) (hb_m hb0 rfm_38) ?_
    refine A_sipush d_MD_firstOf_16 rfl ?_
    refine A_iload_n 1 d_MD_firstOf_19 rfl rfl ?_
    have g5 := H.1
    replace H := H.2
    refine A_imulv (z := (300 * a1)) d_MD_firstOf_20 (w32_to (by omega) (by unfold i32; omega)) ?_
    refine A_pc (pc' := 21) rfl ?_
    refine A_iload_n 3 d_MD_firstOf_21 rfl rfl ?_
    have g6 := H.1
    replace H := H.2
    refine A_iaddv (z := (300 * a1 + v3)) d_MD_firstOf_22 (w32_to (by omega) (by unfold i32; omega)) ?_
    have g8 := H.1
    replace H := H.2
    refine A_ialoadf d_MD_firstOf_23 (hb_s hb0 sf_196) g8.1 g8.2 (fun x7 ex7 lx7 ux7 => ?_)
    replace H := H x7 ex7 lx7 ux7
    refine A_iload_n 2 d_MD_firstOf_24 rfl rfl ?_
    refine A_icmp_ge (tgt := 34) d_MD_firstOf_25 (by decide) (fun c => ?_) (fun c => ?_)
    · replace H := H.1 c
      refine A_pc (pc' := 34) rfl ?_
      refine A_free (L' := [none, none, none, some (av_I v3)]) (And.intro rfl trivial) ?_
      exact b_MD_firstOf_34    hb0 H
    · replace H := H.2 c
      have g9 := H.1
      replace H := H.2
      refine A_iincv (z := (v3 + 1)) (L' := [some (av_R (some 170)), some (av_I a1), some (av_I a2), some (av_I (v3 + 1))]) d_MD_firstOf_28 rfl (w32_to (by omega) (by unfold i32; omega)) rfl ?_
      refine A_goto (tgt := 2) d_MD_firstOf_31 (by decide) ?_
      refine A_pc (pc' := 2) rfl ?_
      exact hX2 ((v3 + 1)) h  hb0 H
theorem lp_MD_firstOf_2 {G : cx_T} {s : Nat} {a1 : Int} {a2 : Int} {Q : Option av_T → ah_T → Prop} (I : Int → ah_T → Prop) (μ : Int → ah_T → Nat) (hI : ∀ (v3 : Int) (h : ah_T), hb s h → I v3 h → B_MD_firstOf_2 G s a1 a2 v3 h Q (fun v3' h' => I v3' h' ∧ μ v3' h' < μ v3 h)) : ∀ (v3 : Int) (h : ah_T), hb s h → I v3 h → aw G (rm_R 0 0 0) m_MD_firstOf 0 0 2 [some (av_R (some 170)), some (av_I a1), some (av_I a2), some (av_I v3)] [] h Q := by
  have key : ∀ (n : Nat) (v3 : Int) (h : ah_T), hb s h → I v3 h → μ v3 h < n → aw G (rm_R 0 0 0) m_MD_firstOf 0 0 2 [some (av_R (some 170)), some (av_I a1), some (av_I a2), some (av_I v3)] [] h Q := by
    intro n
    induction n with
    | zero => intro v3 h  hb0 hi hm; omega
    | succ n ih => intro v3 h  hb0 hi hm; exact b_MD_firstOf_2  (fun v3' h'  hb' hx => ih v3' h'  hb' hx.1 (by have := hx.2; omega))  hb0 (hI v3 h  hb0 hi)
  exact fun v3 h  hb0 hi => key _ v3 h  hb0 hi (Nat.lt_succ_self _)
def B_MD_firstOf_0 (G : cx_T) (s : Nat) (a1 : Int) (a2 : Int) (h : ah_T) (Q : Option av_T → ah_T → Prop) (X2 : Int → ah_T → Prop) : Prop :=
 X2 (0) h
theorem b_MD_firstOf_0 {G : cx_T} {s : Nat} {a1 : Int} {a2 : Int} {h : ah_T} {Q : Option av_T → ah_T → Prop} {X2 : Int → ah_T → Prop} (hX2 : ∀ (v3 : Int) (h : ah_T), hb s h → X2 v3 h → aw G (rm_R 0 0 0) m_MD_firstOf 0 0 2 [some (av_R (some 170)), some (av_I a1), some (av_I a2), some (av_I v3)] [] h Q) (hb0 : hb s h) (H : B_MD_firstOf_0 G s a1 a2 h Q X2) : aw G (rm_R 0 0 0) m_MD_firstOf 0 0 0 [some (av_R (some 170)), some (av_I a1), some (av_I a2), none] [] h Q := by
  unfold B_MD_firstOf_0 at H
  have hS : isS s := hb0.2.1
  refine A_iconst d_MD_firstOf_0 rfl ?_
  refine A_istore_n 3 (L' := [some (av_R (some 170)), some (av_I a1), some (av_I a2), some (av_I 0)]) d_MD_firstOf_1 rfl (Nat.le_of_ble_eq_true rfl) rfl ?_
  refine A_pc (pc' := 2) rfl ?_
  exact hX2 (0) h  hb0 H
theorem c_MD_firstOf {G : cx_T} {s : Nat} {a1 : Int} {a2 : Int} {h : ah_T} {Q : Option av_T → ah_T → Prop} {X2 : Int → ah_T → Prop} (hX2 : ∀ (v3 : Int) (h : ah_T), hb s h → X2 v3 h → aw G (rm_R 0 0 0) m_MD_firstOf 0 0 2 [some (av_R (some 170)), some (av_I a1), some (av_I a2), some (av_I v3)] [] h Q) (hb0 : hb s h) (H : i32 a1 → i32 a2 → B_MD_firstOf_0 G s a1 a2 h Q X2) : con G 0 0 0 m_MD_firstOf [av_R (some 170), av_I a1, av_I a2] h Q := by
  have hS : isS s := hb0.2.1
  refine con_of (L := [some (av_R (some 170)), some (av_I a1), some (av_I a2), none]) (by decide +kernel) (Nat.le_of_ble_eq_true rfl) rfl ?_
  refine A_locI 1 rfl (fun ra1 => ?_)
  refine A_locI 2 rfl (fun ra2 => ?_)
  exact b_MD_firstOf_0  hX2 hb0 (H ra1 ra2)
def B_MD_isAhead_60 (G : cx_T) (s : Nat) (a1 : Int) (a2 : Int) (t0 : Int) (h : ah_T) (Q : Option av_T → ah_T → Prop) : Prop :=
 (t0 = 0 ∨ t0 = 1) ∧ Q (some (av_I t0)) h
theorem b_MD_isAhead_60 {G : cx_T} {s : Nat} {a1 : Int} {a2 : Int} {t0 : Int} {h : ah_T} {Q : Option av_T → ah_T → Prop} (hb0 : hb s h) (H : B_MD_isAhead_60 G s a1 a2 t0 h Q ) : aw G (rm_R 3 0 0) m_MD_isAhead 0 0 60 [none, none, none] [av_I t0] h Q := by
  unfold B_MD_isAhead_60 at H
  have hS : isS s := hb0.2.1
  exact A_zret d_MD_isAhead_60 (by decide) rfl H.1 H.2
def B_MD_isAhead_0 (G : cx_T) (s : Nat) (a1 : Int) (a2 : Int) (h : ah_T) (Q : Option av_T → ah_T → Prop) : Prop :=
 (0 ≤ a1 ∧ a1 < 2400) ∧ ∀ x2 : Int, x2 = h.2.2.1 187 (a1).toNat → -9223372036854775808 ≤ x2 → x2 ≤ 9223372036854775807 → ∀ x5 : Int, x5 = h.2.2.1 188 (a1).toNat → -9223372036854775808 ≤ x5 → x5 ≤ 9223372036854775807 → ∀ x7 : Int, x7 = h.2.2.1 189 (a1).toNat → -9223372036854775808 ≤ x7 → x7 ≤ 9223372036854775807 → ∀ x9 : Int, x9 = h.2.2.1 190 (a1).toNat → -9223372036854775808 ≤ x9 → x9 ≤ 9223372036854775807 → con G 2 0 0 m_MD_sum [av_R (some 170), av_L x2, av_L x5, av_L x7, av_L x9] h (fun r h10 => r = none ∧ hb s h10 ∧ ∀ x13 : Int, x13 = h10.2.2.1 170 65 → -9223372036854775808 ≤ x13 → x13 ≤ 9223372036854775807 → ∀ x14 : Int, x14 = h10.2.2.1 170 66 → -9223372036854775808 ≤ x14 → x14 ≤ 9223372036854775807 → (0 ≤ a2 ∧ a2 < 2400) ∧ ∀ x16 : Int, x16 = h10.2.2.1 187 (a2).toNat → -9223372036854775808 ≤ x16 → x16 ≤ 9223372036854775807 → ∀ x19 : Int, x19 = h10.2.2.1 188 (a2).toNat → -9223372036854775808 ≤ x19 → x19 ≤ 9223372036854775807 → con G 0 0 0 m_MD_compare [av_R (some 170), av_L x13, av_L x14, av_L x16, av_L x19] h10 (fun r h20 => ∃ z22 : Int, r = some (av_I z22) ∧ hb s h20 ∧ ((0 < z22 → B_MD_isAhead_60 G s a1 a2 (0) h20 Q ) ∧ (¬ 0 < z22 → B_MD_isAhead_60 G s a1 a2 (1) h20 Q ))))
theorem b_MD_isAhead_0 {G : cx_T} {s : Nat} {a1 : Int} {a2 : Int} {h : ah_T} {Q : Option av_T → ah_T → Prop} (hb0 : hb s h) (H : B_MD_isAhead_0 G s a1 a2 h Q ) : aw G (rm_R 3 0 0) m_MD_isAhead 0 0 0 [some (av_R (some 170)), some (av_I a1), some (av_I a2)] [] h Q := by
  unfold B_MD_isAhead_0 at H
  have hS : isS s := hb0.2.1
  refine A_aload_n 0 d_MD_isAhead_0 rfl rfl ?_
  refine A_aload_n 0 d_MD_isAhead_1 rfl rfl ?_
  refine A_getAv (z := some 187) T_ok d_MD_isAhead_2 f_MD_63 (hb_s hb0 sf_170) (hb_m hb0 rfm_29) ?_
  refine A_iload_n 1 d_MD_isAhead_5 rfl rfl ?_
  have g3 := H.1
  replace H := H.2
  refine A_laloadf d_MD_isAhead_6 (hb_s hb0 sf_187) g3.1 g3.2 (fun x2 ex2 lx2 ux2 => ?_)
  replace H := H x2 ex2 lx2 ux2
  refine A_pc (pc' := 7) rfl ?_
  refine A_aload_n 0 d_MD_isAhead_7 rfl rfl ?_
  refine A_getAv (z := some 188) T_ok d_MD_isAhead_8 f_MD_66 (hb_s hb0 sf_170) (hb_m hb0 rfm_30) ?_
  refine A_iload_n 1 d_MD_isAhead_11 rfl rfl ?_
  refine A_laloadf d_MD_isAhead_12 (hb_s hb0 sf_188) g3.1 g3.2 (fun x5 ex5 lx5 ux5 => ?_)
  replace H := H x5 ex5 lx5 ux5
  refine A_aload_n 0 d_MD_isAhead_13 rfl rfl ?_
  refine A_getAv (z := some 189) T_ok d_MD_isAhead_14 f_MD_69 (hb_s hb0 sf_170) (hb_m hb0 rfm_31) ?_
  refine A_pc (pc' := 17) rfl ?_
  refine A_iload_n 1 d_MD_isAhead_17 rfl rfl ?_
  refine A_laloadf d_MD_isAhead_18 (hb_s hb0 sf_189) g3.1 g3.2 (fun x7 ex7 lx7 ux7 => ?_)
  replace H := H x7 ex7 lx7 ux7
  refine A_aload_n 0 d_MD_isAhead_19 rfl rfl ?_
  refine A_getAv (z := some 190) T_ok d_MD_isAhead_20 f_MD_72 (hb_s hb0 sf_170) (hb_m hb0 rfm_32) ?_
  refine A_iload_n 1 d_MD_isAhead_23 rfl rfl ?_
  refine A_laloadf d_MD_isAhead_24 (hb_s hb0 sf_190) g3.1 g3.2 (fun x9 ex9 lx9 ux9 => ?_)
  replace H := H x9 ex9 lx9 ux9
  refine A_pc (pc' := 25) rfl ?_
  refine A_callV4 m_MD_sum T_ok d_MD_isAhead_25 l_MD_458 k_MD_sum (hb_s hb0 sf_170) rfl (by decide +kernel) (by decide) (Nat.le_of_ble_eq_true rfl) H (fun r h10 hq => ?_)
  clear H
  obtain ⟨rfl, hb11, H⟩ := hq
  refine A_aload_n 0 d_MD_isAhead_28 rfl rfl ?_
  refine A_aload_n 0 d_MD_isAhead_29 rfl rfl ?_
  refine A_getLf T_ok d_MD_isAhead_30 f_MD_385 (hb_s hb11 sf_170) (fun x13 ex13 lx13 ux13 => ?_)
  replace H := H x13 ex13 lx13 ux13
  refine A_aload_n 0 d_MD_isAhead_33 rfl rfl ?_
  refine A_getLf T_ok d_MD_isAhead_34 f_MD_388 (hb_s hb11 sf_170) (fun x14 ex14 lx14 ux14 => ?_)
  replace H := H x14 ex14 lx14 ux14
  refine A_pc (pc' := 37) rfl ?_
  refine A_aload_n 0 d_MD_isAhead_37 rfl rfl ?_
  refine A_getAv (z := some 187) T_ok d_MD_isAhead_38 f_MD_63 (hb_s hb11 sf_170) (hb_m hb11 rfm_29) ?_
  refine A_iload_n 2 d_MD_isAhead_41 rfl rfl ?_
  have g17 := H.1
  replace H := H.2
  refine A_laloadf d_MD_isAhead_42 (hb_s hb11 sf_187) g17.1 g17.2 (fun x16 ex16 lx16 ux16 => ?_)
  replace H := H x16 ex16 lx16 ux16
  refine A_aload_n 0 d_MD_isAhead_43 rfl rfl ?_
  refine A_getAv (z := some 188) T_ok d_MD_isAhead_44 f_MD_66 (hb_s hb11 sf_170) (hb_m hb11 rfm_30) ?_
  refine A_pc (pc' := 47) rfl ?_
  refine A_iload_n 2 d_MD_isAhead_47 rfl rfl ?_
  refine A_laloadf d_MD_isAhead_48 (hb_s hb11 sf_188) g17.1 g17.2 (fun x19 ex19 lx19 ux19 => ?_)
  replace H := H x19 ex19 lx19 ux19
  refine A_callV4 m_MD_compare T_ok d_MD_isAhead_49 l_MD_500 k_MD_compare (hb_s hb11 sf_170) rfl (by decide +kernel) (by decide) (Nat.le_of_ble_eq_true rfl) H (fun r h20 hq => ?_)
  clear H
  obtain ⟨z22, rfl, hb21, H⟩ := hq
  refine A_if_gt (tgt := 59) d_MD_isAhead_52 (by decide) (fun c => ?_) (fun c => ?_)
  · replace H := H.1 c
    refine A_iconst d_MD_isAhead_59 rfl ?_
    refine A_pc (pc' := 60) rfl ?_
    refine A_free (L' := [none, none, none]) trivial ?_
    exact b_MD_isAhead_60    hb21 H
  · replace H := H.2 c
    refine A_iconst d_MD_isAhead_55 rfl ?_
    refine A_goto (tgt := 60) d_MD_isAhead_56 (by decide) ?_
    refine A_pc (pc' := 60) rfl ?_
    refine A_free (L' := [none, none, none]) trivial ?_
    exact b_MD_isAhead_60    hb21 H
theorem c_MD_isAhead {G : cx_T} {s : Nat} {a1 : Int} {a2 : Int} {h : ah_T} {Q : Option av_T → ah_T → Prop} (hb0 : hb s h) (H : i32 a1 → i32 a2 → B_MD_isAhead_0 G s a1 a2 h Q ) : con G 3 0 0 m_MD_isAhead [av_R (some 170), av_I a1, av_I a2] h Q := by
  have hS : isS s := hb0.2.1
  refine con_of (L := [some (av_R (some 170)), some (av_I a1), some (av_I a2)]) (by decide +kernel) (Nat.le_of_ble_eq_true rfl) rfl ?_
  refine A_locI 1 rfl (fun ra1 => ?_)
  refine A_locI 2 rfl (fun ra2 => ?_)
  exact b_MD_isAhead_0   hb0 (H ra1 ra2)
def B_MD_crosses_67 (G : cx_T) (s : Nat) (a1 : Int) (a2 : Int) (v3 : Int) (h : ah_T) (Q : Option av_T → ah_T → Prop) (X2 : Int → ah_T → Prop) : Prop :=
 ((-2147483648) ≤ (v3 + 1) ∧ (v3 + 1) ≤ 2147483647) ∧ X2 ((v3 + 1)) h
theorem b_MD_crosses_67 {G : cx_T} {s : Nat} {a1 : Int} {a2 : Int} {v3 : Int} {h : ah_T} {Q : Option av_T → ah_T → Prop} {X2 : Int → ah_T → Prop} (hX2 : ∀ (v3 : Int) (h : ah_T), hb s h → X2 v3 h → aw G (rm_R 4 0 0) m_MD_crosses 0 0 2 [some (av_R (some 170)), some (av_I a1), some (av_I a2), some (av_I v3), none] [] h Q) (hb0 : hb s h) (H : B_MD_crosses_67 G s a1 a2 v3 h Q X2) : aw G (rm_R 4 0 0) m_MD_crosses 0 0 67 [some (av_R (some 170)), some (av_I a1), some (av_I a2), some (av_I v3), none] [] h Q := by
  unfold B_MD_crosses_67 at H
  have hS : isS s := hb0.2.1
  have g1 := H.1
  replace H := H.2
  refine A_iincv (z := (v3 + 1)) (L' := [some (av_R (some 170)), some (av_I a1), some (av_I a2), some (av_I (v3 + 1)), none]) d_MD_crosses_67 rfl (w32_to (by omega) (by unfold i32; omega)) rfl ?_
  refine A_goto (tgt := 2) d_MD_crosses_70 (by decide) ?_
  refine A_pc (pc' := 2) rfl ?_
  exact hX2 ((v3 + 1)) h  hb0 H
def B_MD_crosses_2 (G : cx_T) (s : Nat) (a1 : Int) (a2 : Int) (v3 : Int) (h : ah_T) (Q : Option av_T → ah_T → Prop) (X2 : Int → ah_T → Prop) : Prop :=
 (0 ≤ a2 ∧ a2 < 8) ∧ ∀ x2 : Int, x2 = h.2.1 185 (a2).toNat → -2147483648 ≤ x2 → x2 ≤ 2147483647 → ((x2 ≤ v3 → Q (some (av_I 0)) h) ∧ (¬ x2 ≤ v3 → ((-2147483648) ≤ (300 * a2) ∧ (300 * a2) ≤ 2147483647) ∧ ((-2147483648) ≤ (300 * a2 + v3) ∧ (300 * a2 + v3) ≤ 2147483647) ∧ (0 ≤ (300 * a2 + v3) ∧ (300 * a2 + v3) < 2400) ∧ ∀ x7 : Int, x7 = h.2.1 191 ((300 * a2 + v3)).toNat → -2147483648 ≤ x7 → x7 ≤ 2147483647 → ((x7 ≤ 0 → B_MD_crosses_67 G s a1 a2 (v3) h Q X2) ∧ (¬ x7 ≤ 0 → con G 3 0 0 m_MD_isAhead [av_R (some 170), av_I a1, av_I (300 * a2 + v3)] h (fun r h9 => ∃ z11 : Int, r = some (av_I z11) ∧ hb s h9 ∧ ((z11 = 0 → con G 3 0 0 m_MD_isAhead [av_R (some 170), av_I (300 * a2 + v3), av_I a1] h9 (fun r h12 => ∃ z14 : Int, r = some (av_I z14) ∧ hb s h12 ∧ ((z14 = 0 → con G 0 0 0 m_MD_lowest [av_R (some 170), av_I (300 * a2 + v3)] h12 (fun r h15 => ∃ z17 : Int, r = some (av_I z17) ∧ hb s h15 ∧ con G 0 0 0 m_MD_highest [av_R (some 170), av_I a1] h15 (fun r h18 => ∃ z20 : Int, r = some (av_I z20) ∧ hb s h18 ∧ ((z20 ≤ z17 → B_MD_crosses_67 G s a1 a2 (v3) h18 Q X2) ∧ (¬ z20 ≤ z17 → Q (some (av_I 1)) h18))))) ∧ (¬ z14 = 0 → B_MD_crosses_67 G s a1 a2 (v3) h12 Q X2)))) ∧ (¬ z11 = 0 → B_MD_crosses_67 G s a1 a2 (v3) h9 Q X2)))))))
theorem b_MD_crosses_2 {G : cx_T} {s : Nat} {a1 : Int} {a2 : Int} {v3 : Int} {h : ah_T} {Q : Option av_T → ah_T → Prop} {X2 : Int → ah_T → Prop} (hX2 : ∀ (v3 : Int) (h : ah_T), hb s h → X2 v3 h → aw G (rm_R 4 0 0) m_MD_crosses 0 0 2 [some (av_R (some 170)), some (av_I a1), some (av_I a2), some (av_I v3), none] [] h Q) (hb0 : hb s h) (H : B_MD_crosses_2 G s a1 a2 v3 h Q X2) : aw G (rm_R 4 0 0) m_MD_crosses 0 0 2 [some (av_R (some 170)), some (av_I a1), some (av_I a2), some (av_I v3), none] [] h Q := by
  unfold B_MD_crosses_2 at H
  have hS : isS s := hb0.2.1
  refine A_iload_n 3 d_MD_crosses_2 rfl rfl ?_
  refine A_aload_n 0 d_MD_crosses_3 rfl rfl ?_
  refine A_getAv (z := some 185) T_ok d_MD_crosses_4 f_MD_57 (hb_s hb0 sf_170) (hb_m hb0 rfm_27) ?_
  refine A_iload_n 2 d_MD_crosses_7 rfl rfl ?_
  have g3 := H.1
  replace H := H.2
  refine A_ialoadf d_MD_crosses_8 (hb_s hb0 sf_185) g3.1 g3.2 (fun x2 ex2 lx2 ux2 => ?_)
  replace H := H x2 ex2 lx2 ux2
  refine A_pc (pc' := 9) rfl ?_
  refine A_icmp_ge (tgt := 73) d_MD_crosses_9 (by decide) (fun c => ?_) (fun c => ?_)
  · replace H := H.1 c
    refine A_iconst d_MD_crosses_73 rfl ?_
    exact A_zret d_MD_crosses_74 (by decide) rfl (by decide) H
  · replace H := H.2 c
    refine A_sipush d_MD_crosses_12 rfl ?_
    refine A_iload_n 2 d_MD_crosses_15 rfl rfl ?_
    have g4 := H.1
    replace H := H.2
    refine A_imulv (z := (300 * a2)) d_MD_crosses_16 (w32_to (by omega) (by unfold i32; omega)) ?_
    refine A_iload_n 3 d_MD_crosses_17 rfl rfl ?_
    have g5 := H.1
    replace H := H.2
    refine A_iaddv (z := (300 * a2 + v3)) d_MD_crosses_18 (w32_to (by omega) (by unfold i32; omega)) ?_
    refine A_pc (pc' := 19) rfl ?_
    refine A_istore (L' := [some (av_R (some 170)), some (av_I a1), some (av_I a2), some (av_I v3), some (av_I (300 * a2 + v3))]) d_MD_crosses_19 (Nat.le_of_ble_eq_true rfl) rfl ?_
    refine A_aload_n 0 d_MD_crosses_21 rfl rfl ?_
    refine A_getAv (z := some 191) T_ok d_MD_crosses_22 f_MD_75 (hb_s hb0 sf_170) (hb_m hb0 rfm_33) ?_
    refine A_iload d_MD_crosses_25 rfl ?_
    have g8 := H.1
    replace H := H.2
    refine A_ialoadf d_MD_crosses_27 (hb_s hb0 sf_191) g8.1 g8.2 (fun x7 ex7 lx7 ux7 => ?_)
    replace H := H x7 ex7 lx7 ux7
    refine A_if_le (tgt := 67) d_MD_crosses_28 (by decide) (fun c => ?_) (fun c => ?_)
    · replace H := H.1 c
      refine A_pc (pc' := 67) rfl ?_
      refine A_free (L' := [some (av_R (some 170)), some (av_I a1), some (av_I a2), some (av_I v3), none]) (And.intro rfl (And.intro rfl (And.intro rfl (And.intro rfl trivial)))) ?_
      exact b_MD_crosses_67  hX2  hb0 H
    · replace H := H.2 c
      refine A_aload_n 0 d_MD_crosses_31 rfl rfl ?_
      refine A_iload_n 1 d_MD_crosses_32 rfl rfl ?_
      refine A_iload d_MD_crosses_33 rfl ?_
      refine A_callV2 m_MD_isAhead T_ok d_MD_crosses_35 l_MD_529 k_MD_isAhead (hb_s hb0 sf_170) rfl (by decide +kernel) (by decide) (Nat.le_of_ble_eq_true rfl) H (fun r h9 hq => ?_)
      clear H
      obtain ⟨z11, rfl, hb10, H⟩ := hq
      refine A_if_ne (tgt := 67) d_MD_crosses_38 (by decide) (fun c => ?_) (fun c => ?_)
      · replace H := H.2 c
        refine A_pc (pc' := 67) rfl ?_
        refine A_free (L' := [some (av_R (some 170)), some (av_I a1), some (av_I a2), some (av_I v3), none]) (And.intro rfl (And.intro rfl (And.intro rfl (And.intro rfl trivial)))) ?_
        exact b_MD_crosses_67  hX2  hb10 H
      · replace H := H.1 c
        refine A_aload_n 0 d_MD_crosses_41 rfl rfl ?_
        refine A_iload d_MD_crosses_42 rfl ?_
        refine A_iload_n 1 d_MD_crosses_44 rfl rfl ?_
        refine A_callV2 m_MD_isAhead T_ok d_MD_crosses_45 l_MD_529 k_MD_isAhead (hb_s hb10 sf_170) rfl (by decide +kernel) (by decide) (Nat.le_of_ble_eq_true rfl) H (fun r h12 hq => ?_)
        clear H
        obtain ⟨z14, rfl, hb13, H⟩ := hq
        refine A_if_ne (tgt := 67) d_MD_crosses_48 (by decide) (fun c => ?_) (fun c => ?_)
        · replace H := H.2 c
          refine A_pc (pc' := 67) rfl ?_
          refine A_free (L' := [some (av_R (some 170)), some (av_I a1), some (av_I a2), some (av_I v3), none]) (And.intro rfl (And.intro rfl (And.intro rfl (And.intro rfl trivial)))) ?_
          exact b_MD_crosses_67  hX2  hb13 H
        · replace H := H.1 c
          refine A_aload_n 0 d_MD_crosses_51 rfl rfl ?_
          refine A_iload d_MD_crosses_52 rfl ?_
          refine A_callV1 m_MD_lowest T_ok d_MD_crosses_54 l_MD_520 k_MD_lowest (hb_s hb13 sf_170) rfl (by decide +kernel) (by decide) (Nat.le_of_ble_eq_true rfl) H (fun r h15 hq => ?_)
          clear H
          obtain ⟨z17, rfl, hb16, H⟩ := hq
          refine A_aload_n 0 d_MD_crosses_57 rfl rfl ?_
          refine A_iload_n 1 d_MD_crosses_58 rfl rfl ?_
          refine A_callV1 m_MD_highest T_ok d_MD_crosses_59 l_MD_532 k_MD_highest (hb_s hb16 sf_170) rfl (by decide +kernel) (by decide) (Nat.le_of_ble_eq_true rfl) H (fun r h18 hq => ?_)
          clear H
          obtain ⟨z20, rfl, hb19, H⟩ := hq
          refine A_icmp_ge (tgt := 67) d_MD_crosses_62 (by decide) (fun c => ?_) (fun c => ?_)
          · replace H := H.1 c
            refine A_pc (pc' := 67) rfl ?_
            refine A_free (L' := [some (av_R (some 170)), some (av_I a1), some (av_I a2), some (av_I v3), none]) (And.intro rfl (And.intro rfl (And.intro rfl (And.intro rfl trivial)))) ?_
            exact b_MD_crosses_67  hX2  hb19 H
          · replace H := H.2 c
            refine A_iconst d_MD_crosses_65 rfl ?_
            exact A_zret d_MD_crosses_66 (by decide) rfl (by decide) H
theorem lp_MD_crosses_2 {G : cx_T} {s : Nat} {a1 : Int} {a2 : Int} {Q : Option av_T → ah_T → Prop} (I : Int → ah_T → Prop) (μ : Int → ah_T → Nat) (hI : ∀ (v3 : Int) (h : ah_T), hb s h → I v3 h → B_MD_crosses_2 G s a1 a2 v3 h Q (fun v3' h' => I v3' h' ∧ μ v3' h' < μ v3 h)) : ∀ (v3 : Int) (h : ah_T), hb s h → I v3 h → aw G (rm_R 4 0 0) m_MD_crosses 0 0 2 [some (av_R (some 170)), some (av_I a1), some (av_I a2), some (av_I v3), none] [] h Q := by
  have key : ∀ (n : Nat) (v3 : Int) (h : ah_T), hb s h → I v3 h → μ v3 h < n → aw G (rm_R 4 0 0) m_MD_crosses 0 0 2 [some (av_R (some 170)), some (av_I a1), some (av_I a2), some (av_I v3), none] [] h Q := by
    intro n
    induction n with
    | zero => intro v3 h  hb0 hi hm; omega
    | succ n ih => intro v3 h  hb0 hi hm; exact b_MD_crosses_2  (fun v3' h'  hb' hx => ih v3' h'  hb' hx.1 (by have := hx.2; omega))  hb0 (hI v3 h  hb0 hi)
  exact fun v3 h  hb0 hi => key _ v3 h  hb0 hi (Nat.lt_succ_self _)
def B_MD_crosses_0 (G : cx_T) (s : Nat) (a1 : Int) (a2 : Int) (h : ah_T) (Q : Option av_T → ah_T → Prop) (X2 : Int → ah_T → Prop) : Prop :=
 X2 (0) h
theorem b_MD_crosses_0 {G : cx_T} {s : Nat} {a1 : Int} {a2 : Int} {h : ah_T} {Q : Option av_T → ah_T → Prop} {X2 : Int → ah_T → Prop} (hX2 : ∀ (v3 : Int) (h : ah_T), hb s h → X2 v3 h → aw G (rm_R 4 0 0) m_MD_crosses 0 0 2 [some (av_R (some 170)), some (av_I a1), some (av_I a2), some (av_I v3), none] [] h Q) (hb0 : hb s h) (H : B_MD_crosses_0 G s a1 a2 h Q X2) : aw G (rm_R 4 0 0) m_MD_crosses 0 0 0 [some (av_R (some 170)), some (av_I a1), some (av_I a2), none, none] [] h Q := by
  unfold B_MD_crosses_0 at H
  have hS : isS s := hb0.2.1
  refine A_iconst d_MD_crosses_0 rfl ?_
  refine A_istore_n 3 (L' := [some (av_R (some 170)), some (av_I a1), some (av_I a2), some (av_I 0), none]) d_MD_crosses_1 rfl (Nat.le_of_ble_eq_true rfl) rfl ?_
  refine A_pc (pc' := 2) rfl ?_
  exact hX2 (0) h  hb0 H
theorem c_MD_crosses {G : cx_T} {s : Nat} {a1 : Int} {a2 : Int} {h : ah_T} {Q : Option av_T → ah_T → Prop} {X2 : Int → ah_T → Prop} (hX2 : ∀ (v3 : Int) (h : ah_T), hb s h → X2 v3 h → aw G (rm_R 4 0 0) m_MD_crosses 0 0 2 [some (av_R (some 170)), some (av_I a1), some (av_I a2), some (av_I v3), none] [] h Q) (hb0 : hb s h) (H : i32 a1 → i32 a2 → B_MD_crosses_0 G s a1 a2 h Q X2) : con G 4 0 0 m_MD_crosses [av_R (some 170), av_I a1, av_I a2] h Q := by
  have hS : isS s := hb0.2.1
  refine con_of (L := [some (av_R (some 170)), some (av_I a1), some (av_I a2), none, none]) (by decide +kernel) (Nat.le_of_ble_eq_true rfl) rfl ?_
  refine A_locI 1 rfl (fun ra1 => ?_)
  refine A_locI 2 rfl (fun ra2 => ?_)
  exact b_MD_crosses_0  hX2 hb0 (H ra1 ra2)
def B_MD_modulo_0 (G : cx_T) (s : Nat) (a1 : Int) (h : ah_T) (Q : Option av_T → ah_T → Prop) : Prop :=
 ∀ x1 : Int, x1 = (a1).tmod 12 → (-2147483648) ≤ x1 → x1 ≤ 2147483647 → ((-2147483648) ≤ (x1 + 12) ∧ (x1 + 12) ≤ 2147483647) ∧ ∀ x3 : Int, x3 = ((x1 + 12)).tmod 12 → (-2147483648) ≤ x3 → x3 ≤ 2147483647 → Q (some (av_I x3)) h
theorem b_MD_modulo_0 {G : cx_T} {s : Nat} {a1 : Int} {h : ah_T} {Q : Option av_T → ah_T → Prop} (hb0 : hb s h) (H : B_MD_modulo_0 G s a1 h Q ) : aw G (rm_R 0 0 0) m_MD_modulo 0 0 0 [some (av_R (some 170)), some (av_I a1)] [] h Q := by
  unfold B_MD_modulo_0 at H
  have hS : isS s := hb0.2.1
  refine A_iload_n 1 d_MD_modulo_0 rfl rfl ?_
  refine A_bipush d_MD_modulo_1 rfl ?_
  refine A_iremc d_MD_modulo_3 (by decide) (fun x1 ex1 lx1 ux1 => ?_)
  replace H := H x1 ex1 lx1 ux1
  refine A_bipush d_MD_modulo_4 rfl ?_
  have g2 := H.1
  replace H := H.2
  refine A_iaddv (z := (x1 + 12)) d_MD_modulo_6 (w32_to (by omega) (by unfold i32; omega)) ?_
  refine A_pc (pc' := 7) rfl ?_
  refine A_bipush d_MD_modulo_7 rfl ?_
  refine A_iremc d_MD_modulo_9 (by decide) (fun x3 ex3 lx3 ux3 => ?_)
  replace H := H x3 ex3 lx3 ux3
  exact A_iret d_MD_modulo_10 (by decide) rfl H
theorem c_MD_modulo {G : cx_T} {s : Nat} {a1 : Int} {h : ah_T} {Q : Option av_T → ah_T → Prop} (hb0 : hb s h) (H : i32 a1 → B_MD_modulo_0 G s a1 h Q ) : con G 0 0 0 m_MD_modulo [av_R (some 170), av_I a1] h Q := by
  have hS : isS s := hb0.2.1
  refine con_of (L := [some (av_R (some 170)), some (av_I a1)]) (by decide +kernel) (Nat.le_of_ble_eq_true rfl) rfl ?_
  refine A_locI 1 rfl (fun ra1 => ?_)
  exact b_MD_modulo_0   hb0 (H ra1)
def B_MD_goesAlong_192 (G : cx_T) (s : Nat) (a1 : Int) (a2 : Int) (t0 : Int) (h : ah_T) (Q : Option av_T → ah_T → Prop) : Prop :=
 (t0 = 0 ∨ t0 = 1) ∧ Q (some (av_I t0)) h
theorem b_MD_goesAlong_192 {G : cx_T} {s : Nat} {a1 : Int} {a2 : Int} {t0 : Int} {h : ah_T} {Q : Option av_T → ah_T → Prop} (hb0 : hb s h) (H : B_MD_goesAlong_192 G s a1 a2 t0 h Q ) : aw G (rm_R 1 0 0) m_MD_goesAlong 0 0 192 [none, none, none, none, none, none, none, none] [av_I t0] h Q := by
  unfold B_MD_goesAlong_192 at H
  have hS : isS s := hb0.2.1
  exact A_zret d_MD_goesAlong_192 (by decide) rfl H.1 H.2
def B_MD_goesAlong_191 (G : cx_T) (s : Nat) (a1 : Int) (a2 : Int) (h : ah_T) (Q : Option av_T → ah_T → Prop) : Prop :=
 B_MD_goesAlong_192 G s a1 a2 (0) h Q 
theorem b_MD_goesAlong_191 {G : cx_T} {s : Nat} {a1 : Int} {a2 : Int} {h : ah_T} {Q : Option av_T → ah_T → Prop} (hb0 : hb s h) (H : B_MD_goesAlong_191 G s a1 a2 h Q ) : aw G (rm_R 1 0 0) m_MD_goesAlong 0 0 191 [none, none, none, none, none, none, none, none] [] h Q := by
  unfold B_MD_goesAlong_191 at H
  have hS : isS s := hb0.2.1
  refine A_iconst d_MD_goesAlong_191 rfl ?_
  refine A_pc (pc' := 192) rfl ?_
  exact b_MD_goesAlong_192    hb0 H
def B_MD_goesAlong_172 (G : cx_T) (s : Nat) (a1 : Int) (a2 : Int) (h : ah_T) (Q : Option av_T → ah_T → Prop) : Prop :=
 con G 0 0 0 m_MD_lowest [av_R (some 170), av_I a1] h (fun r h1 => ∃ z3 : Int, r = some (av_I z3) ∧ hb s h1 ∧ ((-2147483648) ≤ (a1 - 1) ∧ (a1 - 1) ≤ 2147483647) ∧ con G 0 0 0 m_MD_lowest [av_R (some 170), av_I (a1 - 1)] h1 (fun r h5 => ∃ z7 : Int, r = some (av_I z7) ∧ hb s h5 ∧ ((z3 = z7 → B_MD_goesAlong_191 G s a1 a2 h5 Q ) ∧ (¬ z3 = z7 → B_MD_goesAlong_192 G s a1 a2 (1) h5 Q ))))
theorem b_MD_goesAlong_172 {G : cx_T} {s : Nat} {a1 : Int} {a2 : Int} {h : ah_T} {Q : Option av_T → ah_T → Prop} (hb0 : hb s h) (H : B_MD_goesAlong_172 G s a1 a2 h Q ) : aw G (rm_R 1 0 0) m_MD_goesAlong 0 0 172 [some (av_R (some 170)), some (av_I a1), none, none, none, none, none, none] [] h Q := by
  unfold B_MD_goesAlong_172 at H
  have hS : isS s := hb0.2.1
  refine A_aload_n 0 d_MD_goesAlong_172 rfl rfl ?_
  refine A_iload_n 1 d_MD_goesAlong_173 rfl rfl ?_
  refine A_callV1 m_MD_lowest T_ok d_MD_goesAlong_174 l_MD_520 k_MD_lowest (hb_s hb0 sf_170) rfl (by decide +kernel) (by decide) (Nat.le_of_ble_eq_true rfl) H (fun r h1 hq => ?_)
  clear H
  obtain ⟨z3, rfl, hb2, H⟩ := hq
  refine A_aload_n 0 d_MD_goesAlong_177 rfl rfl ?_
  refine A_iload_n 1 d_MD_goesAlong_178 rfl rfl ?_
  refine A_iconst d_MD_goesAlong_179 rfl ?_
  have g4 := H.1
  replace H := H.2
  refine A_isubv (z := (a1 - 1)) d_MD_goesAlong_180 (w32_to (by omega) (by unfold i32; omega)) ?_
  refine A_callV1 m_MD_lowest T_ok d_MD_goesAlong_181 l_MD_520 k_MD_lowest (hb_s hb2 sf_170) rfl (by decide +kernel) (by decide) (Nat.le_of_ble_eq_true rfl) H (fun r h5 hq => ?_)
  clear H
  obtain ⟨z7, rfl, hb6, H⟩ := hq
  refine A_icmp_eq (tgt := 191) d_MD_goesAlong_184 (by decide) (fun c => ?_) (fun c => ?_)
  · replace H := H.1 c
    refine A_pc (pc' := 191) rfl ?_
    refine A_free (L' := [none, none, none, none, none, none, none, none]) trivial ?_
    exact b_MD_goesAlong_191    hb6 H
  · replace H := H.2 c
    refine A_iconst d_MD_goesAlong_187 rfl ?_
    refine A_goto (tgt := 192) d_MD_goesAlong_188 (by decide) ?_
    refine A_pc (pc' := 192) rfl ?_
    refine A_free (L' := [none, none, none, none, none, none, none, none]) trivial ?_
    exact b_MD_goesAlong_192    hb6 H
def B_MD_goesAlong_104 (G : cx_T) (s : Nat) (a1 : Int) (a2 : Int) (v4 : Int) (t0 : Int) (h : ah_T) (Q : Option av_T → ah_T → Prop) : Prop :=
 ((t0 = 0 → Q (some (av_I 0)) h) ∧ (¬ t0 = 0 → con G 0 0 0 m_MD_lowest [av_R (some 170), av_I v4] h (fun r h1 => ∃ z3 : Int, r = some (av_I z3) ∧ hb s h1 ∧ con G 0 0 0 m_MD_lowest [av_R (some 170), av_I a1] h1 (fun r h4 => ∃ z6 : Int, r = some (av_I z6) ∧ hb s h4 ∧ ((-2147483648) ≤ (z3 - z6) ∧ (z3 - z6) ≤ 2147483647) ∧ con G 0 0 0 m_MD_modulo [av_R (some 170), av_I (z3 - z6)] h4 (fun r h8 => ∃ z10 : Int, r = some (av_I z10) ∧ hb s h8 ∧ ((-2147483648) ≤ (v4 - 1) ∧ (v4 - 1) ≤ 2147483647) ∧ con G 0 0 0 m_MD_lowest [av_R (some 170), av_I (v4 - 1)] h8 (fun r h12 => ∃ z14 : Int, r = some (av_I z14) ∧ hb s h12 ∧ ((-2147483648) ≤ (a1 - 1) ∧ (a1 - 1) ≤ 2147483647) ∧ con G 0 0 0 m_MD_lowest [av_R (some 170), av_I (a1 - 1)] h12 (fun r h16 => ∃ z18 : Int, r = some (av_I z18) ∧ hb s h16 ∧ ((-2147483648) ≤ (z14 - z18) ∧ (z14 - z18) ≤ 2147483647) ∧ con G 0 0 0 m_MD_modulo [av_R (some 170), av_I (z14 - z18)] h16 (fun r h20 => ∃ z22 : Int, r = some (av_I z22) ∧ hb s h20 ∧ ((z10 = z22 → ((z10 = 0 → B_MD_goesAlong_172 G s a1 a2 h20 Q ) ∧ (¬ z10 = 0 → ((z10 = 7 → B_MD_goesAlong_172 G s a1 a2 h20 Q ) ∧ (¬ z10 = 7 → B_MD_goesAlong_191 G s a1 a2 h20 Q ))))) ∧ (¬ z10 = z22 → B_MD_goesAlong_191 G s a1 a2 h20 Q ))))))))))
theorem b_MD_goesAlong_104 {G : cx_T} {s : Nat} {a1 : Int} {a2 : Int} {v4 : Int} {t0 : Int} {h : ah_T} {Q : Option av_T → ah_T → Prop} (hb0 : hb s h) (H : B_MD_goesAlong_104 G s a1 a2 v4 t0 h Q ) : aw G (rm_R 1 0 0) m_MD_goesAlong 0 0 104 [some (av_R (some 170)), some (av_I a1), none, none, some (av_I v4), none, none, none] [av_I t0] h Q := by
  unfold B_MD_goesAlong_104 at H
  have hS : isS s := hb0.2.1
  refine A_istore (L' := [some (av_R (some 170)), some (av_I a1), none, none, some (av_I v4), some (av_I t0), none, none]) d_MD_goesAlong_104 (Nat.le_of_ble_eq_true rfl) rfl ?_
  refine A_iload d_MD_goesAlong_106 rfl ?_
  refine A_if_ne (tgt := 113) d_MD_goesAlong_108 (by decide) (fun c => ?_) (fun c => ?_)
  · replace H := H.2 c
    refine A_aload_n 0 d_MD_goesAlong_113 rfl rfl ?_
    refine A_aload_n 0 d_MD_goesAlong_114 rfl rfl ?_
    refine A_iload d_MD_goesAlong_115 rfl ?_
    refine A_callV1 m_MD_lowest T_ok d_MD_goesAlong_117 l_MD_520 k_MD_lowest (hb_s hb0 sf_170) rfl (by decide +kernel) (by decide) (Nat.le_of_ble_eq_true rfl) H (fun r h1 hq => ?_)
    clear H
    obtain ⟨z3, rfl, hb2, H⟩ := hq
    refine A_aload_n 0 d_MD_goesAlong_120 rfl rfl ?_
    refine A_iload_n 1 d_MD_goesAlong_121 rfl rfl ?_
    refine A_callV1 m_MD_lowest T_ok d_MD_goesAlong_122 l_MD_520 k_MD_lowest (hb_s hb2 sf_170) rfl (by decide +kernel) (by decide) (Nat.le_of_ble_eq_true rfl) H (fun r h4 hq => ?_)
    clear H
    obtain ⟨z6, rfl, hb5, H⟩ := hq
    have g7 := H.1
    replace H := H.2
    refine A_isubv (z := (z3 - z6)) d_MD_goesAlong_125 (w32_to (by omega) (by unfold i32; omega)) ?_
    refine A_callV1 m_MD_modulo T_ok d_MD_goesAlong_126 l_MD_535 k_MD_modulo (hb_s hb5 sf_170) rfl (by decide +kernel) (by decide) (Nat.le_of_ble_eq_true rfl) H (fun r h8 hq => ?_)
    clear H
    obtain ⟨z10, rfl, hb9, H⟩ := hq
    refine A_istore (L' := [some (av_R (some 170)), some (av_I a1), none, none, some (av_I v4), some (av_I t0), some (av_I z10), none]) d_MD_goesAlong_129 (Nat.le_of_ble_eq_true rfl) rfl ?_
    refine A_aload_n 0 d_MD_goesAlong_131 rfl rfl ?_
    refine A_aload_n 0 d_MD_goesAlong_132 rfl rfl ?_
    refine A_iload d_MD_goesAlong_133 rfl ?_
    refine A_iconst d_MD_goesAlong_135 rfl ?_
    refine A_pc (pc' := 136) rfl ?_
    have g11 := H.1
    replace H := H.2
    refine A_isubv (z := (v4 - 1)) d_MD_goesAlong_136 (w32_to (by omega) (by unfold i32; omega)) ?_
    refine A_callV1 m_MD_lowest T_ok d_MD_goesAlong_137 l_MD_520 k_MD_lowest (hb_s hb9 sf_170) rfl (by decide +kernel) (by decide) (Nat.le_of_ble_eq_true rfl) H (fun r h12 hq => ?_)
    clear H
    obtain ⟨z14, rfl, hb13, H⟩ := hq
    refine A_aload_n 0 d_MD_goesAlong_140 rfl rfl ?_
    refine A_iload_n 1 d_MD_goesAlong_141 rfl rfl ?_
    refine A_iconst d_MD_goesAlong_142 rfl ?_
    have g15 := H.1
    replace H := H.2
    refine A_isubv (z := (a1 - 1)) d_MD_goesAlong_143 (w32_to (by omega) (by unfold i32; omega)) ?_
    refine A_callV1 m_MD_lowest T_ok d_MD_goesAlong_144 l_MD_520 k_MD_lowest (hb_s hb13 sf_170) rfl (by decide +kernel) (by decide) (Nat.le_of_ble_eq_true rfl) H (fun r h16 hq => ?_)
    clear H
    obtain ⟨z18, rfl, hb17, H⟩ := hq
    have g19 := H.1
    replace H := H.2
    refine A_isubv (z := (z14 - z18)) d_MD_goesAlong_147 (w32_to (by omega) (by unfold i32; omega)) ?_
    refine A_callV1 m_MD_modulo T_ok d_MD_goesAlong_148 l_MD_535 k_MD_modulo (hb_s hb17 sf_170) rfl (by decide +kernel) (by decide) (Nat.le_of_ble_eq_true rfl) H (fun r h20 hq => ?_)
    clear H
    obtain ⟨z22, rfl, hb21, H⟩ := hq
    refine A_istore (L' := [some (av_R (some 170)), some (av_I a1), none, none, some (av_I v4), some (av_I t0), some (av_I z10), some (av_I z22)]) d_MD_goesAlong_151 (Nat.le_of_ble_eq_true rfl) rfl ?_
    refine A_iload d_MD_goesAlong_153 rfl ?_
    refine A_iload d_MD_goesAlong_155 rfl ?_
    refine A_icmp_ne (tgt := 191) d_MD_goesAlong_157 (by decide) (fun c => ?_) (fun c => ?_)
    · replace H := H.2 c
      refine A_pc (pc' := 191) rfl ?_
      refine A_free (L' := [none, none, none, none, none, none, none, none]) trivial ?_
      exact b_MD_goesAlong_191    hb21 H
    · replace H := H.1 c
      refine A_iload d_MD_goesAlong_160 rfl ?_
      refine A_if_eq (tgt := 172) d_MD_goesAlong_162 (by decide) (fun c => ?_) (fun c => ?_)
      · replace H := H.1 c
        refine A_pc (pc' := 172) rfl ?_
        refine A_free (L' := [some (av_R (some 170)), some (av_I a1), none, none, none, none, none, none]) (And.intro rfl (And.intro rfl trivial)) ?_
        exact b_MD_goesAlong_172    hb21 H
      · replace H := H.2 c
        refine A_iload d_MD_goesAlong_165 rfl ?_
        refine A_bipush d_MD_goesAlong_167 rfl ?_
        refine A_icmp_ne (tgt := 191) d_MD_goesAlong_169 (by decide) (fun c => ?_) (fun c => ?_)
        · replace H := H.2 c
          refine A_pc (pc' := 191) rfl ?_
          refine A_free (L' := [none, none, none, none, none, none, none, none]) trivial ?_
          exact b_MD_goesAlong_191    hb21 H
        · replace H := H.1 c
          refine A_pc (pc' := 172) rfl ?_
          refine A_free (L' := [some (av_R (some 170)), some (av_I a1), none, none, none, none, none, none]) (And.intro rfl (And.intro rfl trivial)) ?_
          exact b_MD_goesAlong_172    hb21 H
  · replace H := H.1 c
    refine A_iconst d_MD_goesAlong_111 rfl ?_
    exact A_zret d_MD_goesAlong_112 (by decide) rfl (by decide) H
def B_MD_goesAlong_103 (G : cx_T) (s : Nat) (a1 : Int) (a2 : Int) (v4 : Int) (h : ah_T) (Q : Option av_T → ah_T → Prop) : Prop :=
 B_MD_goesAlong_104 G s a1 a2 (v4) (0) h Q 
theorem b_MD_goesAlong_103 {G : cx_T} {s : Nat} {a1 : Int} {a2 : Int} {v4 : Int} {h : ah_T} {Q : Option av_T → ah_T → Prop} (hb0 : hb s h) (H : B_MD_goesAlong_103 G s a1 a2 v4 h Q ) : aw G (rm_R 1 0 0) m_MD_goesAlong 0 0 103 [some (av_R (some 170)), some (av_I a1), none, none, some (av_I v4), none, none, none] [] h Q := by
  unfold B_MD_goesAlong_103 at H
  have hS : isS s := hb0.2.1
  refine A_iconst d_MD_goesAlong_103 rfl ?_
  refine A_pc (pc' := 104) rfl ?_
  exact b_MD_goesAlong_104    hb0 H
def B_MD_goesAlong_2 (G : cx_T) (s : Nat) (a1 : Int) (a2 : Int) (v3 : Int) (h : ah_T) (Q : Option av_T → ah_T → Prop) (X2 : Int → ah_T → Prop) : Prop :=
 (0 ≤ a2 ∧ a2 < 8) ∧ ∀ x2 : Int, x2 = h.2.1 185 (a2).toNat → -2147483648 ≤ x2 → x2 ≤ 2147483647 → ((x2 ≤ v3 → Q (some (av_I 0)) h) ∧ (¬ x2 ≤ v3 → ((-2147483648) ≤ (300 * a2) ∧ (300 * a2) ≤ 2147483647) ∧ ((-2147483648) ≤ (300 * a2 + v3) ∧ (300 * a2 + v3) ≤ 2147483647) ∧ (0 ≤ (300 * a2 + v3) ∧ (300 * a2 + v3) < 2400) ∧ ∀ x7 : Int, x7 = h.2.2.1 187 ((300 * a2 + v3)).toNat → -9223372036854775808 ≤ x7 → x7 ≤ 9223372036854775807 → ∀ x10 : Int, x10 = h.2.2.1 188 ((300 * a2 + v3)).toNat → -9223372036854775808 ≤ x10 → x10 ≤ 9223372036854775807 → (0 ≤ a1 ∧ a1 < 2400) ∧ ∀ x12 : Int, x12 = h.2.2.1 187 (a1).toNat → -9223372036854775808 ≤ x12 → x12 ≤ 9223372036854775807 → ∀ x15 : Int, x15 = h.2.2.1 188 (a1).toNat → -9223372036854775808 ≤ x15 → x15 ≤ 9223372036854775807 → con G 0 0 0 m_MD_compare [av_R (some 170), av_L x7, av_L x10, av_L x12, av_L x15] h (fun r h16 => ∃ z18 : Int, r = some (av_I z18) ∧ hb s h16 ∧ ((z18 = 0 → ∀ x20 : Int, x20 = h16.2.1 191 ((300 * a2 + v3)).toNat → -2147483648 ≤ x20 → x20 ≤ 2147483647 → ((x20 ≤ 0 → B_MD_goesAlong_103 G s a1 a2 ((300 * a2 + v3)) h16 Q ) ∧ (¬ x20 ≤ 0 → ((-2147483648) ≤ (300 * a2 + v3 - 1) ∧ (300 * a2 + v3 - 1) ≤ 2147483647) ∧ (0 ≤ (300 * a2 + v3 - 1) ∧ (300 * a2 + v3 - 1) < 2400) ∧ ∀ x23 : Int, x23 = h16.2.1 191 ((300 * a2 + v3 - 1)).toNat → -2147483648 ≤ x23 → x23 ≤ 2147483647 → ((x23 ≤ 0 → B_MD_goesAlong_103 G s a1 a2 ((300 * a2 + v3)) h16 Q ) ∧ (¬ x23 ≤ 0 → ∀ x26 : Int, x26 = h16.2.1 191 (a1).toNat → -2147483648 ≤ x26 → x26 ≤ 2147483647 → ((x26 ≤ 0 → B_MD_goesAlong_103 G s a1 a2 ((300 * a2 + v3)) h16 Q ) ∧ (¬ x26 ≤ 0 → ((-2147483648) ≤ (a1 - 1) ∧ (a1 - 1) ≤ 2147483647) ∧ (0 ≤ (a1 - 1) ∧ (a1 - 1) < 2400) ∧ ∀ x29 : Int, x29 = h16.2.1 191 ((a1 - 1)).toNat → -2147483648 ≤ x29 → x29 ≤ 2147483647 → ((x29 ≤ 0 → B_MD_goesAlong_103 G s a1 a2 ((300 * a2 + v3)) h16 Q ) ∧ (¬ x29 ≤ 0 → B_MD_goesAlong_104 G s a1 a2 ((300 * a2 + v3)) (1) h16 Q ))))))))) ∧ (¬ z18 = 0 → ((-2147483648) ≤ (v3 + 1) ∧ (v3 + 1) ≤ 2147483647) ∧ X2 ((v3 + 1)) h16)))))
theorem b_MD_goesAlong_2 {G : cx_T} {s : Nat} {a1 : Int} {a2 : Int} {v3 : Int} {h : ah_T} {Q : Option av_T → ah_T → Prop} {X2 : Int → ah_T → Prop} (hX2 : ∀ (v3 : Int) (h : ah_T), hb s h → X2 v3 h → aw G (rm_R 1 0 0) m_MD_goesAlong 0 0 2 [some (av_R (some 170)), some (av_I a1), some (av_I a2), some (av_I v3), none, none, none, none] [] h Q) (hb0 : hb s h) (H : B_MD_goesAlong_2 G s a1 a2 v3 h Q X2) : aw G (rm_R 1 0 0) m_MD_goesAlong 0 0 2 [some (av_R (some 170)), some (av_I a1), some (av_I a2), some (av_I v3), none, none, none, none] [] h Q := by
  unfold B_MD_goesAlong_2 at H
  have hS : isS s := hb0.2.1
  refine A_iload_n 3 d_MD_goesAlong_2 rfl rfl ?_
  refine A_aload_n 0 d_MD_goesAlong_3 rfl rfl ?_
  refine A_getAv (z := some 185) T_ok d_MD_goesAlong_4 f_MD_57 (hb_s hb0 sf_170) (hb_m hb0 rfm_27) ?_
  refine A_iload_n 2 d_MD_goesAlong_7 rfl rfl ?_
  have g3 := H.1
  replace H := H.2
  refine A_ialoadf d_MD_goesAlong_8 (hb_s hb0 sf_185) g3.1 g3.2 (fun x2 ex2 lx2 ux2 => ?_)
  replace H := H x2 ex2 lx2 ux2
  refine A_pc (pc' := 9) rfl ?_
  refine A_icmp_ge (tgt := 199) d_MD_goesAlong_9 (by decide) (fun c => ?_) (fun c => ?_)
  · replace H := H.1 c
    refine A_iconst d_MD_goesAlong_199 rfl ?_
    exact A_zret d_MD_goesAlong_200 (by decide) rfl (by decide) H
  · replace H := H.2 c
    refine A_sipush d_MD_goesAlong_12 rfl ?_
    refine A_iload_n 2 d_MD_goesAlong_15 rfl rfl ?_
    have g4 := H.1
    replace H := H.2
    refine A_imulv (z := (300 * a2)) d_MD_goesAlong_16 (w32_to (by omega) (by unfold i32; omega)) ?_
    refine A_iload_n 3 d_MD_goesAlong_17 rfl rfl ?_
    have g5 := H.1
    replace H := H.2
    refine A_iaddv (z := (300 * a2 + v3)) d_MD_goesAlong_18 (w32_to (by omega) (by unfold i32; omega)) ?_
    refine A_pc (pc' := 19) rfl ?_
    refine A_istore (L' := [some (av_R (some 170)), some (av_I a1), some (av_I a2), some (av_I v3), some (av_I (300 * a2 + v3)), none, none, none]) d_MD_goesAlong_19 (Nat.le_of_ble_eq_true rfl) rfl ?_
    refine A_aload_n 0 d_MD_goesAlong_21 rfl rfl ?_
    refine A_aload_n 0 d_MD_goesAlong_22 rfl rfl ?_
    refine A_getAv (z := some 187) T_ok d_MD_goesAlong_23 f_MD_63 (hb_s hb0 sf_170) (hb_m hb0 rfm_29) ?_
    refine A_iload d_MD_goesAlong_26 rfl ?_
    have g8 := H.1
    replace H := H.2
    refine A_laloadf d_MD_goesAlong_28 (hb_s hb0 sf_187) g8.1 g8.2 (fun x7 ex7 lx7 ux7 => ?_)
    replace H := H x7 ex7 lx7 ux7
    refine A_pc (pc' := 29) rfl ?_
    refine A_aload_n 0 d_MD_goesAlong_29 rfl rfl ?_
    refine A_getAv (z := some 188) T_ok d_MD_goesAlong_30 f_MD_66 (hb_s hb0 sf_170) (hb_m hb0 rfm_30) ?_
    refine A_iload d_MD_goesAlong_33 rfl ?_
    refine A_laloadf d_MD_goesAlong_35 (hb_s hb0 sf_188) g8.1 g8.2 (fun x10 ex10 lx10 ux10 => ?_)
    replace H := H x10 ex10 lx10 ux10
    refine A_aload_n 0 d_MD_goesAlong_36 rfl rfl ?_
    refine A_getAv (z := some 187) T_ok d_MD_goesAlong_37 f_MD_63 (hb_s hb0 sf_170) (hb_m hb0 rfm_29) ?_
    refine A_pc (pc' := 40) rfl ?_
    refine A_iload_n 1 d_MD_goesAlong_40 rfl rfl ?_
    have g13 := H.1
    replace H := H.2
    refine A_laloadf d_MD_goesAlong_41 (hb_s hb0 sf_187) g13.1 g13.2 (fun x12 ex12 lx12 ux12 => ?_)
    replace H := H x12 ex12 lx12 ux12
    refine A_aload_n 0 d_MD_goesAlong_42 rfl rfl ?_
    refine A_getAv (z := some 188) T_ok d_MD_goesAlong_43 f_MD_66 (hb_s hb0 sf_170) (hb_m hb0 rfm_30) ?_
    refine A_iload_n 1 d_MD_goesAlong_46 rfl rfl ?_
    refine A_laloadf d_MD_goesAlong_47 (hb_s hb0 sf_188) g13.1 g13.2 (fun x15 ex15 lx15 ux15 => ?_)
    replace H := H x15 ex15 lx15 ux15
    refine A_pc (pc' := 48) rfl ?_
    refine A_callV4 m_MD_compare T_ok d_MD_goesAlong_48 l_MD_500 k_MD_compare (hb_s hb0 sf_170) rfl (by decide +kernel) (by decide) (Nat.le_of_ble_eq_true rfl) H (fun r h16 hq => ?_)
    clear H
    obtain ⟨z18, rfl, hb17, H⟩ := hq
    refine A_if_eq (tgt := 57) d_MD_goesAlong_51 (by decide) (fun c => ?_) (fun c => ?_)
    · replace H := H.1 c
      refine A_aload_n 0 d_MD_goesAlong_57 rfl rfl ?_
      refine A_getAv (z := some 191) T_ok d_MD_goesAlong_58 f_MD_75 (hb_s hb17 sf_170) (hb_m hb17 rfm_33) ?_
      refine A_iload d_MD_goesAlong_61 rfl ?_
      refine A_ialoadf d_MD_goesAlong_63 (hb_s hb17 sf_191) g8.1 g8.2 (fun x20 ex20 lx20 ux20 => ?_)
      replace H := H x20 ex20 lx20 ux20
      refine A_if_le (tgt := 103) d_MD_goesAlong_64 (by decide) (fun c => ?_) (fun c => ?_)
      · replace H := H.1 c
        refine A_pc (pc' := 103) rfl ?_
        refine A_free (L' := [some (av_R (some 170)), some (av_I a1), none, none, some (av_I (300 * a2 + v3)), none, none, none]) (And.intro rfl (And.intro rfl (And.intro rfl trivial))) ?_
        exact b_MD_goesAlong_103    hb17 H
      · replace H := H.2 c
        refine A_aload_n 0 d_MD_goesAlong_67 rfl rfl ?_
        refine A_getAv (z := some 191) T_ok d_MD_goesAlong_68 f_MD_75 (hb_s hb17 sf_170) (hb_m hb17 rfm_33) ?_
        refine A_iload d_MD_goesAlong_71 rfl ?_
        refine A_iconst d_MD_goesAlong_73 rfl ?_
        have g22 := H.1
        replace H := H.2
        refine A_isubv (z := (300 * a2 + v3 - 1)) d_MD_goesAlong_74 (w32_to (by omega) (by unfold i32; omega)) ?_
        refine A_pc (pc' := 75) rfl ?_
        have g24 := H.1
        replace H := H.2
        refine A_ialoadf d_MD_goesAlong_75 (hb_s hb17 sf_191) g24.1 g24.2 (fun x23 ex23 lx23 ux23 => ?_)
        replace H := H x23 ex23 lx23 ux23
        refine A_if_le (tgt := 103) d_MD_goesAlong_76 (by decide) (fun c => ?_) (fun c => ?_)
        · replace H := H.1 c
          refine A_pc (pc' := 103) rfl ?_
          refine A_free (L' := [some (av_R (some 170)), some (av_I a1), none, none, some (av_I (300 * a2 + v3)), none, none, none]) (And.intro rfl (And.intro rfl (And.intro rfl trivial))) ?_
          exact b_MD_goesAlong_103    hb17 H
        · replace H := H.2 c
          refine A_aload_n 0 d_MD_goesAlong_79 rfl rfl ?_
          refine A_getAv (z := some 191) T_ok d_MD_goesAlong_80 f_MD_75 (hb_s hb17 sf_170) (hb_m hb17 rfm_33) ?_
          refine A_iload_n 1 d_MD_goesAlong_83 rfl rfl ?_
          refine A_ialoadf d_MD_goesAlong_84 (hb_s hb17 sf_191) g13.1 g13.2 (fun x26 ex26 lx26 ux26 => ?_)
          replace H := H x26 ex26 lx26 ux26
          refine A_if_le (tgt := 103) d_MD_goesAlong_85 (by decide) (fun c => ?_) (fun c => ?_)
          · replace H := H.1 c
            refine A_pc (pc' := 103) rfl ?_
            refine A_free (L' := [some (av_R (some 170)), some (av_I a1), none, none, some (av_I (300 * a2 + v3)), none, none, none]) (And.intro rfl (And.intro rfl (And.intro rfl trivial))) ?_
            exact b_MD_goesAlong_103    hb17 H
          · replace H := H.2 c
            refine A_aload_n 0 d_MD_goesAlong_88 rfl rfl ?_
            refine A_getAv (z := some 191) T_ok d_MD_goesAlong_89 f_MD_75 (hb_s hb17 sf_170) (hb_m hb17 rfm_33) ?_
            refine A_iload_n 1 d_MD_goesAlong_92 rfl rfl ?_
            refine A_iconst d_MD_goesAlong_93 rfl ?_
            have g28 := H.1
            replace H := H.2
            refine A_isubv (z := (a1 - 1)) d_MD_goesAlong_94 (w32_to (by omega) (by unfold i32; omega)) ?_
            refine A_pc (pc' := 95) rfl ?_
            have g30 := H.1
            replace H := H.2
            refine A_ialoadf d_MD_goesAlong_95 (hb_s hb17 sf_191) g30.1 g30.2 (fun x29 ex29 lx29 ux29 => ?_)
            replace H := H x29 ex29 lx29 ux29
            refine A_if_le (tgt := 103) d_MD_goesAlong_96 (by decide) (fun c => ?_) (fun c => ?_)
            · replace H := H.1 c
              refine A_pc (pc' := 103) rfl ?_
              refine A_free (L' := [some (av_R (some 170)), some (av_I a1), none, none, some (av_I (300 * a2 + v3)), none, none, none]) (And.intro rfl (And.intro rfl (And.intro rfl trivial))) ?_
              exact b_MD_goesAlong_103    hb17 H
            · replace H := H.2 c
              refine A_iconst d_MD_goesAlong_99 rfl ?_
              refine A_goto (tgt := 104) d_MD_goesAlong_100 (by decide) ?_
              refine A_pc (pc' := 104) rfl ?_
              refine A_free (L' := [some (av_R (some 170)), some (av_I a1), none, none, some (av_I (300 * a2 + v3)), none, none, none]) (And.intro rfl (And.intro rfl (And.intro rfl trivial))) ?_
              exact b_MD_goesAlong_104    hb17 H
    · replace H := H.2 c
      refine A_goto (tgt := 193) d_MD_goesAlong_54 (by decide) ?_
      have g31 := H.1
      replace H := H.2
      refine A_iincv (z := (v3 + 1)) (L' := [some (av_R (some 170)), some (av_I a1), some (av_I a2), some (av_I (v3 + 1)), some (av_I (300 * a2 + v3)), none, none, none]) d_MD_goesAlong_193 rfl (w32_to (by omega) (by unfold i32; omega)) rfl ?_
      refine A_goto (tgt := 2) d_MD_goesAlong_196 (by decide) ?_
      refine A_pc (pc' := 2) rfl ?_
      refine A_free (L' := [some (av_R (some 170)), some (av_I a1), some (av_I a2), some (av_I (v3 + 1)), none, none, none, none]) (And.intro rfl (And.intro rfl (And.intro rfl (And.intro rfl trivial)))) ?_
      exact hX2 ((v3 + 1)) h16  hb17 H
theorem lp_MD_goesAlong_2 {G : cx_T} {s : Nat} {a1 : Int} {a2 : Int} {Q : Option av_T → ah_T → Prop} (I : Int → ah_T → Prop) (μ : Int → ah_T → Nat) (hI : ∀ (v3 : Int) (h : ah_T), hb s h → I v3 h → B_MD_goesAlong_2 G s a1 a2 v3 h Q (fun v3' h' => I v3' h' ∧ μ v3' h' < μ v3 h)) : ∀ (v3 : Int) (h : ah_T), hb s h → I v3 h → aw G (rm_R 1 0 0) m_MD_goesAlong 0 0 2 [some (av_R (some 170)), some (av_I a1), some (av_I a2), some (av_I v3), none, none, none, none] [] h Q := by
  have key : ∀ (n : Nat) (v3 : Int) (h : ah_T), hb s h → I v3 h → μ v3 h < n → aw G (rm_R 1 0 0) m_MD_goesAlong 0 0 2 [some (av_R (some 170)), some (av_I a1), some (av_I a2), some (av_I v3), none, none, none, none] [] h Q := by
    intro n
    induction n with
    | zero => intro v3 h  hb0 hi hm; omega
    | succ n ih => intro v3 h  hb0 hi hm; exact b_MD_goesAlong_2  (fun v3' h'  hb' hx => ih v3' h'  hb' hx.1 (by have := hx.2; omega))  hb0 (hI v3 h  hb0 hi)
  exact fun v3 h  hb0 hi => key _ v3 h  hb0 hi (Nat.lt_succ_self _)
def B_MD_goesAlong_0 (G : cx_T) (s : Nat) (a1 : Int) (a2 : Int) (h : ah_T) (Q : Option av_T → ah_T → Prop) (X2 : Int → ah_T → Prop) : Prop :=
 X2 (1) h
theorem b_MD_goesAlong_0 {G : cx_T} {s : Nat} {a1 : Int} {a2 : Int} {h : ah_T} {Q : Option av_T → ah_T → Prop} {X2 : Int → ah_T → Prop} (hX2 : ∀ (v3 : Int) (h : ah_T), hb s h → X2 v3 h → aw G (rm_R 1 0 0) m_MD_goesAlong 0 0 2 [some (av_R (some 170)), some (av_I a1), some (av_I a2), some (av_I v3), none, none, none, none] [] h Q) (hb0 : hb s h) (H : B_MD_goesAlong_0 G s a1 a2 h Q X2) : aw G (rm_R 1 0 0) m_MD_goesAlong 0 0 0 [some (av_R (some 170)), some (av_I a1), some (av_I a2), none, none, none, none, none] [] h Q := by
  unfold B_MD_goesAlong_0 at H
  have hS : isS s := hb0.2.1
  refine A_iconst d_MD_goesAlong_0 rfl ?_
  refine A_istore_n 3 (L' := [some (av_R (some 170)), some (av_I a1), some (av_I a2), some (av_I 1), none, none, none, none]) d_MD_goesAlong_1 rfl (Nat.le_of_ble_eq_true rfl) rfl ?_
  refine A_pc (pc' := 2) rfl ?_
  exact hX2 (1) h  hb0 H
theorem c_MD_goesAlong {G : cx_T} {s : Nat} {a1 : Int} {a2 : Int} {h : ah_T} {Q : Option av_T → ah_T → Prop} {X2 : Int → ah_T → Prop} (hX2 : ∀ (v3 : Int) (h : ah_T), hb s h → X2 v3 h → aw G (rm_R 1 0 0) m_MD_goesAlong 0 0 2 [some (av_R (some 170)), some (av_I a1), some (av_I a2), some (av_I v3), none, none, none, none] [] h Q) (hb0 : hb s h) (H : i32 a1 → i32 a2 → B_MD_goesAlong_0 G s a1 a2 h Q X2) : con G 1 0 0 m_MD_goesAlong [av_R (some 170), av_I a1, av_I a2] h Q := by
  have hS : isS s := hb0.2.1
  refine con_of (L := [some (av_R (some 170)), some (av_I a1), some (av_I a2), none, none, none, none, none]) (by decide +kernel) (Nat.le_of_ble_eq_true rfl) rfl ?_
  refine A_locI 1 rfl (fun ra1 => ?_)
  refine A_locI 2 rfl (fun ra2 => ?_)
  exact b_MD_goesAlong_0  hX2 hb0 (H ra1 ra2)
def B_MD_goesOn_118 (G : cx_T) (s : Nat) (a1 : Int) (a2 : Int) (v3 : Int) (v5 : Int) (t0 : Int) (h : ah_T) (Q : Option av_T → ah_T → Prop) (X28 : Int → Int → Int → ah_T → Prop) : Prop :=
 ((-2147483648) ≤ (v5 + 1) ∧ (v5 + 1) ≤ 2147483647) ∧ X28 (v3) (t0) ((v5 + 1)) h
theorem b_MD_goesOn_118 {G : cx_T} {s : Nat} {a1 : Int} {a2 : Int} {v3 : Int} {v5 : Int} {t0 : Int} {h : ah_T} {Q : Option av_T → ah_T → Prop} {X28 : Int → Int → Int → ah_T → Prop} (hX28 : ∀ (v3 : Int) (v4 : Int) (v5 : Int) (h : ah_T), hb s h → X28 v3 v4 v5 h → aw G (rm_R 0 0 0) m_MD_goesOn 0 0 28 [some (av_R (some 170)), none, none, some (av_I v3), some (av_I v4), some (av_I v5), none, none] [] h Q) (hb0 : hb s h) (H : B_MD_goesOn_118 G s a1 a2 v3 v5 t0 h Q X28) : aw G (rm_R 0 0 0) m_MD_goesOn 0 0 118 [some (av_R (some 170)), none, none, some (av_I v3), none, some (av_I v5), none, none] [av_I t0] h Q := by
  unfold B_MD_goesOn_118 at H
  have hS : isS s := hb0.2.1
  refine A_istore (L' := [some (av_R (some 170)), none, none, some (av_I v3), some (av_I t0), some (av_I v5), none, none]) d_MD_goesOn_118 (Nat.le_of_ble_eq_true rfl) rfl ?_
  have g1 := H.1
  replace H := H.2
  refine A_iincv (z := (v5 + 1)) (L' := [some (av_R (some 170)), none, none, some (av_I v3), some (av_I t0), some (av_I (v5 + 1)), none, none]) d_MD_goesOn_120 rfl (w32_to (by omega) (by unfold i32; omega)) rfl ?_
  refine A_goto (tgt := 28) d_MD_goesOn_123 (by decide) ?_
  refine A_pc (pc' := 28) rfl ?_
  exact hX28 (v3) (t0) ((v5 + 1)) h  hb0 H
def B_MD_goesOn_117 (G : cx_T) (s : Nat) (a1 : Int) (a2 : Int) (v3 : Int) (v5 : Int) (h : ah_T) (Q : Option av_T → ah_T → Prop) (X28 : Int → Int → Int → ah_T → Prop) : Prop :=
 B_MD_goesOn_118 G s a1 a2 (v3) (v5) (0) h Q X28
theorem b_MD_goesOn_117 {G : cx_T} {s : Nat} {a1 : Int} {a2 : Int} {v3 : Int} {v5 : Int} {h : ah_T} {Q : Option av_T → ah_T → Prop} {X28 : Int → Int → Int → ah_T → Prop} (hX28 : ∀ (v3 : Int) (v4 : Int) (v5 : Int) (h : ah_T), hb s h → X28 v3 v4 v5 h → aw G (rm_R 0 0 0) m_MD_goesOn 0 0 28 [some (av_R (some 170)), none, none, some (av_I v3), some (av_I v4), some (av_I v5), none, none] [] h Q) (hb0 : hb s h) (H : B_MD_goesOn_117 G s a1 a2 v3 v5 h Q X28) : aw G (rm_R 0 0 0) m_MD_goesOn 0 0 117 [some (av_R (some 170)), none, none, some (av_I v3), none, some (av_I v5), none, none] [] h Q := by
  unfold B_MD_goesOn_117 at H
  have hS : isS s := hb0.2.1
  refine A_iconst d_MD_goesOn_117 rfl ?_
  refine A_pc (pc' := 118) rfl ?_
  exact b_MD_goesOn_118  hX28  hb0 H
def B_MD_goesOn_95 (G : cx_T) (s : Nat) (a1 : Int) (a2 : Int) (v3 : Int) (v4 : Int) (v5 : Int) (v7 : Int) (t0 : Int) (h : ah_T) (Q : Option av_T → ah_T → Prop) (X45 : Int → Int → Int → Int → Int → ah_T → Prop) : Prop :=
 ((-2147483648) ≤ (v7 + 1) ∧ (v7 + 1) ≤ 2147483647) ∧ X45 (v3) (v4) (v5) (t0) ((v7 + 1)) h
theorem b_MD_goesOn_95 {G : cx_T} {s : Nat} {a1 : Int} {a2 : Int} {v3 : Int} {v4 : Int} {v5 : Int} {v7 : Int} {t0 : Int} {h : ah_T} {Q : Option av_T → ah_T → Prop} {X45 : Int → Int → Int → Int → Int → ah_T → Prop} (hX45 : ∀ (v3 : Int) (v4 : Int) (v5 : Int) (v6 : Int) (v7 : Int) (h : ah_T), hb s h → X45 v3 v4 v5 v6 v7 h → aw G (rm_R 0 0 0) m_MD_goesOn 0 0 45 [some (av_R (some 170)), none, none, some (av_I v3), some (av_I v4), some (av_I v5), some (av_I v6), some (av_I v7)] [] h Q) (hb0 : hb s h) (H : B_MD_goesOn_95 G s a1 a2 v3 v4 v5 v7 t0 h Q X45) : aw G (rm_R 0 0 0) m_MD_goesOn 0 0 95 [some (av_R (some 170)), none, none, some (av_I v3), some (av_I v4), some (av_I v5), none, some (av_I v7)] [av_I t0] h Q := by
  unfold B_MD_goesOn_95 at H
  have hS : isS s := hb0.2.1
  refine A_istore (L' := [some (av_R (some 170)), none, none, some (av_I v3), some (av_I v4), some (av_I v5), some (av_I t0), some (av_I v7)]) d_MD_goesOn_95 (Nat.le_of_ble_eq_true rfl) rfl ?_
  have g1 := H.1
  replace H := H.2
  refine A_iincv (z := (v7 + 1)) (L' := [some (av_R (some 170)), none, none, some (av_I v3), some (av_I v4), some (av_I v5), some (av_I t0), some (av_I (v7 + 1))]) d_MD_goesOn_97 rfl (w32_to (by omega) (by unfold i32; omega)) rfl ?_
  refine A_goto (tgt := 45) d_MD_goesOn_100 (by decide) ?_
  refine A_pc (pc' := 45) rfl ?_
  exact hX45 (v3) (v4) (v5) (t0) ((v7 + 1)) h  hb0 H
def B_MD_goesOn_90 (G : cx_T) (s : Nat) (a1 : Int) (a2 : Int) (v3 : Int) (v4 : Int) (v5 : Int) (v7 : Int) (h : ah_T) (Q : Option av_T → ah_T → Prop) (X45 : Int → Int → Int → Int → Int → ah_T → Prop) : Prop :=
 B_MD_goesOn_95 G s a1 a2 (v3) (v4) (v5) (v7) (1) h Q X45
theorem b_MD_goesOn_90 {G : cx_T} {s : Nat} {a1 : Int} {a2 : Int} {v3 : Int} {v4 : Int} {v5 : Int} {v7 : Int} {h : ah_T} {Q : Option av_T → ah_T → Prop} {X45 : Int → Int → Int → Int → Int → ah_T → Prop} (hX45 : ∀ (v3 : Int) (v4 : Int) (v5 : Int) (v6 : Int) (v7 : Int) (h : ah_T), hb s h → X45 v3 v4 v5 v6 v7 h → aw G (rm_R 0 0 0) m_MD_goesOn 0 0 45 [some (av_R (some 170)), none, none, some (av_I v3), some (av_I v4), some (av_I v5), some (av_I v6), some (av_I v7)] [] h Q) (hb0 : hb s h) (H : B_MD_goesOn_90 G s a1 a2 v3 v4 v5 v7 h Q X45) : aw G (rm_R 0 0 0) m_MD_goesOn 0 0 90 [some (av_R (some 170)), none, none, some (av_I v3), some (av_I v4), some (av_I v5), none, some (av_I v7)] [] h Q := by
  unfold B_MD_goesOn_90 at H
  have hS : isS s := hb0.2.1
  refine A_iconst d_MD_goesOn_90 rfl ?_
  refine A_goto (tgt := 95) d_MD_goesOn_91 (by decide) ?_
  refine A_pc (pc' := 95) rfl ?_
  exact b_MD_goesOn_95  hX45  hb0 H
def B_MD_goesOn_45 (G : cx_T) (s : Nat) (a1 : Int) (a2 : Int) (v3 : Int) (v4 : Int) (v5 : Int) (v6 : Int) (v7 : Int) (h : ah_T) (Q : Option av_T → ah_T → Prop) (X28 : Int → Int → Int → ah_T → Prop) (X45 : Int → Int → Int → Int → Int → ah_T → Prop) : Prop :=
 ((-2147483648) ≤ (v3 + 1) ∧ (v3 + 1) ≤ 2147483647) ∧ (0 ≤ (v3 + 1) ∧ (v3 + 1) < 2400) ∧ ∀ x3 : Int, x3 = h.2.1 191 ((v3 + 1)).toNat → -2147483648 ≤ x3 → x3 ≤ 2147483647 → ((x3 ≤ v7 → ((v4 = 0 → B_MD_goesOn_117 G s a1 a2 (v3) (v5) h Q X28) ∧ (¬ v4 = 0 → ((v6 = 0 → B_MD_goesOn_117 G s a1 a2 (v3) (v5) h Q X28) ∧ (¬ v6 = 0 → B_MD_goesOn_118 G s a1 a2 (v3) (v5) (1) h Q X28))))) ∧ (¬ x3 ≤ v7 → ((v6 = 0 → ((-2147483648) ≤ (4 * v3) ∧ (4 * v3) ≤ 2147483647) ∧ ((-2147483648) ≤ (4 * v3 + 4) ∧ (4 * v3 + 4) ≤ 2147483647) ∧ ((-2147483648) ≤ (4 * v3 + v7 + 4) ∧ (4 * v3 + v7 + 4) ≤ 2147483647) ∧ (0 ≤ (4 * v3 + v7 + 4) ∧ (4 * v3 + v7 + 4) < 9600) ∧ ∀ x9 : Int, x9 = h.2.1 192 ((4 * v3 + v7 + 4)).toNat → -2147483648 ≤ x9 → x9 ≤ 2147483647 → ((-2147483648) ≤ (4 * v3 + v5) ∧ (4 * v3 + v5) ≤ 2147483647) ∧ (0 ≤ (4 * v3 + v5) ∧ (4 * v3 + v5) < 9600) ∧ ∀ x13 : Int, x13 = h.2.1 192 ((4 * v3 + v5)).toNat → -2147483648 ≤ x13 → x13 ≤ 2147483647 → ((x9 = x13 → B_MD_goesOn_90 G s a1 a2 (v3) (v4) (v5) (v7) h Q X45) ∧ (¬ x9 = x13 → B_MD_goesOn_95 G s a1 a2 (v3) (v4) (v5) (v7) (0) h Q X45))) ∧ (¬ v6 = 0 → B_MD_goesOn_90 G s a1 a2 (v3) (v4) (v5) (v7) h Q X45))))
theorem b_MD_goesOn_45 {G : cx_T} {s : Nat} {a1 : Int} {a2 : Int} {v3 : Int} {v4 : Int} {v5 : Int} {v6 : Int} {v7 : Int} {h : ah_T} {Q : Option av_T → ah_T → Prop} {X28 : Int → Int → Int → ah_T → Prop} {X45 : Int → Int → Int → Int → Int → ah_T → Prop} (hX28 : ∀ (v3 : Int) (v4 : Int) (v5 : Int) (h : ah_T), hb s h → X28 v3 v4 v5 h → aw G (rm_R 0 0 0) m_MD_goesOn 0 0 28 [some (av_R (some 170)), none, none, some (av_I v3), some (av_I v4), some (av_I v5), none, none] [] h Q) (hX45 : ∀ (v3 : Int) (v4 : Int) (v5 : Int) (v6 : Int) (v7 : Int) (h : ah_T), hb s h → X45 v3 v4 v5 v6 v7 h → aw G (rm_R 0 0 0) m_MD_goesOn 0 0 45 [some (av_R (some 170)), none, none, some (av_I v3), some (av_I v4), some (av_I v5), some (av_I v6), some (av_I v7)] [] h Q) (hb0 : hb s h) (H : B_MD_goesOn_45 G s a1 a2 v3 v4 v5 v6 v7 h Q X28 X45) : aw G (rm_R 0 0 0) m_MD_goesOn 0 0 45 [some (av_R (some 170)), none, none, some (av_I v3), some (av_I v4), some (av_I v5), some (av_I v6), some (av_I v7)] [] h Q := by
  unfold B_MD_goesOn_45 at H
  have hS : isS s := hb0.2.1
  refine A_iload d_MD_goesOn_45 rfl ?_
  refine A_aload_n 0 d_MD_goesOn_47 rfl rfl ?_
  refine A_getAv (z := some 191) T_ok d_MD_goesOn_48 f_MD_75 (hb_s hb0 sf_170) (hb_m hb0 rfm_33) ?_
  refine A_iload_n 3 d_MD_goesOn_51 rfl rfl ?_
  refine A_iconst d_MD_goesOn_52 rfl ?_
  refine A_pc (pc' := 53) rfl ?_
  have g2 := H.1
  replace H := H.2
  refine A_iaddv (z := (v3 + 1)) d_MD_goesOn_53 (w32_to (by omega) (by unfold i32; omega)) ?_
  have g4 := H.1
  replace H := H.2
  refine A_ialoadf d_MD_goesOn_54 (hb_s hb0 sf_191) g4.1 g4.2 (fun x3 ex3 lx3 ux3 => ?_)
  replace H := H x3 ex3 lx3 ux3
  refine A_icmp_ge (tgt := 103) d_MD_goesOn_55 (by decide) (fun c => ?_) (fun c => ?_)
  · replace H := H.1 c
    refine A_iload d_MD_goesOn_103 rfl ?_
    refine A_if_eq (tgt := 117) d_MD_goesOn_105 (by decide) (fun c => ?_) (fun c => ?_)
    · replace H := H.1 c
      refine A_pc (pc' := 117) rfl ?_
      refine A_free (L' := [some (av_R (some 170)), none, none, some (av_I v3), none, some (av_I v5), none, none]) (And.intro rfl (And.intro rfl (And.intro rfl trivial))) ?_
      exact b_MD_goesOn_117  hX28  hb0 H
    · replace H := H.2 c
      refine A_iload d_MD_goesOn_108 rfl ?_
      refine A_if_eq (tgt := 117) d_MD_goesOn_110 (by decide) (fun c => ?_) (fun c => ?_)
      · replace H := H.1 c
        refine A_pc (pc' := 117) rfl ?_
        refine A_free (L' := [some (av_R (some 170)), none, none, some (av_I v3), none, some (av_I v5), none, none]) (And.intro rfl (And.intro rfl (And.intro rfl trivial))) ?_
        exact b_MD_goesOn_117  hX28  hb0 H
      · replace H := H.2 c
        refine A_iconst d_MD_goesOn_113 rfl ?_
        refine A_goto (tgt := 118) d_MD_goesOn_114 (by decide) ?_
        refine A_pc (pc' := 118) rfl ?_
        refine A_free (L' := [some (av_R (some 170)), none, none, some (av_I v3), none, some (av_I v5), none, none]) (And.intro rfl (And.intro rfl (And.intro rfl trivial))) ?_
        exact b_MD_goesOn_118  hX28  hb0 H
  · replace H := H.2 c
    refine A_iload d_MD_goesOn_58 rfl ?_
    refine A_if_ne (tgt := 90) d_MD_goesOn_60 (by decide) (fun c => ?_) (fun c => ?_)
    · replace H := H.2 c
      refine A_pc (pc' := 90) rfl ?_
      refine A_free (L' := [some (av_R (some 170)), none, none, some (av_I v3), some (av_I v4), some (av_I v5), none, some (av_I v7)]) (And.intro rfl (And.intro rfl (And.intro rfl (And.intro rfl (And.intro rfl trivial))))) ?_
      exact b_MD_goesOn_90  hX45  hb0 H
    · replace H := H.1 c
      refine A_aload_n 0 d_MD_goesOn_63 rfl rfl ?_
      refine A_getAv (z := some 192) T_ok d_MD_goesOn_64 f_MD_78 (hb_s hb0 sf_170) (hb_m hb0 rfm_34) ?_
      refine A_iconst d_MD_goesOn_67 rfl ?_
      refine A_iload_n 3 d_MD_goesOn_68 rfl rfl ?_
      have g6 := H.1
      replace H := H.2
      refine A_imulv (z := (4 * v3)) d_MD_goesOn_69 (w32_to (by omega) (by unfold i32; omega)) ?_
      refine A_pc (pc' := 70) rfl ?_
      refine A_iconst d_MD_goesOn_70 rfl ?_
      have g7 := H.1
      replace H := H.2
      refine A_iaddv (z := (4 * v3 + 4)) d_MD_goesOn_71 (w32_to (by omega) (by unfold i32; omega)) ?_
      refine A_iload d_MD_goesOn_72 rfl ?_
      have g8 := H.1
      replace H := H.2
      refine A_iaddv (z := (4 * v3 + v7 + 4)) d_MD_goesOn_74 (w32_to (by omega) (by unfold i32; omega)) ?_
      have g10 := H.1
      replace H := H.2
      refine A_ialoadf d_MD_goesOn_75 (hb_s hb0 sf_192) g10.1 g10.2 (fun x9 ex9 lx9 ux9 => ?_)
      replace H := H x9 ex9 lx9 ux9
      refine A_aload_n 0 d_MD_goesOn_76 rfl rfl ?_
      refine A_pc (pc' := 77) rfl ?_
      refine A_getAv (z := some 192) T_ok d_MD_goesOn_77 f_MD_78 (hb_s hb0 sf_170) (hb_m hb0 rfm_34) ?_
      refine A_iconst d_MD_goesOn_80 rfl ?_
      refine A_iload_n 3 d_MD_goesOn_81 rfl rfl ?_
      refine A_imulv (z := (4 * v3)) d_MD_goesOn_82 (w32_to (by omega) (by unfold i32; omega)) ?_
      refine A_iload d_MD_goesOn_83 rfl ?_
      have g12 := H.1
      replace H := H.2
      refine A_iaddv (z := (4 * v3 + v5)) d_MD_goesOn_85 (w32_to (by omega) (by unfold i32; omega)) ?_
      refine A_pc (pc' := 86) rfl ?_
      have g14 := H.1
      replace H := H.2
      refine A_ialoadf d_MD_goesOn_86 (hb_s hb0 sf_192) g14.1 g14.2 (fun x13 ex13 lx13 ux13 => ?_)
      replace H := H x13 ex13 lx13 ux13
      refine A_icmp_ne (tgt := 94) d_MD_goesOn_87 (by decide) (fun c => ?_) (fun c => ?_)
      · replace H := H.2 c
        refine A_iconst d_MD_goesOn_94 rfl ?_
        refine A_pc (pc' := 95) rfl ?_
        refine A_free (L' := [some (av_R (some 170)), none, none, some (av_I v3), some (av_I v4), some (av_I v5), none, some (av_I v7)]) (And.intro rfl (And.intro rfl (And.intro rfl (And.intro rfl (And.intro rfl trivial))))) ?_
        exact b_MD_goesOn_95  hX45  hb0 H
      · replace H := H.1 c
        refine A_pc (pc' := 90) rfl ?_
        refine A_free (L' := [some (av_R (some 170)), none, none, some (av_I v3), some (av_I v4), some (av_I v5), none, some (av_I v7)]) (And.intro rfl (And.intro rfl (And.intro rfl (And.intro rfl (And.intro rfl trivial))))) ?_
        exact b_MD_goesOn_90  hX45  hb0 H
theorem lp_MD_goesOn_45 {G : cx_T} {s : Nat} {a1 : Int} {a2 : Int} {Q : Option av_T → ah_T → Prop} {X28 : Int → Int → Int → ah_T → Prop} (hX28 : ∀ (v3 : Int) (v4 : Int) (v5 : Int) (h : ah_T), hb s h → X28 v3 v4 v5 h → aw G (rm_R 0 0 0) m_MD_goesOn 0 0 28 [some (av_R (some 170)), none, none, some (av_I v3), some (av_I v4), some (av_I v5), none, none] [] h Q) (I : Int → Int → Int → Int → Int → ah_T → Prop) (μ : Int → Int → Int → Int → Int → ah_T → Nat) (hI : ∀ (v3 : Int) (v4 : Int) (v5 : Int) (v6 : Int) (v7 : Int) (h : ah_T), hb s h → I v3 v4 v5 v6 v7 h → B_MD_goesOn_45 G s a1 a2 v3 v4 v5 v6 v7 h Q X28 (fun v3' v4' v5' v6' v7' h' => I v3' v4' v5' v6' v7' h' ∧ μ v3' v4' v5' v6' v7' h' < μ v3 v4 v5 v6 v7 h)) : ∀ (v3 : Int) (v4 : Int) (v5 : Int) (v6 : Int) (v7 : Int) (h : ah_T), hb s h → I v3 v4 v5 v6 v7 h → aw G (rm_R 0 0 0) m_MD_goesOn 0 0 45 [some (av_R (some 170)), none, none, some (av_I v3), some (av_I v4), some (av_I v5), some (av_I v6), some (av_I v7)] [] h Q := by
  have key : ∀ (n : Nat) (v3 : Int) (v4 : Int) (v5 : Int) (v6 : Int) (v7 : Int) (h : ah_T), hb s h → I v3 v4 v5 v6 v7 h → μ v3 v4 v5 v6 v7 h < n → aw G (rm_R 0 0 0) m_MD_goesOn 0 0 45 [some (av_R (some 170)), none, none, some (av_I v3), some (av_I v4), some (av_I v5), some (av_I v6), some (av_I v7)] [] h Q := by
    intro n
    induction n with
    | zero => intro v3 v4 v5 v6 v7 h  hb0 hi hm; omega
    | succ n ih => intro v3 v4 v5 v6 v7 h  hb0 hi hm; exact b_MD_goesOn_45  hX28 (fun v3' v4' v5' v6' v7' h'  hb' hx => ih v3' v4' v5' v6' v7' h'  hb' hx.1 (by have := hx.2; omega))  hb0 (hI v3 v4 v5 v6 v7 h  hb0 hi)
  exact fun v3 v4 v5 v6 v7 h  hb0 hi => key _ v3 v4 v5 v6 v7 h  hb0 hi (Nat.lt_succ_self _)
def B_MD_goesOn_28 (G : cx_T) (s : Nat) (a1 : Int) (a2 : Int) (v3 : Int) (v4 : Int) (v5 : Int) (h : ah_T) (Q : Option av_T → ah_T → Prop) (X45 : Int → Int → Int → Int → Int → ah_T → Prop) : Prop :=
 (0 ≤ v3 ∧ v3 < 2400) ∧ ∀ x2 : Int, x2 = h.2.1 191 (v3).toNat → -2147483648 ≤ x2 → x2 ≤ 2147483647 → ((x2 ≤ v5 → (v4 = 0 ∨ v4 = 1) ∧ Q (some (av_I v4)) h) ∧ (¬ x2 ≤ v5 → X45 (v3) (v4) (v5) (0) (0) h))
theorem b_MD_goesOn_28 {G : cx_T} {s : Nat} {a1 : Int} {a2 : Int} {v3 : Int} {v4 : Int} {v5 : Int} {h : ah_T} {Q : Option av_T → ah_T → Prop} {X45 : Int → Int → Int → Int → Int → ah_T → Prop} (hX45 : ∀ (v3 : Int) (v4 : Int) (v5 : Int) (v6 : Int) (v7 : Int) (h : ah_T), hb s h → X45 v3 v4 v5 v6 v7 h → aw G (rm_R 0 0 0) m_MD_goesOn 0 0 45 [some (av_R (some 170)), none, none, some (av_I v3), some (av_I v4), some (av_I v5), some (av_I v6), some (av_I v7)] [] h Q) (hb0 : hb s h) (H : B_MD_goesOn_28 G s a1 a2 v3 v4 v5 h Q X45) : aw G (rm_R 0 0 0) m_MD_goesOn 0 0 28 [some (av_R (some 170)), none, none, some (av_I v3), some (av_I v4), some (av_I v5), none, none] [] h Q := by
  unfold B_MD_goesOn_28 at H
  have hS : isS s := hb0.2.1
  refine A_iload d_MD_goesOn_28 rfl ?_
  refine A_aload_n 0 d_MD_goesOn_30 rfl rfl ?_
  refine A_getAv (z := some 191) T_ok d_MD_goesOn_31 f_MD_75 (hb_s hb0 sf_170) (hb_m hb0 rfm_33) ?_
  refine A_iload_n 3 d_MD_goesOn_34 rfl rfl ?_
  have g3 := H.1
  replace H := H.2
  refine A_ialoadf d_MD_goesOn_35 (hb_s hb0 sf_191) g3.1 g3.2 (fun x2 ex2 lx2 ux2 => ?_)
  replace H := H x2 ex2 lx2 ux2
  refine A_pc (pc' := 36) rfl ?_
  refine A_icmp_ge (tgt := 126) d_MD_goesOn_36 (by decide) (fun c => ?_) (fun c => ?_)
  · replace H := H.1 c
    refine A_iload d_MD_goesOn_126 rfl ?_
    exact A_zret d_MD_goesOn_128 (by decide) rfl H.1 H.2
  · replace H := H.2 c
    refine A_iconst d_MD_goesOn_39 rfl ?_
    refine A_istore (L' := [some (av_R (some 170)), none, none, some (av_I v3), some (av_I v4), some (av_I v5), some (av_I 0), none]) d_MD_goesOn_40 (Nat.le_of_ble_eq_true rfl) rfl ?_
    refine A_iconst d_MD_goesOn_42 rfl ?_
    refine A_istore (L' := [some (av_R (some 170)), none, none, some (av_I v3), some (av_I v4), some (av_I v5), some (av_I 0), some (av_I 0)]) d_MD_goesOn_43 (Nat.le_of_ble_eq_true rfl) rfl ?_
    refine A_pc (pc' := 45) rfl ?_
    exact hX45 (v3) (v4) (v5) (0) (0) h  hb0 H
theorem lp_MD_goesOn_28 {G : cx_T} {s : Nat} {a1 : Int} {a2 : Int} {Q : Option av_T → ah_T → Prop} {X45 : Int → Int → Int → Int → Int → ah_T → Prop} (hX45 : ∀ (v3 : Int) (v4 : Int) (v5 : Int) (v6 : Int) (v7 : Int) (h : ah_T), hb s h → X45 v3 v4 v5 v6 v7 h → aw G (rm_R 0 0 0) m_MD_goesOn 0 0 45 [some (av_R (some 170)), none, none, some (av_I v3), some (av_I v4), some (av_I v5), some (av_I v6), some (av_I v7)] [] h Q) (I : Int → Int → Int → ah_T → Prop) (μ : Int → Int → Int → ah_T → Nat) (hI : ∀ (v3 : Int) (v4 : Int) (v5 : Int) (h : ah_T), hb s h → I v3 v4 v5 h → B_MD_goesOn_28 G s a1 a2 v3 v4 v5 h Q X45) : ∀ (v3 : Int) (v4 : Int) (v5 : Int) (h : ah_T), hb s h → I v3 v4 v5 h → aw G (rm_R 0 0 0) m_MD_goesOn 0 0 28 [some (av_R (some 170)), none, none, some (av_I v3), some (av_I v4), some (av_I v5), none, none] [] h Q := by
  have key : ∀ (n : Nat) (v3 : Int) (v4 : Int) (v5 : Int) (h : ah_T), hb s h → I v3 v4 v5 h → μ v3 v4 v5 h < n → aw G (rm_R 0 0 0) m_MD_goesOn 0 0 28 [some (av_R (some 170)), none, none, some (av_I v3), some (av_I v4), some (av_I v5), none, none] [] h Q := by
    intro n
    induction n with
    | zero => intro v3 v4 v5 h  hb0 hi hm; omega
    | succ n ih => intro v3 v4 v5 h  hb0 hi hm; exact b_MD_goesOn_28  hX45  hb0 (hI v3 v4 v5 h  hb0 hi)
  exact fun v3 v4 v5 h  hb0 hi => key _ v3 v4 v5 h  hb0 hi (Nat.lt_succ_self _)
def B_MD_goesOn_0 (G : cx_T) (s : Nat) (a1 : Int) (a2 : Int) (h : ah_T) (Q : Option av_T → ah_T → Prop) (X28 : Int → Int → Int → ah_T → Prop) : Prop :=
 ((-2147483648) ≤ (a2 + 1) ∧ (a2 + 1) ≤ 2147483647) ∧ (0 ≤ a1 ∧ a1 < 8) ∧ ∀ x3 : Int, x3 = h.2.1 185 (a1).toNat → -2147483648 ≤ x3 → x3 ≤ 2147483647 → (((a2 + 1) = x3 → Q (some (av_I 0)) h) ∧ (¬ (a2 + 1) = x3 → ((-2147483648) ≤ (300 * a1) ∧ (300 * a1) ≤ 2147483647) ∧ ((-2147483648) ≤ (300 * a1 + a2) ∧ (300 * a1 + a2) ≤ 2147483647) ∧ X28 ((300 * a1 + a2)) (1) (0) h))
theorem b_MD_goesOn_0 {G : cx_T} {s : Nat} {a1 : Int} {a2 : Int} {h : ah_T} {Q : Option av_T → ah_T → Prop} {X28 : Int → Int → Int → ah_T → Prop} (hX28 : ∀ (v3 : Int) (v4 : Int) (v5 : Int) (h : ah_T), hb s h → X28 v3 v4 v5 h → aw G (rm_R 0 0 0) m_MD_goesOn 0 0 28 [some (av_R (some 170)), none, none, some (av_I v3), some (av_I v4), some (av_I v5), none, none] [] h Q) (hb0 : hb s h) (H : B_MD_goesOn_0 G s a1 a2 h Q X28) : aw G (rm_R 0 0 0) m_MD_goesOn 0 0 0 [some (av_R (some 170)), some (av_I a1), some (av_I a2), none, none, none, none, none] [] h Q := by
  unfold B_MD_goesOn_0 at H
  have hS : isS s := hb0.2.1
  refine A_iload_n 2 d_MD_goesOn_0 rfl rfl ?_
  refine A_iconst d_MD_goesOn_1 rfl ?_
  have g1 := H.1
  replace H := H.2
  refine A_iaddv (z := (a2 + 1)) d_MD_goesOn_2 (w32_to (by omega) (by unfold i32; omega)) ?_
  refine A_aload_n 0 d_MD_goesOn_3 rfl rfl ?_
  refine A_getAv (z := some 185) T_ok d_MD_goesOn_4 f_MD_57 (hb_s hb0 sf_170) (hb_m hb0 rfm_27) ?_
  refine A_pc (pc' := 7) rfl ?_
  refine A_iload_n 1 d_MD_goesOn_7 rfl rfl ?_
  have g4 := H.1
  replace H := H.2
  refine A_ialoadf d_MD_goesOn_8 (hb_s hb0 sf_185) g4.1 g4.2 (fun x3 ex3 lx3 ux3 => ?_)
  replace H := H x3 ex3 lx3 ux3
  refine A_icmp_ne (tgt := 14) d_MD_goesOn_9 (by decide) (fun c => ?_) (fun c => ?_)
  · replace H := H.2 c
    refine A_sipush d_MD_goesOn_14 rfl ?_
    refine A_iload_n 1 d_MD_goesOn_17 rfl rfl ?_
    have g5 := H.1
    replace H := H.2
    refine A_imulv (z := (300 * a1)) d_MD_goesOn_18 (w32_to (by omega) (by unfold i32; omega)) ?_
    refine A_iload_n 2 d_MD_goesOn_19 rfl rfl ?_
    have g6 := H.1
    replace H := H.2
    refine A_iaddv (z := (300 * a1 + a2)) d_MD_goesOn_20 (w32_to (by omega) (by unfold i32; omega)) ?_
    refine A_pc (pc' := 21) rfl ?_
    refine A_istore_n 3 (L' := [some (av_R (some 170)), some (av_I a1), some (av_I a2), some (av_I (300 * a1 + a2)), none, none, none, none]) d_MD_goesOn_21 rfl (Nat.le_of_ble_eq_true rfl) rfl ?_
    refine A_iconst d_MD_goesOn_22 rfl ?_
    refine A_istore (L' := [some (av_R (some 170)), some (av_I a1), some (av_I a2), some (av_I (300 * a1 + a2)), some (av_I 1), none, none, none]) d_MD_goesOn_23 (Nat.le_of_ble_eq_true rfl) rfl ?_
    refine A_iconst d_MD_goesOn_25 rfl ?_
    refine A_istore (L' := [some (av_R (some 170)), some (av_I a1), some (av_I a2), some (av_I (300 * a1 + a2)), some (av_I 1), some (av_I 0), none, none]) d_MD_goesOn_26 (Nat.le_of_ble_eq_true rfl) rfl ?_
    refine A_pc (pc' := 28) rfl ?_
    refine A_free (L' := [some (av_R (some 170)), none, none, some (av_I (300 * a1 + a2)), some (av_I 1), some (av_I 0), none, none]) (And.intro rfl (And.intro rfl (And.intro rfl (And.intro rfl trivial)))) ?_
    exact hX28 ((300 * a1 + a2)) (1) (0) h  hb0 H
  · replace H := H.1 c
    refine A_iconst d_MD_goesOn_12 rfl ?_
    exact A_zret d_MD_goesOn_13 (by decide) rfl (by decide) H
theorem c_MD_goesOn {G : cx_T} {s : Nat} {a1 : Int} {a2 : Int} {h : ah_T} {Q : Option av_T → ah_T → Prop} {X28 : Int → Int → Int → ah_T → Prop} (hX28 : ∀ (v3 : Int) (v4 : Int) (v5 : Int) (h : ah_T), hb s h → X28 v3 v4 v5 h → aw G (rm_R 0 0 0) m_MD_goesOn 0 0 28 [some (av_R (some 170)), none, none, some (av_I v3), some (av_I v4), some (av_I v5), none, none] [] h Q) (hb0 : hb s h) (H : i32 a1 → i32 a2 → B_MD_goesOn_0 G s a1 a2 h Q X28) : con G 0 0 0 m_MD_goesOn [av_R (some 170), av_I a1, av_I a2] h Q := by
  have hS : isS s := hb0.2.1
  refine con_of (L := [some (av_R (some 170)), some (av_I a1), some (av_I a2), none, none, none, none, none]) (by decide +kernel) (Nat.le_of_ble_eq_true rfl) rfl ?_
  refine A_locI 1 rfl (fun ra1 => ?_)
  refine A_locI 2 rfl (fun ra2 => ?_)
  exact b_MD_goesOn_0  hX28 hb0 (H ra1 ra2)
def B_MD_judgeEvent_162 (G : cx_T) (s : Nat) (a1 : Int) (a2 : Int) (v3 : Int) (v4 : Int) (h : ah_T) (Q : Option av_T → ah_T → Prop) (X133 : Int → Int → ah_T → Prop) : Prop :=
 ((-2147483648) ≤ (v4 + 1) ∧ (v4 + 1) ≤ 2147483647) ∧ X133 (v3) ((v4 + 1)) h
theorem b_MD_judgeEvent_162 {G : cx_T} {s : Nat} {a1 : Int} {a2 : Int} {v3 : Int} {v4 : Int} {h : ah_T} {Q : Option av_T → ah_T → Prop} {X133 : Int → Int → ah_T → Prop} (hX133 : ∀ (v3 : Int) (v4 : Int) (h : ah_T), hb s h → X133 v3 v4 h → aw G (rm_R 5 0 0) m_MD_judgeEvent 0 0 133 [some (av_R (some 170)), some (av_I a1), some (av_I a2), some (av_I v3), some (av_I v4)] [] h Q) (hb0 : hb s h) (H : B_MD_judgeEvent_162 G s a1 a2 v3 v4 h Q X133) : aw G (rm_R 5 0 0) m_MD_judgeEvent 0 0 162 [some (av_R (some 170)), some (av_I a1), some (av_I a2), some (av_I v3), some (av_I v4)] [] h Q := by
  unfold B_MD_judgeEvent_162 at H
  have hS : isS s := hb0.2.1
  have g1 := H.1
  replace H := H.2
  refine A_iincv (z := (v4 + 1)) (L' := [some (av_R (some 170)), some (av_I a1), some (av_I a2), some (av_I v3), some (av_I (v4 + 1))]) d_MD_judgeEvent_162 rfl (w32_to (by omega) (by unfold i32; omega)) rfl ?_
  refine A_goto (tgt := 133) d_MD_judgeEvent_165 (by decide) ?_
  refine A_pc (pc' := 133) rfl ?_
  exact hX133 (v3) ((v4 + 1)) h  hb0 H
def B_MD_judgeEvent_133 (G : cx_T) (s : Nat) (a1 : Int) (a2 : Int) (v3 : Int) (v4 : Int) (h : ah_T) (Q : Option av_T → ah_T → Prop) (X133 : Int → Int → ah_T → Prop) : Prop :=
 ((a1 ≤ v4 → Q none h) ∧ (¬ a1 ≤ v4 → ((a2 ≤ 0 → B_MD_judgeEvent_162 G s a1 a2 (v3) (v4) h Q X133) ∧ (¬ a2 ≤ 0 → con G 1 0 0 m_MD_goesAlong [av_R (some 170), av_I v3, av_I v4] h (fun r h1 => ∃ z3 : Int, r = some (av_I z3) ∧ hb s h1 ∧ ((z3 = 0 → B_MD_judgeEvent_162 G s a1 a2 (v3) (v4) h1 Q X133) ∧ (¬ z3 = 0 → con G 0 0 0 m_MD_tell [av_R (some 170), av_I 5, av_I a1, av_I a2, av_I v4] h1 (fun r h4 => r = none ∧ hb s h4 ∧ B_MD_judgeEvent_162 G s a1 a2 (v3) (v4) h4 Q X133))))))))
theorem b_MD_judgeEvent_133 {G : cx_T} {s : Nat} {a1 : Int} {a2 : Int} {v3 : Int} {v4 : Int} {h : ah_T} {Q : Option av_T → ah_T → Prop} {X133 : Int → Int → ah_T → Prop} (hX133 : ∀ (v3 : Int) (v4 : Int) (h : ah_T), hb s h → X133 v3 v4 h → aw G (rm_R 5 0 0) m_MD_judgeEvent 0 0 133 [some (av_R (some 170)), some (av_I a1), some (av_I a2), some (av_I v3), some (av_I v4)] [] h Q) (hb0 : hb s h) (H : B_MD_judgeEvent_133 G s a1 a2 v3 v4 h Q X133) : aw G (rm_R 5 0 0) m_MD_judgeEvent 0 0 133 [some (av_R (some 170)), some (av_I a1), some (av_I a2), some (av_I v3), some (av_I v4)] [] h Q := by
  unfold B_MD_judgeEvent_133 at H
  have hS : isS s := hb0.2.1
  refine A_iload d_MD_judgeEvent_133 rfl ?_
  refine A_iload_n 1 d_MD_judgeEvent_135 rfl rfl ?_
  refine A_icmp_ge (tgt := 168) d_MD_judgeEvent_136 (by decide) (fun c => ?_) (fun c => ?_)
  · replace H := H.1 c
    exact A_vret d_MD_judgeEvent_168 (by decide) rfl H
  · replace H := H.2 c
    refine A_iload_n 2 d_MD_judgeEvent_139 rfl rfl ?_
    refine A_if_le (tgt := 162) d_MD_judgeEvent_140 (by decide) (fun c => ?_) (fun c => ?_)
    · replace H := H.1 c
      refine A_pc (pc' := 162) rfl ?_
      exact b_MD_judgeEvent_162  hX133  hb0 H
    · replace H := H.2 c
      refine A_aload_n 0 d_MD_judgeEvent_143 rfl rfl ?_
      refine A_iload_n 3 d_MD_judgeEvent_144 rfl rfl ?_
      refine A_iload d_MD_judgeEvent_145 rfl ?_
      refine A_callV2 m_MD_goesAlong T_ok d_MD_judgeEvent_147 l_MD_526 k_MD_goesAlong (hb_s hb0 sf_170) rfl (by decide +kernel) (by decide) (Nat.le_of_ble_eq_true rfl) H (fun r h1 hq => ?_)
      clear H
      obtain ⟨z3, rfl, hb2, H⟩ := hq
      refine A_if_eq (tgt := 162) d_MD_judgeEvent_150 (by decide) (fun c => ?_) (fun c => ?_)
      · replace H := H.1 c
        refine A_pc (pc' := 162) rfl ?_
        exact b_MD_judgeEvent_162  hX133  hb2 H
      · replace H := H.2 c
        refine A_aload_n 0 d_MD_judgeEvent_153 rfl rfl ?_
        refine A_iconst d_MD_judgeEvent_154 rfl ?_
        refine A_iload_n 1 d_MD_judgeEvent_155 rfl rfl ?_
        refine A_iload_n 2 d_MD_judgeEvent_156 rfl rfl ?_
        refine A_iload d_MD_judgeEvent_157 rfl ?_
        refine A_pc (pc' := 159) rfl ?_
        refine A_callV4 m_MD_tell T_ok d_MD_judgeEvent_159 l_MD_510 k_MD_tell (hb_s hb2 sf_170) rfl (by decide +kernel) (by decide) (Nat.le_of_ble_eq_true rfl) H (fun r h4 hq => ?_)
        clear H
        obtain ⟨rfl, hb5, H⟩ := hq
        refine A_pc (pc' := 162) rfl ?_
        exact b_MD_judgeEvent_162  hX133  hb5 H
theorem lp_MD_judgeEvent_133 {G : cx_T} {s : Nat} {a1 : Int} {a2 : Int} {Q : Option av_T → ah_T → Prop} (I : Int → Int → ah_T → Prop) (μ : Int → Int → ah_T → Nat) (hI : ∀ (v3 : Int) (v4 : Int) (h : ah_T), hb s h → I v3 v4 h → B_MD_judgeEvent_133 G s a1 a2 v3 v4 h Q (fun v3' v4' h' => I v3' v4' h' ∧ μ v3' v4' h' < μ v3 v4 h)) : ∀ (v3 : Int) (v4 : Int) (h : ah_T), hb s h → I v3 v4 h → aw G (rm_R 5 0 0) m_MD_judgeEvent 0 0 133 [some (av_R (some 170)), some (av_I a1), some (av_I a2), some (av_I v3), some (av_I v4)] [] h Q := by
  have key : ∀ (n : Nat) (v3 : Int) (v4 : Int) (h : ah_T), hb s h → I v3 v4 h → μ v3 v4 h < n → aw G (rm_R 5 0 0) m_MD_judgeEvent 0 0 133 [some (av_R (some 170)), some (av_I a1), some (av_I a2), some (av_I v3), some (av_I v4)] [] h Q := by
    intro n
    induction n with
    | zero => intro v3 v4 h  hb0 hi hm; omega
    | succ n ih => intro v3 v4 h  hb0 hi hm; exact b_MD_judgeEvent_133  (fun v3' v4' h'  hb' hx => ih v3' v4' h'  hb' hx.1 (by have := hx.2; omega))  hb0 (hI v3 v4 h  hb0 hi)
  exact fun v3 v4 h  hb0 hi => key _ v3 v4 h  hb0 hi (Nat.lt_succ_self _)
def B_MD_judgeEvent_124 (G : cx_T) (s : Nat) (a1 : Int) (a2 : Int) (v3 : Int) (v4 : Int) (h : ah_T) (Q : Option av_T → ah_T → Prop) (X99 : Int → Int → ah_T → Prop) : Prop :=
 ((-2147483648) ≤ (v4 + 1) ∧ (v4 + 1) ≤ 2147483647) ∧ X99 (v3) ((v4 + 1)) h
theorem b_MD_judgeEvent_124 {G : cx_T} {s : Nat} {a1 : Int} {a2 : Int} {v3 : Int} {v4 : Int} {h : ah_T} {Q : Option av_T → ah_T → Prop} {X99 : Int → Int → ah_T → Prop} (hX99 : ∀ (v3 : Int) (v4 : Int) (h : ah_T), hb s h → X99 v3 v4 h → aw G (rm_R 5 0 0) m_MD_judgeEvent 0 0 99 [some (av_R (some 170)), some (av_I a1), some (av_I a2), some (av_I v3), some (av_I v4)] [] h Q) (hb0 : hb s h) (H : B_MD_judgeEvent_124 G s a1 a2 v3 v4 h Q X99) : aw G (rm_R 5 0 0) m_MD_judgeEvent 0 0 124 [some (av_R (some 170)), some (av_I a1), some (av_I a2), some (av_I v3), some (av_I v4)] [] h Q := by
  unfold B_MD_judgeEvent_124 at H
  have hS : isS s := hb0.2.1
  have g1 := H.1
  replace H := H.2
  refine A_iincv (z := (v4 + 1)) (L' := [some (av_R (some 170)), some (av_I a1), some (av_I a2), some (av_I v3), some (av_I (v4 + 1))]) d_MD_judgeEvent_124 rfl (w32_to (by omega) (by unfold i32; omega)) rfl ?_
  refine A_goto (tgt := 99) d_MD_judgeEvent_127 (by decide) ?_
  refine A_pc (pc' := 99) rfl ?_
  exact hX99 (v3) ((v4 + 1)) h  hb0 H
def B_MD_judgeEvent_99 (G : cx_T) (s : Nat) (a1 : Int) (a2 : Int) (v3 : Int) (v4 : Int) (h : ah_T) (Q : Option av_T → ah_T → Prop) (X99 : Int → Int → ah_T → Prop) (X133 : Int → Int → ah_T → Prop) : Prop :=
 ((a1 ≤ v4 → X133 (v3) (0) h) ∧ (¬ a1 ≤ v4 → con G 4 0 0 m_MD_crosses [av_R (some 170), av_I v3, av_I v4] h (fun r h1 => ∃ z3 : Int, r = some (av_I z3) ∧ hb s h1 ∧ ((z3 = 0 → B_MD_judgeEvent_124 G s a1 a2 (v3) (v4) h1 Q X99) ∧ (¬ z3 = 0 → con G 0 0 0 m_MD_tell [av_R (some 170), av_I 4, av_I a1, av_I a2, av_I v4] h1 (fun r h4 => r = none ∧ hb s h4 ∧ B_MD_judgeEvent_124 G s a1 a2 (v3) (v4) h4 Q X99))))))
theorem b_MD_judgeEvent_99 {G : cx_T} {s : Nat} {a1 : Int} {a2 : Int} {v3 : Int} {v4 : Int} {h : ah_T} {Q : Option av_T → ah_T → Prop} {X99 : Int → Int → ah_T → Prop} {X133 : Int → Int → ah_T → Prop} (hX99 : ∀ (v3 : Int) (v4 : Int) (h : ah_T), hb s h → X99 v3 v4 h → aw G (rm_R 5 0 0) m_MD_judgeEvent 0 0 99 [some (av_R (some 170)), some (av_I a1), some (av_I a2), some (av_I v3), some (av_I v4)] [] h Q) (hX133 : ∀ (v3 : Int) (v4 : Int) (h : ah_T), hb s h → X133 v3 v4 h → aw G (rm_R 5 0 0) m_MD_judgeEvent 0 0 133 [some (av_R (some 170)), some (av_I a1), some (av_I a2), some (av_I v3), some (av_I v4)] [] h Q) (hb0 : hb s h) (H : B_MD_judgeEvent_99 G s a1 a2 v3 v4 h Q X99 X133) : aw G (rm_R 5 0 0) m_MD_judgeEvent 0 0 99 [some (av_R (some 170)), some (av_I a1), some (av_I a2), some (av_I v3), some (av_I v4)] [] h Q := by
  unfold B_MD_judgeEvent_99 at H
  have hS : isS s := hb0.2.1
  refine A_iload d_MD_judgeEvent_99 rfl ?_
  refine A_iload_n 1 d_MD_judgeEvent_101 rfl rfl ?_
  refine A_icmp_ge (tgt := 130) d_MD_judgeEvent_102 (by decide) (fun c => ?_) (fun c => ?_)
  · replace H := H.1 c
    refine A_iconst d_MD_judgeEvent_130 rfl ?_
    refine A_istore (L' := [some (av_R (some 170)), some (av_I a1), some (av_I a2), some (av_I v3), some (av_I 0)]) d_MD_judgeEvent_131 (Nat.le_of_ble_eq_true rfl) rfl ?_
    refine A_pc (pc' := 133) rfl ?_
    exact hX133 (v3) (0) h  hb0 H
  · replace H := H.2 c
    refine A_aload_n 0 d_MD_judgeEvent_105 rfl rfl ?_
    refine A_iload_n 3 d_MD_judgeEvent_106 rfl rfl ?_
    refine A_iload d_MD_judgeEvent_107 rfl ?_
    refine A_callV2 m_MD_crosses T_ok d_MD_judgeEvent_109 l_MD_523 k_MD_crosses (hb_s hb0 sf_170) rfl (by decide +kernel) (by decide) (Nat.le_of_ble_eq_true rfl) H (fun r h1 hq => ?_)
    clear H
    obtain ⟨z3, rfl, hb2, H⟩ := hq
    refine A_if_eq (tgt := 124) d_MD_judgeEvent_112 (by decide) (fun c => ?_) (fun c => ?_)
    · replace H := H.1 c
      refine A_pc (pc' := 124) rfl ?_
      exact b_MD_judgeEvent_124  hX99  hb2 H
    · replace H := H.2 c
      refine A_aload_n 0 d_MD_judgeEvent_115 rfl rfl ?_
      refine A_iconst d_MD_judgeEvent_116 rfl ?_
      refine A_iload_n 1 d_MD_judgeEvent_117 rfl rfl ?_
      refine A_iload_n 2 d_MD_judgeEvent_118 rfl rfl ?_
      refine A_iload d_MD_judgeEvent_119 rfl ?_
      refine A_pc (pc' := 121) rfl ?_
      refine A_callV4 m_MD_tell T_ok d_MD_judgeEvent_121 l_MD_510 k_MD_tell (hb_s hb2 sf_170) rfl (by decide +kernel) (by decide) (Nat.le_of_ble_eq_true rfl) H (fun r h4 hq => ?_)
      clear H
      obtain ⟨rfl, hb5, H⟩ := hq
      refine A_pc (pc' := 124) rfl ?_
      exact b_MD_judgeEvent_124  hX99  hb5 H
theorem lp_MD_judgeEvent_99 {G : cx_T} {s : Nat} {a1 : Int} {a2 : Int} {Q : Option av_T → ah_T → Prop} {X133 : Int → Int → ah_T → Prop} (hX133 : ∀ (v3 : Int) (v4 : Int) (h : ah_T), hb s h → X133 v3 v4 h → aw G (rm_R 5 0 0) m_MD_judgeEvent 0 0 133 [some (av_R (some 170)), some (av_I a1), some (av_I a2), some (av_I v3), some (av_I v4)] [] h Q) (I : Int → Int → ah_T → Prop) (μ : Int → Int → ah_T → Nat) (hI : ∀ (v3 : Int) (v4 : Int) (h : ah_T), hb s h → I v3 v4 h → B_MD_judgeEvent_99 G s a1 a2 v3 v4 h Q (fun v3' v4' h' => I v3' v4' h' ∧ μ v3' v4' h' < μ v3 v4 h) X133) : ∀ (v3 : Int) (v4 : Int) (h : ah_T), hb s h → I v3 v4 h → aw G (rm_R 5 0 0) m_MD_judgeEvent 0 0 99 [some (av_R (some 170)), some (av_I a1), some (av_I a2), some (av_I v3), some (av_I v4)] [] h Q := by
  have key : ∀ (n : Nat) (v3 : Int) (v4 : Int) (h : ah_T), hb s h → I v3 v4 h → μ v3 v4 h < n → aw G (rm_R 5 0 0) m_MD_judgeEvent 0 0 99 [some (av_R (some 170)), some (av_I a1), some (av_I a2), some (av_I v3), some (av_I v4)] [] h Q := by
    intro n
    induction n with
    | zero => intro v3 v4 h  hb0 hi hm; omega
    | succ n ih => intro v3 v4 h  hb0 hi hm; exact b_MD_judgeEvent_99  (fun v3' v4' h'  hb' hx => ih v3' v4' h'  hb' hx.1 (by have := hx.2; omega)) hX133  hb0 (hI v3 v4 h  hb0 hi)
  exact fun v3 v4 h  hb0 hi => key _ v3 v4 h  hb0 hi (Nat.lt_succ_self _)
def B_MD_judgeEvent_96 (G : cx_T) (s : Nat) (a1 : Int) (a2 : Int) (v3 : Int) (h : ah_T) (Q : Option av_T → ah_T → Prop) (X99 : Int → Int → ah_T → Prop) : Prop :=
 X99 (v3) (0) h
theorem b_MD_judgeEvent_96 {G : cx_T} {s : Nat} {a1 : Int} {a2 : Int} {v3 : Int} {h : ah_T} {Q : Option av_T → ah_T → Prop} {X99 : Int → Int → ah_T → Prop} (hX99 : ∀ (v3 : Int) (v4 : Int) (h : ah_T), hb s h → X99 v3 v4 h → aw G (rm_R 5 0 0) m_MD_judgeEvent 0 0 99 [some (av_R (some 170)), some (av_I a1), some (av_I a2), some (av_I v3), some (av_I v4)] [] h Q) (hb0 : hb s h) (H : B_MD_judgeEvent_96 G s a1 a2 v3 h Q X99) : aw G (rm_R 5 0 0) m_MD_judgeEvent 0 0 96 [some (av_R (some 170)), some (av_I a1), some (av_I a2), some (av_I v3), none] [] h Q := by
  unfold B_MD_judgeEvent_96 at H
  have hS : isS s := hb0.2.1
  refine A_iconst d_MD_judgeEvent_96 rfl ?_
  refine A_istore (L' := [some (av_R (some 170)), some (av_I a1), some (av_I a2), some (av_I v3), some (av_I 0)]) d_MD_judgeEvent_97 (Nat.le_of_ble_eq_true rfl) rfl ?_
  refine A_pc (pc' := 99) rfl ?_
  exact hX99 (v3) (0) h  hb0 H
def B_MD_judgeEvent_88 (G : cx_T) (s : Nat) (a1 : Int) (a2 : Int) (v3 : Int) (h : ah_T) (Q : Option av_T → ah_T → Prop) (X99 : Int → Int → ah_T → Prop) : Prop :=
 con G 0 0 0 m_MD_tell [av_R (some 170), av_I 3, av_I a1, av_I a2, av_I 0] h (fun r h1 => r = none ∧ hb s h1 ∧ B_MD_judgeEvent_96 G s a1 a2 (v3) h1 Q X99)
theorem b_MD_judgeEvent_88 {G : cx_T} {s : Nat} {a1 : Int} {a2 : Int} {v3 : Int} {h : ah_T} {Q : Option av_T → ah_T → Prop} {X99 : Int → Int → ah_T → Prop} (hX99 : ∀ (v3 : Int) (v4 : Int) (h : ah_T), hb s h → X99 v3 v4 h → aw G (rm_R 5 0 0) m_MD_judgeEvent 0 0 99 [some (av_R (some 170)), some (av_I a1), some (av_I a2), some (av_I v3), some (av_I v4)] [] h Q) (hb0 : hb s h) (H : B_MD_judgeEvent_88 G s a1 a2 v3 h Q X99) : aw G (rm_R 5 0 0) m_MD_judgeEvent 0 0 88 [some (av_R (some 170)), some (av_I a1), some (av_I a2), some (av_I v3), none] [] h Q := by
  unfold B_MD_judgeEvent_88 at H
  have hS : isS s := hb0.2.1
  refine A_aload_n 0 d_MD_judgeEvent_88 rfl rfl ?_
  refine A_iconst d_MD_judgeEvent_89 rfl ?_
  refine A_iload_n 1 d_MD_judgeEvent_90 rfl rfl ?_
  refine A_iload_n 2 d_MD_judgeEvent_91 rfl rfl ?_
  refine A_iconst d_MD_judgeEvent_92 rfl ?_
  refine A_pc (pc' := 93) rfl ?_
  refine A_callV4 m_MD_tell T_ok d_MD_judgeEvent_93 l_MD_510 k_MD_tell (hb_s hb0 sf_170) rfl (by decide +kernel) (by decide) (Nat.le_of_ble_eq_true rfl) H (fun r h1 hq => ?_)
  clear H
  obtain ⟨rfl, hb2, H⟩ := hq
  refine A_pc (pc' := 96) rfl ?_
  exact b_MD_judgeEvent_96  hX99  hb2 H
def B_MD_judgeEvent_34 (G : cx_T) (s : Nat) (a1 : Int) (a2 : Int) (v3 : Int) (h : ah_T) (Q : Option av_T → ah_T → Prop) (X99 : Int → Int → ah_T → Prop) : Prop :=
 (0 ≤ v3 ∧ v3 < 2400) ∧ ∀ x2 : Int, x2 = h.2.1 191 (v3).toNat → -2147483648 ≤ x2 → x2 ≤ 2147483647 → ((x2 = 0 → Q none h) ∧ (¬ x2 = 0 → ((a2 ≤ 0 → B_MD_judgeEvent_96 G s a1 a2 (v3) h Q X99) ∧ (¬ a2 ≤ 0 → ((-2147483648) ≤ (v3 - 1) ∧ (v3 - 1) ≤ 2147483647) ∧ (0 ≤ (v3 - 1) ∧ (v3 - 1) < 2400) ∧ ∀ x6 : Int, x6 = h.2.1 191 ((v3 - 1)).toNat → -2147483648 ≤ x6 → x6 ≤ 2147483647 → ((x6 ≤ 0 → B_MD_judgeEvent_96 G s a1 a2 (v3) h Q X99) ∧ (¬ x6 ≤ 0 → con G 0 0 0 m_MD_lowest [av_R (some 170), av_I v3] h (fun r h8 => ∃ z10 : Int, r = some (av_I z10) ∧ hb s h8 ∧ con G 0 0 0 m_MD_lowest [av_R (some 170), av_I (v3 - 1)] h8 (fun r h11 => ∃ z13 : Int, r = some (av_I z13) ∧ hb s h11 ∧ ((-2147483648) ≤ (z10 - z13) ∧ (z10 - z13) ≤ 2147483647) ∧ ((12 < (z10 - z13) → B_MD_judgeEvent_88 G s a1 a2 (v3) h11 Q X99) ∧ (¬ 12 < (z10 - z13) → (((-12) ≤ (z10 - z13) → B_MD_judgeEvent_96 G s a1 a2 (v3) h11 Q X99) ∧ (¬ (-12) ≤ (z10 - z13) → B_MD_judgeEvent_88 G s a1 a2 (v3) h11 Q X99))))))))))))
theorem b_MD_judgeEvent_34 {G : cx_T} {s : Nat} {a1 : Int} {a2 : Int} {v3 : Int} {h : ah_T} {Q : Option av_T → ah_T → Prop} {X99 : Int → Int → ah_T → Prop} (hX99 : ∀ (v3 : Int) (v4 : Int) (h : ah_T), hb s h → X99 v3 v4 h → aw G (rm_R 5 0 0) m_MD_judgeEvent 0 0 99 [some (av_R (some 170)), some (av_I a1), some (av_I a2), some (av_I v3), some (av_I v4)] [] h Q) (hb0 : hb s h) (H : B_MD_judgeEvent_34 G s a1 a2 v3 h Q X99) : aw G (rm_R 5 0 0) m_MD_judgeEvent 0 0 34 [some (av_R (some 170)), some (av_I a1), some (av_I a2), some (av_I v3), none] [] h Q := by
  unfold B_MD_judgeEvent_34 at H
  have hS : isS s := hb0.2.1
  refine A_aload_n 0 d_MD_judgeEvent_34 rfl rfl ?_
  refine A_getAv (z := some 191) T_ok d_MD_judgeEvent_35 f_MD_75 (hb_s hb0 sf_170) (hb_m hb0 rfm_33) ?_
  refine A_iload_n 3 d_MD_judgeEvent_38 rfl rfl ?_
  have g3 := H.1
  replace H := H.2
  refine A_ialoadf d_MD_judgeEvent_39 (hb_s hb0 sf_191) g3.1 g3.2 (fun x2 ex2 lx2 ux2 => ?_)
  replace H := H x2 ex2 lx2 ux2
  refine A_if_ne (tgt := 44) d_MD_judgeEvent_40 (by decide) (fun c => ?_) (fun c => ?_)
  · replace H := H.2 c
    refine A_iload_n 2 d_MD_judgeEvent_44 rfl rfl ?_
    refine A_if_le (tgt := 96) d_MD_judgeEvent_45 (by decide) (fun c => ?_) (fun c => ?_)
    · replace H := H.1 c
      refine A_pc (pc' := 96) rfl ?_
      exact b_MD_judgeEvent_96  hX99  hb0 H
    · replace H := H.2 c
      refine A_aload_n 0 d_MD_judgeEvent_48 rfl rfl ?_
      refine A_getAv (z := some 191) T_ok d_MD_judgeEvent_49 f_MD_75 (hb_s hb0 sf_170) (hb_m hb0 rfm_33) ?_
      refine A_iload_n 3 d_MD_judgeEvent_52 rfl rfl ?_
      refine A_iconst d_MD_judgeEvent_53 rfl ?_
      have g5 := H.1
      replace H := H.2
      refine A_isubv (z := (v3 - 1)) d_MD_judgeEvent_54 (w32_to (by omega) (by unfold i32; omega)) ?_
      refine A_pc (pc' := 55) rfl ?_
      have g7 := H.1
      replace H := H.2
      refine A_ialoadf d_MD_judgeEvent_55 (hb_s hb0 sf_191) g7.1 g7.2 (fun x6 ex6 lx6 ux6 => ?_)
      replace H := H x6 ex6 lx6 ux6
      refine A_if_le (tgt := 96) d_MD_judgeEvent_56 (by decide) (fun c => ?_) (fun c => ?_)
      · replace H := H.1 c
        refine A_pc (pc' := 96) rfl ?_
        exact b_MD_judgeEvent_96  hX99  hb0 H
      · replace H := H.2 c
        refine A_aload_n 0 d_MD_judgeEvent_59 rfl rfl ?_
        refine A_iload_n 3 d_MD_judgeEvent_60 rfl rfl ?_
        refine A_callV1 m_MD_lowest T_ok d_MD_judgeEvent_61 l_MD_520 k_MD_lowest (hb_s hb0 sf_170) rfl (by decide +kernel) (by decide) (Nat.le_of_ble_eq_true rfl) H (fun r h8 hq => ?_)
        clear H
        obtain ⟨z10, rfl, hb9, H⟩ := hq
        refine A_aload_n 0 d_MD_judgeEvent_64 rfl rfl ?_
        refine A_iload_n 3 d_MD_judgeEvent_65 rfl rfl ?_
        refine A_iconst d_MD_judgeEvent_66 rfl ?_
        refine A_isubv (z := (v3 - 1)) d_MD_judgeEvent_67 (w32_to (by omega) (by unfold i32; omega)) ?_
        refine A_callV1 m_MD_lowest T_ok d_MD_judgeEvent_68 l_MD_520 k_MD_lowest (hb_s hb9 sf_170) rfl (by decide +kernel) (by decide) (Nat.le_of_ble_eq_true rfl) H (fun r h11 hq => ?_)
        clear H
        obtain ⟨z13, rfl, hb12, H⟩ := hq
        have g14 := H.1
        replace H := H.2
        refine A_isubv (z := (z10 - z13)) d_MD_judgeEvent_71 (w32_to (by omega) (by unfold i32; omega)) ?_
        refine A_istore (L' := [some (av_R (some 170)), some (av_I a1), some (av_I a2), some (av_I v3), some (av_I (z10 - z13))]) d_MD_judgeEvent_72 (Nat.le_of_ble_eq_true rfl) rfl ?_
        refine A_iload d_MD_judgeEvent_74 rfl ?_
        refine A_bipush d_MD_judgeEvent_76 rfl ?_
        refine A_icmp_gt (tgt := 88) d_MD_judgeEvent_78 (by decide) (fun c => ?_) (fun c => ?_)
        · replace H := H.1 c
          refine A_pc (pc' := 88) rfl ?_
          refine A_free (L' := [some (av_R (some 170)), some (av_I a1), some (av_I a2), some (av_I v3), none]) (And.intro rfl (And.intro rfl (And.intro rfl (And.intro rfl trivial)))) ?_
          exact b_MD_judgeEvent_88  hX99  hb12 H
        · replace H := H.2 c
          refine A_iload d_MD_judgeEvent_81 rfl ?_
          refine A_bipush d_MD_judgeEvent_83 rfl ?_
          refine A_icmp_ge (tgt := 96) d_MD_judgeEvent_85 (by decide) (fun c => ?_) (fun c => ?_)
          · replace H := H.1 c
            refine A_pc (pc' := 96) rfl ?_
            refine A_free (L' := [some (av_R (some 170)), some (av_I a1), some (av_I a2), some (av_I v3), none]) (And.intro rfl (And.intro rfl (And.intro rfl (And.intro rfl trivial)))) ?_
            exact b_MD_judgeEvent_96  hX99  hb12 H
          · replace H := H.2 c
            refine A_pc (pc' := 88) rfl ?_
            refine A_free (L' := [some (av_R (some 170)), some (av_I a1), some (av_I a2), some (av_I v3), none]) (And.intro rfl (And.intro rfl (And.intro rfl (And.intro rfl trivial)))) ?_
            exact b_MD_judgeEvent_88  hX99  hb12 H
  · replace H := H.1 c
    exact A_vret d_MD_judgeEvent_43 (by decide) rfl H
def B_MD_judgeEvent_0 (G : cx_T) (s : Nat) (a1 : Int) (a2 : Int) (h : ah_T) (Q : Option av_T → ah_T → Prop) (X99 : Int → Int → ah_T → Prop) : Prop :=
 ((-2147483648) ≤ (300 * a1) ∧ (300 * a1) ≤ 2147483647) ∧ ((-2147483648) ≤ (300 * a1 + a2) ∧ (300 * a1 + a2) ≤ 2147483647) ∧ (0 ≤ (300 * a1 + a2) ∧ (300 * a1 + a2) < 2400) ∧ ∀ x4 : Int, x4 = h.2.1 195 ((300 * a1 + a2)).toNat → (x4 = 0 ∨ x4 = 1) → ((x4 = 0 → B_MD_judgeEvent_34 G s a1 a2 ((300 * a1 + a2)) h Q X99) ∧ (¬ x4 = 0 → con G 0 0 0 m_MD_goesOn [av_R (some 170), av_I a1, av_I a2] h (fun r h6 => ∃ z8 : Int, r = some (av_I z8) ∧ hb s h6 ∧ ((z8 = 0 → con G 0 0 0 m_MD_tell [av_R (some 170), av_I 2, av_I a1, av_I a2, av_I 0] h6 (fun r h9 => r = none ∧ hb s h9 ∧ B_MD_judgeEvent_34 G s a1 a2 ((300 * a1 + a2)) h9 Q X99)) ∧ (¬ z8 = 0 → B_MD_judgeEvent_34 G s a1 a2 ((300 * a1 + a2)) h6 Q X99)))))
theorem b_MD_judgeEvent_0 {G : cx_T} {s : Nat} {a1 : Int} {a2 : Int} {h : ah_T} {Q : Option av_T → ah_T → Prop} {X99 : Int → Int → ah_T → Prop} (hX99 : ∀ (v3 : Int) (v4 : Int) (h : ah_T), hb s h → X99 v3 v4 h → aw G (rm_R 5 0 0) m_MD_judgeEvent 0 0 99 [some (av_R (some 170)), some (av_I a1), some (av_I a2), some (av_I v3), some (av_I v4)] [] h Q) (hb0 : hb s h) (H : B_MD_judgeEvent_0 G s a1 a2 h Q X99) : aw G (rm_R 5 0 0) m_MD_judgeEvent 0 0 0 [some (av_R (some 170)), some (av_I a1), some (av_I a2), none, none] [] h Q := by
  unfold B_MD_judgeEvent_0 at H
  have hS : isS s := hb0.2.1
  refine A_sipush d_MD_judgeEvent_0 rfl ?_
  refine A_iload_n 1 d_MD_judgeEvent_3 rfl rfl ?_
  have g1 := H.1
  replace H := H.2
  refine A_imulv (z := (300 * a1)) d_MD_judgeEvent_4 (w32_to (by omega) (by unfold i32; omega)) ?_
  refine A_iload_n 2 d_MD_judgeEvent_5 rfl rfl ?_
  have g2 := H.1
  replace H := H.2
  refine A_iaddv (z := (300 * a1 + a2)) d_MD_judgeEvent_6 (w32_to (by omega) (by unfold i32; omega)) ?_
  refine A_pc (pc' := 7) rfl ?_
  refine A_istore_n 3 (L' := [some (av_R (some 170)), some (av_I a1), some (av_I a2), some (av_I (300 * a1 + a2)), none]) d_MD_judgeEvent_7 rfl (Nat.le_of_ble_eq_true rfl) rfl ?_
  refine A_aload_n 0 d_MD_judgeEvent_8 rfl rfl ?_
  refine A_getAv (z := some 195) T_ok d_MD_judgeEvent_9 f_MD_87 (hb_s hb0 sf_170) (hb_m hb0 rfm_37) ?_
  refine A_iload_n 3 d_MD_judgeEvent_12 rfl rfl ?_
  have g5 := H.1
  replace H := H.2
  refine A_zaloadn d_MD_judgeEvent_13 (hb_s hb0 sf_195) g5.1 g5.2 (fun x4 ex4 bx4 => ?_)
  replace H := H x4 ex4 bx4
  refine A_if_eq (tgt := 34) d_MD_judgeEvent_14 (by decide) (fun c => ?_) (fun c => ?_)
  · replace H := H.1 c
    refine A_pc (pc' := 34) rfl ?_
    exact b_MD_judgeEvent_34  hX99  hb0 H
  · replace H := H.2 c
    refine A_aload_n 0 d_MD_judgeEvent_17 rfl rfl ?_
    refine A_iload_n 1 d_MD_judgeEvent_18 rfl rfl ?_
    refine A_iload_n 2 d_MD_judgeEvent_19 rfl rfl ?_
    refine A_callV2 m_MD_goesOn T_ok d_MD_judgeEvent_20 l_MD_517 k_MD_goesOn (hb_s hb0 sf_170) rfl (by decide +kernel) (by decide) (Nat.le_of_ble_eq_true rfl) H (fun r h6 hq => ?_)
    clear H
    obtain ⟨z8, rfl, hb7, H⟩ := hq
    refine A_if_ne (tgt := 34) d_MD_judgeEvent_23 (by decide) (fun c => ?_) (fun c => ?_)
    · replace H := H.2 c
      refine A_pc (pc' := 34) rfl ?_
      exact b_MD_judgeEvent_34  hX99  hb7 H
    · replace H := H.1 c
      refine A_aload_n 0 d_MD_judgeEvent_26 rfl rfl ?_
      refine A_iconst d_MD_judgeEvent_27 rfl ?_
      refine A_iload_n 1 d_MD_judgeEvent_28 rfl rfl ?_
      refine A_iload_n 2 d_MD_judgeEvent_29 rfl rfl ?_
      refine A_iconst d_MD_judgeEvent_30 rfl ?_
      refine A_pc (pc' := 31) rfl ?_
      refine A_callV4 m_MD_tell T_ok d_MD_judgeEvent_31 l_MD_510 k_MD_tell (hb_s hb7 sf_170) rfl (by decide +kernel) (by decide) (Nat.le_of_ble_eq_true rfl) H (fun r h9 hq => ?_)
      clear H
      obtain ⟨rfl, hb10, H⟩ := hq
      refine A_pc (pc' := 34) rfl ?_
      exact b_MD_judgeEvent_34  hX99  hb10 H
theorem c_MD_judgeEvent {G : cx_T} {s : Nat} {a1 : Int} {a2 : Int} {h : ah_T} {Q : Option av_T → ah_T → Prop} {X99 : Int → Int → ah_T → Prop} (hX99 : ∀ (v3 : Int) (v4 : Int) (h : ah_T), hb s h → X99 v3 v4 h → aw G (rm_R 5 0 0) m_MD_judgeEvent 0 0 99 [some (av_R (some 170)), some (av_I a1), some (av_I a2), some (av_I v3), some (av_I v4)] [] h Q) (hb0 : hb s h) (H : i32 a1 → i32 a2 → B_MD_judgeEvent_0 G s a1 a2 h Q X99) : con G 5 0 0 m_MD_judgeEvent [av_R (some 170), av_I a1, av_I a2] h Q := by
  have hS : isS s := hb0.2.1
  refine con_of (L := [some (av_R (some 170)), some (av_I a1), some (av_I a2), none, none]) (by decide +kernel) (Nat.le_of_ble_eq_true rfl) rfl ?_
  refine A_locI 1 rfl (fun ra1 => ?_)
  refine A_locI 2 rfl (fun ra2 => ?_)
  exact b_MD_judgeEvent_0  hX99 hb0 (H ra1 ra2)
def B_MD_judge_90 (G : cx_T) (s : Nat) (v1 : Int) (v2 : Int) (h : ah_T) (Q : Option av_T → ah_T → Prop) (X19 : Int → Int → ah_T → Prop) : Prop :=
 ((-2147483648) ≤ (v2 + 1) ∧ (v2 + 1) ≤ 2147483647) ∧ X19 (v1) ((v2 + 1)) h
theorem b_MD_judge_90 {G : cx_T} {s : Nat} {v1 : Int} {v2 : Int} {h : ah_T} {Q : Option av_T → ah_T → Prop} {X19 : Int → Int → ah_T → Prop} (hX19 : ∀ (v1 : Int) (v2 : Int) (h : ah_T), hb s h → X19 v1 v2 h → aw G (rm_R 6 0 0) m_MD_judge 0 0 19 [some (av_R (some 170)), some (av_I v1), some (av_I v2), none] [] h Q) (hb0 : hb s h) (H : B_MD_judge_90 G s v1 v2 h Q X19) : aw G (rm_R 6 0 0) m_MD_judge 0 0 90 [some (av_R (some 170)), some (av_I v1), some (av_I v2), none] [] h Q := by
  unfold B_MD_judge_90 at H
  have hS : isS s := hb0.2.1
  have g1 := H.1
  replace H := H.2
  refine A_iincv (z := (v2 + 1)) (L' := [some (av_R (some 170)), some (av_I v1), some (av_I (v2 + 1)), none]) d_MD_judge_90 rfl (w32_to (by omega) (by unfold i32; omega)) rfl ?_
  refine A_goto (tgt := 19) d_MD_judge_93 (by decide) ?_
  refine A_pc (pc' := 19) rfl ?_
  exact hX19 (v1) ((v2 + 1)) h  hb0 H
def B_MD_judge_68 (G : cx_T) (s : Nat) (v1 : Int) (v2 : Int) (v3 : Int) (h : ah_T) (Q : Option av_T → ah_T → Prop) (X31 : Int → Int → Int → ah_T → Prop) : Prop :=
 ((-2147483648) ≤ (v3 + 1) ∧ (v3 + 1) ≤ 2147483647) ∧ X31 (v1) (v2) ((v3 + 1)) h
theorem b_MD_judge_68 {G : cx_T} {s : Nat} {v1 : Int} {v2 : Int} {v3 : Int} {h : ah_T} {Q : Option av_T → ah_T → Prop} {X31 : Int → Int → Int → ah_T → Prop} (hX31 : ∀ (v1 : Int) (v2 : Int) (v3 : Int) (h : ah_T), hb s h → X31 v1 v2 v3 h → aw G (rm_R 6 0 0) m_MD_judge 0 0 31 [some (av_R (some 170)), some (av_I v1), some (av_I v2), some (av_I v3)] [] h Q) (hb0 : hb s h) (H : B_MD_judge_68 G s v1 v2 v3 h Q X31) : aw G (rm_R 6 0 0) m_MD_judge 0 0 68 [some (av_R (some 170)), some (av_I v1), some (av_I v2), some (av_I v3)] [] h Q := by
  unfold B_MD_judge_68 at H
  have hS : isS s := hb0.2.1
  have g1 := H.1
  replace H := H.2
  refine A_iincv (z := (v3 + 1)) (L' := [some (av_R (some 170)), some (av_I v1), some (av_I v2), some (av_I (v3 + 1))]) d_MD_judge_68 rfl (w32_to (by omega) (by unfold i32; omega)) rfl ?_
  refine A_goto (tgt := 31) d_MD_judge_71 (by decide) ?_
  refine A_pc (pc' := 31) rfl ?_
  exact hX31 (v1) (v2) ((v3 + 1)) h  hb0 H
def B_MD_judge_31 (G : cx_T) (s : Nat) (v1 : Int) (v2 : Int) (v3 : Int) (h : ah_T) (Q : Option av_T → ah_T → Prop) (X19 : Int → Int → ah_T → Prop) (X31 : Int → Int → Int → ah_T → Prop) : Prop :=
 (0 ≤ v1 ∧ v1 < 8) ∧ ∀ x2 : Int, x2 = h.2.1 186 (v1).toNat → -2147483648 ≤ x2 → x2 ≤ 2147483647 → ((x2 ≤ v3 → ∀ x5 : Int, x5 = h.2.1 185 (v1).toNat → -2147483648 ≤ x5 → x5 ≤ 2147483647 → ((x5 ≤ v2 → B_MD_judge_90 G s (v1) (v2) h Q X19) ∧ (¬ x5 ≤ v2 → con G 5 0 0 m_MD_judgeEvent [av_R (some 170), av_I v1, av_I v2] h (fun r h6 => r = none ∧ hb s h6 ∧ B_MD_judge_90 G s (v1) (v2) h6 Q X19)))) ∧ (¬ x2 ≤ v3 → con G 0 0 0 m_MD_firstOf [av_R (some 170), av_I v1, av_I v3] h (fun r h9 => ∃ z11 : Int, r = some (av_I z11) ∧ hb s h9 ∧ ((z11 = v2 → con G 3 0 0 m_MD_isWhole [av_R (some 170), av_I v1, av_I v3] h9 (fun r h12 => ∃ z14 : Int, r = some (av_I z14) ∧ hb s h12 ∧ ((z14 = 0 → con G 0 0 0 m_MD_tell [av_R (some 170), av_I 1, av_I v1, av_I v2, av_I v3] h12 (fun r h15 => r = none ∧ hb s h15 ∧ B_MD_judge_68 G s (v1) (v2) (v3) h15 Q X31)) ∧ (¬ z14 = 0 → B_MD_judge_68 G s (v1) (v2) (v3) h12 Q X31)))) ∧ (¬ z11 = v2 → B_MD_judge_68 G s (v1) (v2) (v3) h9 Q X31)))))
theorem b_MD_judge_31 {G : cx_T} {s : Nat} {v1 : Int} {v2 : Int} {v3 : Int} {h : ah_T} {Q : Option av_T → ah_T → Prop} {X19 : Int → Int → ah_T → Prop} {X31 : Int → Int → Int → ah_T → Prop} (hX19 : ∀ (v1 : Int) (v2 : Int) (h : ah_T), hb s h → X19 v1 v2 h → aw G (rm_R 6 0 0) m_MD_judge 0 0 19 [some (av_R (some 170)), some (av_I v1), some (av_I v2), none] [] h Q) (hX31 : ∀ (v1 : Int) (v2 : Int) (v3 : Int) (h : ah_T), hb s h → X31 v1 v2 v3 h → aw G (rm_R 6 0 0) m_MD_judge 0 0 31 [some (av_R (some 170)), some (av_I v1), some (av_I v2), some (av_I v3)] [] h Q) (hb0 : hb s h) (H : B_MD_judge_31 G s v1 v2 v3 h Q X19 X31) : aw G (rm_R 6 0 0) m_MD_judge 0 0 31 [some (av_R (some 170)), some (av_I v1), some (av_I v2), some (av_I v3)] [] h Q := by
  unfold B_MD_judge_31 at H
  have hS : isS s := hb0.2.1
  refine A_iload_n 3 d_MD_judge_31 rfl rfl ?_
  refine A_aload_n 0 d_MD_judge_32 rfl rfl ?_
  refine A_getAv (z := some 186) T_ok d_MD_judge_33 f_MD_60 (hb_s hb0 sf_170) (hb_m hb0 rfm_28) ?_
  refine A_iload_n 1 d_MD_judge_36 rfl rfl ?_
  have g3 := H.1
  replace H := H.2
  refine A_ialoadf d_MD_judge_37 (hb_s hb0 sf_186) g3.1 g3.2 (fun x2 ex2 lx2 ux2 => ?_)
  replace H := H x2 ex2 lx2 ux2
  refine A_pc (pc' := 38) rfl ?_
  refine A_icmp_ge (tgt := 74) d_MD_judge_38 (by decide) (fun c => ?_) (fun c => ?_)
  · replace H := H.1 c
    refine A_iload_n 2 d_MD_judge_74 rfl rfl ?_
    refine A_aload_n 0 d_MD_judge_75 rfl rfl ?_
    refine A_getAv (z := some 185) T_ok d_MD_judge_76 f_MD_57 (hb_s hb0 sf_170) (hb_m hb0 rfm_27) ?_
    refine A_iload_n 1 d_MD_judge_79 rfl rfl ?_
    refine A_ialoadf d_MD_judge_80 (hb_s hb0 sf_185) g3.1 g3.2 (fun x5 ex5 lx5 ux5 => ?_)
    replace H := H x5 ex5 lx5 ux5
    refine A_pc (pc' := 81) rfl ?_
    refine A_icmp_ge (tgt := 90) d_MD_judge_81 (by decide) (fun c => ?_) (fun c => ?_)
    · replace H := H.1 c
      refine A_pc (pc' := 90) rfl ?_
      refine A_free (L' := [some (av_R (some 170)), some (av_I v1), some (av_I v2), none]) (And.intro rfl (And.intro rfl (And.intro rfl trivial))) ?_
      exact b_MD_judge_90  hX19  hb0 H
    · replace H := H.2 c
      refine A_aload_n 0 d_MD_judge_84 rfl rfl ?_
      refine A_iload_n 1 d_MD_judge_85 rfl rfl ?_
      refine A_iload_n 2 d_MD_judge_86 rfl rfl ?_
      refine A_callV2 m_MD_judgeEvent T_ok d_MD_judge_87 l_MD_514 k_MD_judgeEvent (hb_s hb0 sf_170) rfl (by decide +kernel) (by decide) (Nat.le_of_ble_eq_true rfl) H (fun r h6 hq => ?_)
      clear H
      obtain ⟨rfl, hb7, H⟩ := hq
      refine A_pc (pc' := 90) rfl ?_
      refine A_free (L' := [some (av_R (some 170)), some (av_I v1), some (av_I v2), none]) (And.intro rfl (And.intro rfl (And.intro rfl trivial))) ?_
      exact b_MD_judge_90  hX19  hb7 H
  · replace H := H.2 c
    refine A_aload_n 0 d_MD_judge_41 rfl rfl ?_
    refine A_iload_n 1 d_MD_judge_42 rfl rfl ?_
    refine A_iload_n 3 d_MD_judge_43 rfl rfl ?_
    refine A_callV2 m_MD_firstOf T_ok d_MD_judge_44 l_MD_504 k_MD_firstOf (hb_s hb0 sf_170) rfl (by decide +kernel) (by decide) (Nat.le_of_ble_eq_true rfl) H (fun r h9 hq => ?_)
    clear H
    obtain ⟨z11, rfl, hb10, H⟩ := hq
    refine A_iload_n 2 d_MD_judge_47 rfl rfl ?_
    refine A_icmp_ne (tgt := 68) d_MD_judge_48 (by decide) (fun c => ?_) (fun c => ?_)
    · replace H := H.2 c
      refine A_pc (pc' := 68) rfl ?_
      exact b_MD_judge_68  hX31  hb10 H
    · replace H := H.1 c
      refine A_aload_n 0 d_MD_judge_51 rfl rfl ?_
      refine A_iload_n 1 d_MD_judge_52 rfl rfl ?_
      refine A_iload_n 3 d_MD_judge_53 rfl rfl ?_
      refine A_callV2 m_MD_isWhole T_ok d_MD_judge_54 l_MD_507 k_MD_isWhole (hb_s hb10 sf_170) rfl (by decide +kernel) (by decide) (Nat.le_of_ble_eq_true rfl) H (fun r h12 hq => ?_)
      clear H
      obtain ⟨z14, rfl, hb13, H⟩ := hq
      refine A_if_ne (tgt := 68) d_MD_judge_57 (by decide) (fun c => ?_) (fun c => ?_)
      · replace H := H.2 c
        refine A_pc (pc' := 68) rfl ?_
        exact b_MD_judge_68  hX31  hb13 H
      · replace H := H.1 c
        refine A_aload_n 0 d_MD_judge_60 rfl rfl ?_
        refine A_iconst d_MD_judge_61 rfl ?_
        refine A_iload_n 1 d_MD_judge_62 rfl rfl ?_
        refine A_iload_n 2 d_MD_judge_63 rfl rfl ?_
        refine A_iload_n 3 d_MD_judge_64 rfl rfl ?_
        refine A_pc (pc' := 65) rfl ?_
        refine A_callV4 m_MD_tell T_ok d_MD_judge_65 l_MD_510 k_MD_tell (hb_s hb13 sf_170) rfl (by decide +kernel) (by decide) (Nat.le_of_ble_eq_true rfl) H (fun r h15 hq => ?_)
        clear H
        obtain ⟨rfl, hb16, H⟩ := hq
        refine A_pc (pc' := 68) rfl ?_
        exact b_MD_judge_68  hX31  hb16 H
theorem lp_MD_judge_31 {G : cx_T} {s : Nat} {Q : Option av_T → ah_T → Prop} {X19 : Int → Int → ah_T → Prop} (hX19 : ∀ (v1 : Int) (v2 : Int) (h : ah_T), hb s h → X19 v1 v2 h → aw G (rm_R 6 0 0) m_MD_judge 0 0 19 [some (av_R (some 170)), some (av_I v1), some (av_I v2), none] [] h Q) (I : Int → Int → Int → ah_T → Prop) (μ : Int → Int → Int → ah_T → Nat) (hI : ∀ (v1 : Int) (v2 : Int) (v3 : Int) (h : ah_T), hb s h → I v1 v2 v3 h → B_MD_judge_31 G s v1 v2 v3 h Q X19 (fun v1' v2' v3' h' => I v1' v2' v3' h' ∧ μ v1' v2' v3' h' < μ v1 v2 v3 h)) : ∀ (v1 : Int) (v2 : Int) (v3 : Int) (h : ah_T), hb s h → I v1 v2 v3 h → aw G (rm_R 6 0 0) m_MD_judge 0 0 31 [some (av_R (some 170)), some (av_I v1), some (av_I v2), some (av_I v3)] [] h Q := by
  have key : ∀ (n : Nat) (v1 : Int) (v2 : Int) (v3 : Int) (h : ah_T), hb s h → I v1 v2 v3 h → μ v1 v2 v3 h < n → aw G (rm_R 6 0 0) m_MD_judge 0 0 31 [some (av_R (some 170)), some (av_I v1), some (av_I v2), some (av_I v3)] [] h Q := by
    intro n
    induction n with
    | zero => intro v1 v2 v3 h  hb0 hi hm; omega
    | succ n ih => intro v1 v2 v3 h  hb0 hi hm; exact b_MD_judge_31  hX19 (fun v1' v2' v3' h'  hb' hx => ih v1' v2' v3' h'  hb' hx.1 (by have := hx.2; omega))  hb0 (hI v1 v2 v3 h  hb0 hi)
  exact fun v1 v2 v3 h  hb0 hi => key _ v1 v2 v3 h  hb0 hi (Nat.lt_succ_self _)
def B_MD_judge_19 (G : cx_T) (s : Nat) (v1 : Int) (v2 : Int) (h : ah_T) (Q : Option av_T → ah_T → Prop) (X7 : Int → ah_T → Prop) (X31 : Int → Int → Int → ah_T → Prop) : Prop :=
 (0 ≤ v1 ∧ v1 < 8) ∧ ∀ x2 : Int, x2 = h.2.1 185 (v1).toNat → -2147483648 ≤ x2 → x2 ≤ 2147483647 → ((x2 < v2 → ((-2147483648) ≤ (v1 + 1) ∧ (v1 + 1) ≤ 2147483647) ∧ X7 ((v1 + 1)) h) ∧ (¬ x2 < v2 → X31 (v1) (v2) (0) h))
theorem b_MD_judge_19 {G : cx_T} {s : Nat} {v1 : Int} {v2 : Int} {h : ah_T} {Q : Option av_T → ah_T → Prop} {X7 : Int → ah_T → Prop} {X31 : Int → Int → Int → ah_T → Prop} (hX7 : ∀ (v1 : Int) (h : ah_T), hb s h → X7 v1 h → aw G (rm_R 6 0 0) m_MD_judge 0 0 7 [some (av_R (some 170)), some (av_I v1), none, none] [] h Q) (hX31 : ∀ (v1 : Int) (v2 : Int) (v3 : Int) (h : ah_T), hb s h → X31 v1 v2 v3 h → aw G (rm_R 6 0 0) m_MD_judge 0 0 31 [some (av_R (some 170)), some (av_I v1), some (av_I v2), some (av_I v3)] [] h Q) (hb0 : hb s h) (H : B_MD_judge_19 G s v1 v2 h Q X7 X31) : aw G (rm_R 6 0 0) m_MD_judge 0 0 19 [some (av_R (some 170)), some (av_I v1), some (av_I v2), none] [] h Q := by
  unfold B_MD_judge_19 at H
  have hS : isS s := hb0.2.1
  refine A_iload_n 2 d_MD_judge_19 rfl rfl ?_
  refine A_aload_n 0 d_MD_judge_20 rfl rfl ?_
  refine A_getAv (z := some 185) T_ok d_MD_judge_21 f_MD_57 (hb_s hb0 sf_170) (hb_m hb0 rfm_27) ?_
  refine A_iload_n 1 d_MD_judge_24 rfl rfl ?_
  have g3 := H.1
  replace H := H.2
  refine A_ialoadf d_MD_judge_25 (hb_s hb0 sf_185) g3.1 g3.2 (fun x2 ex2 lx2 ux2 => ?_)
  replace H := H x2 ex2 lx2 ux2
  refine A_pc (pc' := 26) rfl ?_
  refine A_icmp_gt (tgt := 96) d_MD_judge_26 (by decide) (fun c => ?_) (fun c => ?_)
  · replace H := H.1 c
    have g4 := H.1
    replace H := H.2
    refine A_iincv (z := (v1 + 1)) (L' := [some (av_R (some 170)), some (av_I (v1 + 1)), some (av_I v2), none]) d_MD_judge_96 rfl (w32_to (by omega) (by unfold i32; omega)) rfl ?_
    refine A_goto (tgt := 7) d_MD_judge_99 (by decide) ?_
    refine A_pc (pc' := 7) rfl ?_
    refine A_free (L' := [some (av_R (some 170)), some (av_I (v1 + 1)), none, none]) (And.intro rfl (And.intro rfl trivial)) ?_
    exact hX7 ((v1 + 1)) h  hb0 H
  · replace H := H.2 c
    refine A_iconst d_MD_judge_29 rfl ?_
    refine A_istore_n 3 (L' := [some (av_R (some 170)), some (av_I v1), some (av_I v2), some (av_I 0)]) d_MD_judge_30 rfl (Nat.le_of_ble_eq_true rfl) rfl ?_
    refine A_pc (pc' := 31) rfl ?_
    exact hX31 (v1) (v2) (0) h  hb0 H
theorem lp_MD_judge_19 {G : cx_T} {s : Nat} {Q : Option av_T → ah_T → Prop} {X7 : Int → ah_T → Prop} {X31 : Int → Int → Int → ah_T → Prop} (hX7 : ∀ (v1 : Int) (h : ah_T), hb s h → X7 v1 h → aw G (rm_R 6 0 0) m_MD_judge 0 0 7 [some (av_R (some 170)), some (av_I v1), none, none] [] h Q) (hX31 : ∀ (v1 : Int) (v2 : Int) (v3 : Int) (h : ah_T), hb s h → X31 v1 v2 v3 h → aw G (rm_R 6 0 0) m_MD_judge 0 0 31 [some (av_R (some 170)), some (av_I v1), some (av_I v2), some (av_I v3)] [] h Q) (I : Int → Int → ah_T → Prop) (μ : Int → Int → ah_T → Nat) (hI : ∀ (v1 : Int) (v2 : Int) (h : ah_T), hb s h → I v1 v2 h → B_MD_judge_19 G s v1 v2 h Q X7 X31) : ∀ (v1 : Int) (v2 : Int) (h : ah_T), hb s h → I v1 v2 h → aw G (rm_R 6 0 0) m_MD_judge 0 0 19 [some (av_R (some 170)), some (av_I v1), some (av_I v2), none] [] h Q := by
  have key : ∀ (n : Nat) (v1 : Int) (v2 : Int) (h : ah_T), hb s h → I v1 v2 h → μ v1 v2 h < n → aw G (rm_R 6 0 0) m_MD_judge 0 0 19 [some (av_R (some 170)), some (av_I v1), some (av_I v2), none] [] h Q := by
    intro n
    induction n with
    | zero => intro v1 v2 h  hb0 hi hm; omega
    | succ n ih => intro v1 v2 h  hb0 hi hm; exact b_MD_judge_19  hX7 hX31  hb0 (hI v1 v2 h  hb0 hi)
  exact fun v1 v2 h  hb0 hi => key _ v1 v2 h  hb0 hi (Nat.lt_succ_self _)
def B_MD_judge_7 (G : cx_T) (s : Nat) (v1 : Int) (h : ah_T) (Q : Option av_T → ah_T → Prop) (X19 : Int → Int → ah_T → Prop) : Prop :=
 ∀ x2 : Int, x2 = h.2.1 172 0 → -2147483648 ≤ x2 → x2 ≤ 2147483647 → ((x2 ≤ v1 → ∀ x3 : Int, x3 = h.2.1 170 80 → -2147483648 ≤ x3 → x3 ≤ 2147483647 → Q (some (av_I x3)) h) ∧ (¬ x2 ≤ v1 → X19 (v1) (0) h))
theorem b_MD_judge_7 {G : cx_T} {s : Nat} {v1 : Int} {h : ah_T} {Q : Option av_T → ah_T → Prop} {X19 : Int → Int → ah_T → Prop} (hX19 : ∀ (v1 : Int) (v2 : Int) (h : ah_T), hb s h → X19 v1 v2 h → aw G (rm_R 6 0 0) m_MD_judge 0 0 19 [some (av_R (some 170)), some (av_I v1), some (av_I v2), none] [] h Q) (hb0 : hb s h) (H : B_MD_judge_7 G s v1 h Q X19) : aw G (rm_R 6 0 0) m_MD_judge 0 0 7 [some (av_R (some 170)), some (av_I v1), none, none] [] h Q := by
  unfold B_MD_judge_7 at H
  have hS : isS s := hb0.2.1
  refine A_iload_n 1 d_MD_judge_7 rfl rfl ?_
  refine A_aload_n 0 d_MD_judge_8 rfl rfl ?_
  refine A_getAv (z := some 172) T_ok d_MD_judge_9 f_MD_17 (hb_s hb0 sf_170) (hb_m hb0 rfm_14) ?_
  refine A_iconst d_MD_judge_12 rfl ?_
  refine A_ialoadf d_MD_judge_13 (hb_s hb0 sf_172) (by decide) (by decide) (fun x2 ex2 lx2 ux2 => ?_)
  replace H := H x2 ex2 lx2 ux2
  refine A_pc (pc' := 14) rfl ?_
  refine A_icmp_ge (tgt := 102) d_MD_judge_14 (by decide) (fun c => ?_) (fun c => ?_)
  · replace H := H.1 c
    refine A_aload_n 0 d_MD_judge_102 rfl rfl ?_
    refine A_getIf T_ok d_MD_judge_103 f_MD_471 (hb_s hb0 sf_170) (fun x3 ex3 lx3 ux3 => ?_)
    replace H := H x3 ex3 lx3 ux3
    exact A_iret d_MD_judge_106 (by decide) rfl H
  · replace H := H.2 c
    refine A_iconst d_MD_judge_17 rfl ?_
    refine A_istore_n 2 (L' := [some (av_R (some 170)), some (av_I v1), some (av_I 0), none]) d_MD_judge_18 rfl (Nat.le_of_ble_eq_true rfl) rfl ?_
    refine A_pc (pc' := 19) rfl ?_
    exact hX19 (v1) (0) h  hb0 H
theorem lp_MD_judge_7 {G : cx_T} {s : Nat} {Q : Option av_T → ah_T → Prop} {X19 : Int → Int → ah_T → Prop} (hX19 : ∀ (v1 : Int) (v2 : Int) (h : ah_T), hb s h → X19 v1 v2 h → aw G (rm_R 6 0 0) m_MD_judge 0 0 19 [some (av_R (some 170)), some (av_I v1), some (av_I v2), none] [] h Q) (I : Int → ah_T → Prop) (μ : Int → ah_T → Nat) (hI : ∀ (v1 : Int) (h : ah_T), hb s h → I v1 h → B_MD_judge_7 G s v1 h Q X19) : ∀ (v1 : Int) (h : ah_T), hb s h → I v1 h → aw G (rm_R 6 0 0) m_MD_judge 0 0 7 [some (av_R (some 170)), some (av_I v1), none, none] [] h Q := by
  have key : ∀ (n : Nat) (v1 : Int) (h : ah_T), hb s h → I v1 h → μ v1 h < n → aw G (rm_R 6 0 0) m_MD_judge 0 0 7 [some (av_R (some 170)), some (av_I v1), none, none] [] h Q := by
    intro n
    induction n with
    | zero => intro v1 h  hb0 hi hm; omega
    | succ n ih => intro v1 h  hb0 hi hm; exact b_MD_judge_7  hX19  hb0 (hI v1 h  hb0 hi)
  exact fun v1 h  hb0 hi => key _ v1 h  hb0 hi (Nat.lt_succ_self _)
def B_MD_judge_0 (G : cx_T) (s : Nat) (h : ah_T) (Q : Option av_T → ah_T → Prop) (X7 : Int → ah_T → Prop) : Prop :=
 ∀ h1 : ah_T, h1 = st_i h 170 80 0 → X7 (0) h1
theorem b_MD_judge_0 {G : cx_T} {s : Nat} {h : ah_T} {Q : Option av_T → ah_T → Prop} {X7 : Int → ah_T → Prop} (hX7 : ∀ (v1 : Int) (h : ah_T), hb s h → X7 v1 h → aw G (rm_R 6 0 0) m_MD_judge 0 0 7 [some (av_R (some 170)), some (av_I v1), none, none] [] h Q) (hb0 : hb s h) (H : B_MD_judge_0 G s h Q X7) : aw G (rm_R 6 0 0) m_MD_judge 0 0 0 [some (av_R (some 170)), none, none, none] [] h Q := by
  unfold B_MD_judge_0 at H
  have hS : isS s := hb0.2.1
  refine A_aload_n 0 d_MD_judge_0 rfl rfl ?_
  refine A_iconst d_MD_judge_1 rfl ?_
  refine A_putI T_ok d_MD_judge_2 f_MD_471 (hb_s hb0 sf_170) fin_f ?_
  refine A_hn (fun h1 eh1 => ?_)
  have hb2 := hb_i hb0 eh1
  replace H := H h1 eh1
  refine A_iconst d_MD_judge_5 rfl ?_
  refine A_istore_n 1 (L' := [some (av_R (some 170)), some (av_I 0), none, none]) d_MD_judge_6 rfl (Nat.le_of_ble_eq_true rfl) rfl ?_
  refine A_pc (pc' := 7) rfl ?_
  exact hX7 (0) h1  hb2 H
theorem c_MD_judge {G : cx_T} {s : Nat} {h : ah_T} {Q : Option av_T → ah_T → Prop} {X7 : Int → ah_T → Prop} (hX7 : ∀ (v1 : Int) (h : ah_T), hb s h → X7 v1 h → aw G (rm_R 6 0 0) m_MD_judge 0 0 7 [some (av_R (some 170)), some (av_I v1), none, none] [] h Q) (hb0 : hb s h) (H : B_MD_judge_0 G s h Q X7) : con G 6 0 0 m_MD_judge [av_R (some 170)] h Q := by
  have hS : isS s := hb0.2.1
  refine con_of (L := [some (av_R (some 170)), none, none, none]) (by decide +kernel) (Nat.le_of_ble_eq_true rfl) rfl ?_
  exact b_MD_judge_0  hX7 hb0 (H )
def B_MD_fault_70 (G : cx_T) (s : Nat) (a1 : Int) (a2 : Int) (t0 : Int) (h : ah_T) (Q : Option av_T → ah_T → Prop) : Prop :=
 Q (some (av_I t0)) h
theorem b_MD_fault_70 {G : cx_T} {s : Nat} {a1 : Int} {a2 : Int} {t0 : Int} {h : ah_T} {Q : Option av_T → ah_T → Prop} (hb0 : hb s h) (H : B_MD_fault_70 G s a1 a2 t0 h Q ) : aw G (rm_R 0 0 0) m_MD_fault 0 0 70 [none, none, none] [av_I t0] h Q := by
  unfold B_MD_fault_70 at H
  have hS : isS s := hb0.2.1
  exact A_iret d_MD_fault_70 (by decide) rfl H
def B_MD_fault_21 (G : cx_T) (s : Nat) (a1 : Int) (a2 : Int) (h : ah_T) (Q : Option av_T → ah_T → Prop) : Prop :=
 Q (some (av_I (-1))) h
theorem b_MD_fault_21 {G : cx_T} {s : Nat} {a1 : Int} {a2 : Int} {h : ah_T} {Q : Option av_T → ah_T → Prop} (hb0 : hb s h) (H : B_MD_fault_21 G s a1 a2 h Q ) : aw G (rm_R 0 0 0) m_MD_fault 0 0 21 [none, none, none] [] h Q := by
  unfold B_MD_fault_21 at H
  have hS : isS s := hb0.2.1
  refine A_iconst d_MD_fault_21 rfl ?_
  exact A_iret d_MD_fault_22 (by decide) rfl H
def B_MD_fault_0 (G : cx_T) (s : Nat) (a1 : Int) (a2 : Int) (h : ah_T) (Q : Option av_T → ah_T → Prop) : Prop :=
 ((a1 < 0 → B_MD_fault_21 G s a1 a2 h Q ) ∧ (¬ a1 < 0 → ∀ x1 : Int, x1 = h.2.1 170 80 → -2147483648 ≤ x1 → x1 ≤ 2147483647 → ((x1 ≤ a1 → B_MD_fault_21 G s a1 a2 h Q ) ∧ (¬ x1 ≤ a1 → ((a2 < 0 → B_MD_fault_21 G s a1 a2 h Q ) ∧ (¬ a2 < 0 → ((a2 ≤ 3 → ((a2 = 0 → (0 ≤ a1 ∧ a1 < 8000) ∧ ∀ x12 : Int, x12 = h.2.1 221 (a1).toNat → -2147483648 ≤ x12 → x12 ≤ 2147483647 → B_MD_fault_70 G s a1 a2 (x12) h Q ) ∧ (¬ a2 = 0 → ((a2 = 1 → (0 ≤ a1 ∧ a1 < 8000) ∧ ∀ x9 : Int, x9 = h.2.1 222 (a1).toNat → -2147483648 ≤ x9 → x9 ≤ 2147483647 → B_MD_fault_70 G s a1 a2 (x9) h Q ) ∧ (¬ a2 = 1 → ((a2 = 2 → (0 ≤ a1 ∧ a1 < 8000) ∧ ∀ x6 : Int, x6 = h.2.1 223 (a1).toNat → -2147483648 ≤ x6 → x6 ≤ 2147483647 → B_MD_fault_70 G s a1 a2 (x6) h Q ) ∧ (¬ a2 = 2 → (0 ≤ a1 ∧ a1 < 8000) ∧ ∀ x3 : Int, x3 = h.2.1 224 (a1).toNat → -2147483648 ≤ x3 → x3 ≤ 2147483647 → B_MD_fault_70 G s a1 a2 (x3) h Q ))))))) ∧ (¬ a2 ≤ 3 → B_MD_fault_21 G s a1 a2 h Q ))))))))
theorem b_MD_fault_0 {G : cx_T} {s : Nat} {a1 : Int} {a2 : Int} {h : ah_T} {Q : Option av_T → ah_T → Prop} (hb0 : hb s h) (H : B_MD_fault_0 G s a1 a2 h Q ) : aw G (rm_R 0 0 0) m_MD_fault 0 0 0 [some (av_R (some 170)), some (av_I a1), some (av_I a2)] [] h Q := by
  unfold B_MD_fault_0 at H
  have hS : isS s := hb0.2.1
  refine A_iload_n 1 d_MD_fault_0 rfl rfl ?_
  refine A_if_lt (tgt := 21) d_MD_fault_1 (by decide) (fun c => ?_) (fun c => ?_)
  · replace H := H.1 c
    refine A_pc (pc' := 21) rfl ?_
    refine A_free (L' := [none, none, none]) trivial ?_
    exact b_MD_fault_21    hb0 H
  · replace H := H.2 c
    refine A_iload_n 1 d_MD_fault_4 rfl rfl ?_
    refine A_aload_n 0 d_MD_fault_5 rfl rfl ?_
    refine A_getIf T_ok d_MD_fault_6 f_MD_471 (hb_s hb0 sf_170) (fun x1 ex1 lx1 ux1 => ?_)
    replace H := H x1 ex1 lx1 ux1
    refine A_icmp_ge (tgt := 21) d_MD_fault_9 (by decide) (fun c => ?_) (fun c => ?_)
    · replace H := H.1 c
      refine A_pc (pc' := 21) rfl ?_
      refine A_free (L' := [none, none, none]) trivial ?_
      exact b_MD_fault_21    hb0 H
    · replace H := H.2 c
      refine A_iload_n 2 d_MD_fault_12 rfl rfl ?_
      refine A_if_lt (tgt := 21) d_MD_fault_13 (by decide) (fun c => ?_) (fun c => ?_)
      · replace H := H.1 c
        refine A_pc (pc' := 21) rfl ?_
        refine A_free (L' := [none, none, none]) trivial ?_
        exact b_MD_fault_21    hb0 H
      · replace H := H.2 c
        refine A_iload_n 2 d_MD_fault_16 rfl rfl ?_
        refine A_iconst d_MD_fault_17 rfl ?_
        refine A_icmp_le (tgt := 23) d_MD_fault_18 (by decide) (fun c => ?_) (fun c => ?_)
        · replace H := H.1 c
          refine A_iload_n 2 d_MD_fault_23 rfl rfl ?_
          refine A_if_ne (tgt := 36) d_MD_fault_24 (by decide) (fun c => ?_) (fun c => ?_)
          · replace H := H.2 c
            refine A_iload_n 2 d_MD_fault_36 rfl rfl ?_
            refine A_iconst d_MD_fault_37 rfl ?_
            refine A_icmp_ne (tgt := 50) d_MD_fault_38 (by decide) (fun c => ?_) (fun c => ?_)
            · replace H := H.2 c
              refine A_iload_n 2 d_MD_fault_50 rfl rfl ?_
              refine A_iconst d_MD_fault_51 rfl ?_
              refine A_icmp_ne (tgt := 64) d_MD_fault_52 (by decide) (fun c => ?_) (fun c => ?_)
              · replace H := H.2 c
                refine A_aload_n 0 d_MD_fault_64 rfl rfl ?_
                refine A_getAv (z := some 224) T_ok d_MD_fault_65 f_MD_175 (hb_s hb0 sf_170) (hb_m hb0 rfm_84) ?_
                refine A_iload_n 1 d_MD_fault_68 rfl rfl ?_
                have g4 := H.1
                replace H := H.2
                refine A_ialoadf d_MD_fault_69 (hb_s hb0 sf_224) g4.1 g4.2 (fun x3 ex3 lx3 ux3 => ?_)
                replace H := H x3 ex3 lx3 ux3
                refine A_pc (pc' := 70) rfl ?_
                refine A_free (L' := [none, none, none]) trivial ?_
                exact b_MD_fault_70    hb0 H
              · replace H := H.1 c
                refine A_aload_n 0 d_MD_fault_55 rfl rfl ?_
                refine A_getAv (z := some 223) T_ok d_MD_fault_56 f_MD_172 (hb_s hb0 sf_170) (hb_m hb0 rfm_83) ?_
                refine A_iload_n 1 d_MD_fault_59 rfl rfl ?_
                have g7 := H.1
                replace H := H.2
                refine A_ialoadf d_MD_fault_60 (hb_s hb0 sf_223) g7.1 g7.2 (fun x6 ex6 lx6 ux6 => ?_)
                replace H := H x6 ex6 lx6 ux6
                refine A_goto (tgt := 70) d_MD_fault_61 (by decide) ?_
                refine A_pc (pc' := 70) rfl ?_
                refine A_free (L' := [none, none, none]) trivial ?_
                exact b_MD_fault_70    hb0 H
            · replace H := H.1 c
              refine A_aload_n 0 d_MD_fault_41 rfl rfl ?_
              refine A_getAv (z := some 222) T_ok d_MD_fault_42 f_MD_169 (hb_s hb0 sf_170) (hb_m hb0 rfm_82) ?_
              refine A_iload_n 1 d_MD_fault_45 rfl rfl ?_
              have g10 := H.1
              replace H := H.2
              refine A_ialoadf d_MD_fault_46 (hb_s hb0 sf_222) g10.1 g10.2 (fun x9 ex9 lx9 ux9 => ?_)
              replace H := H x9 ex9 lx9 ux9
              refine A_goto (tgt := 70) d_MD_fault_47 (by decide) ?_
              refine A_pc (pc' := 70) rfl ?_
              refine A_free (L' := [none, none, none]) trivial ?_
              exact b_MD_fault_70    hb0 H
          · replace H := H.1 c
            refine A_aload_n 0 d_MD_fault_27 rfl rfl ?_
            refine A_getAv (z := some 221) T_ok d_MD_fault_28 f_MD_166 (hb_s hb0 sf_170) (hb_m hb0 rfm_81) ?_
            refine A_iload_n 1 d_MD_fault_31 rfl rfl ?_
            have g13 := H.1
            replace H := H.2
            refine A_ialoadf d_MD_fault_32 (hb_s hb0 sf_221) g13.1 g13.2 (fun x12 ex12 lx12 ux12 => ?_)
            replace H := H x12 ex12 lx12 ux12
            refine A_goto (tgt := 70) d_MD_fault_33 (by decide) ?_
            refine A_pc (pc' := 70) rfl ?_
            refine A_free (L' := [none, none, none]) trivial ?_
            exact b_MD_fault_70    hb0 H
        · replace H := H.2 c
          refine A_pc (pc' := 21) rfl ?_
          refine A_free (L' := [none, none, none]) trivial ?_
          exact b_MD_fault_21    hb0 H
theorem c_MD_fault {G : cx_T} {s : Nat} {a1 : Int} {a2 : Int} {h : ah_T} {Q : Option av_T → ah_T → Prop} (hb0 : hb s h) (H : i32 a1 → i32 a2 → B_MD_fault_0 G s a1 a2 h Q ) : con G 0 0 0 m_MD_fault [av_R (some 170), av_I a1, av_I a2] h Q := by
  have hS : isS s := hb0.2.1
  refine con_of (L := [some (av_R (some 170)), some (av_I a1), some (av_I a2)]) (by decide +kernel) (Nat.le_of_ble_eq_true rfl) rfl ?_
  refine A_locI 1 rfl (fun ra1 => ?_)
  refine A_locI 2 rfl (fun ra2 => ?_)
  exact b_MD_fault_0   hb0 (H ra1 ra2)
