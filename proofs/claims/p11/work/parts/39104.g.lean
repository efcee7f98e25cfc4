/-! ===== verification conditions, 514 ===== -/
def B_MD_isShort_25 (G : cx_T) (s : Nat) (a1 : Int) (t0 : Int) (h : ah_T) (Q : Option av_T → ah_T → Prop) : Prop :=
 (t0 = 0 ∨ t0 = 1) ∧ Q (some (av_I t0)) h
theorem b_MD_isShort_25 {G : cx_T} {s : Nat} {a1 : Int} {t0 : Int} {h : ah_T} {Q : Option av_T → ah_T → Prop} (hb0 : hb s h) (H : B_MD_isShort_25 G s a1 t0 h Q ) : aw G (rm_R 0 0 0) m_MD_isShort 0 0 25 [none, none] [av_I t0] h Q := by
  unfold B_MD_isShort_25 at H
  have hS : isS s := hb0.2.1
  exact A_zret d_MD_isShort_25 (by decide) rfl H.1 H.2
def B_MD_isShort_24 (G : cx_T) (s : Nat) (a1 : Int) (h : ah_T) (Q : Option av_T → ah_T → Prop) : Prop :=
 B_MD_isShort_25 G s a1 (0) h Q 
theorem b_MD_isShort_24 {G : cx_T} {s : Nat} {a1 : Int} {h : ah_T} {Q : Option av_T → ah_T → Prop} (hb0 : hb s h) (H : B_MD_isShort_24 G s a1 h Q ) : aw G (rm_R 0 0 0) m_MD_isShort 0 0 24 [none, none] [] h Q := by
  unfold B_MD_isShort_24 at H
  have hS : isS s := hb0.2.1
  refine A_iconst d_MD_isShort_24 rfl ?_
  refine A_pc (pc' := 25) rfl ?_
  exact b_MD_isShort_25    hb0 H
def B_MD_isShort_0 (G : cx_T) (s : Nat) (a1 : Int) (h : ah_T) (Q : Option av_T → ah_T → Prop) : Prop :=
 (0 ≤ a1 ∧ a1 < 2400) ∧ ∀ x2 : Int, x2 = h.2.1 191 (a1).toNat → -2147483648 ≤ x2 → x2 ≤ 2147483647 → ((x2 ≤ 0 → B_MD_isShort_24 G s a1 h Q ) ∧ (¬ x2 ≤ 0 → ∀ x5 : Int, x5 = h.2.1 197 (a1).toNat → -2147483648 ≤ x5 → x5 ≤ 2147483647 → ((x5 < 8 → B_MD_isShort_24 G s a1 h Q ) ∧ (¬ x5 < 8 → B_MD_isShort_25 G s a1 (1) h Q ))))
theorem b_MD_isShort_0 {G : cx_T} {s : Nat} {a1 : Int} {h : ah_T} {Q : Option av_T → ah_T → Prop} (hb0 : hb s h) (H : B_MD_isShort_0 G s a1 h Q ) : aw G (rm_R 0 0 0) m_MD_isShort 0 0 0 [some (av_R (some 170)), some (av_I a1)] [] h Q := by
  unfold B_MD_isShort_0 at H
  have hS : isS s := hb0.2.1
  refine A_aload_n 0 d_MD_isShort_0 rfl rfl ?_
  refine A_getAv (z := some 191) T_ok d_MD_isShort_1 f_MD_75 (hb_s hb0 sf_170) (hb_m hb0 rfm_33) ?_
  refine A_iload_n 1 d_MD_isShort_4 rfl rfl ?_
  have g3 := H.1
  replace H := H.2
  refine A_ialoadf d_MD_isShort_5 (hb_s hb0 sf_191) g3.1 g3.2 (fun x2 ex2 lx2 ux2 => ?_)
  replace H := H x2 ex2 lx2 ux2
  refine A_if_le (tgt := 24) d_MD_isShort_6 (by decide) (fun c => ?_) (fun c => ?_)
  · replace H := H.1 c
    refine A_pc (pc' := 24) rfl ?_
    refine A_free (L' := [none, none]) trivial ?_
    exact b_MD_isShort_24    hb0 H
  · replace H := H.2 c
    refine A_aload_n 0 d_MD_isShort_9 rfl rfl ?_
    refine A_getAv (z := some 197) T_ok d_MD_isShort_10 f_MD_94 (hb_s hb0 sf_170) (hb_m hb0 rfm_39) ?_
    refine A_iload_n 1 d_MD_isShort_13 rfl rfl ?_
    refine A_ialoadf d_MD_isShort_14 (hb_s hb0 sf_197) g3.1 g3.2 (fun x5 ex5 lx5 ux5 => ?_)
    replace H := H x5 ex5 lx5 ux5
    refine A_bipush d_MD_isShort_15 rfl ?_
    refine A_pc (pc' := 17) rfl ?_
    refine A_icmp_lt (tgt := 24) d_MD_isShort_17 (by decide) (fun c => ?_) (fun c => ?_)
    · replace H := H.1 c
      refine A_pc (pc' := 24) rfl ?_
      refine A_free (L' := [none, none]) trivial ?_
      exact b_MD_isShort_24    hb0 H
    · replace H := H.2 c
      refine A_iconst d_MD_isShort_20 rfl ?_
      refine A_goto (tgt := 25) d_MD_isShort_21 (by decide) ?_
      refine A_pc (pc' := 25) rfl ?_
      refine A_free (L' := [none, none]) trivial ?_
      exact b_MD_isShort_25    hb0 H
theorem c_MD_isShort {G : cx_T} {s : Nat} {a1 : Int} {h : ah_T} {Q : Option av_T → ah_T → Prop} (hb0 : hb s h) (H : i32 a1 → B_MD_isShort_0 G s a1 h Q ) : con G 0 0 0 m_MD_isShort [av_R (some 170), av_I a1] h Q := by
  have hS : isS s := hb0.2.1
  refine con_of (L := [some (av_R (some 170)), some (av_I a1)]) (by decide +kernel) (Nat.le_of_ble_eq_true rfl) rfl ?_
  refine A_locI 1 rfl (fun ra1 => ?_)
  exact b_MD_isShort_0   hb0 (H ra1)
def B_MD_groupCost_198 (G : cx_T) (s : Nat) (a1 : Int) (a2 : Int) (a3 : Int) (a4 : Int) (v6 : Int) (v7 : Int) (t0 : Int) (t1 : Int) (h : ah_T) (Q : Option av_T → ah_T → Prop) (X24 : Int → Int → Int → ah_T → Prop) : Prop :=
 ((-2147483648) ≤ (t0 + t1) ∧ (t0 + t1) ≤ 2147483647) ∧ ((-2147483648) ≤ (v7 + 1) ∧ (v7 + 1) ≤ 2147483647) ∧ X24 ((t0 + t1)) (v6) ((v7 + 1)) h
theorem b_MD_groupCost_198 {G : cx_T} {s : Nat} {a1 : Int} {a2 : Int} {a3 : Int} {a4 : Int} {v6 : Int} {v7 : Int} {t0 : Int} {t1 : Int} {h : ah_T} {Q : Option av_T → ah_T → Prop} {X24 : Int → Int → Int → ah_T → Prop} (hX24 : ∀ (v5 : Int) (v6 : Int) (v7 : Int) (h : ah_T), hb s h → X24 v5 v6 v7 h → aw G (rm_R 3 0 0) m_MD_groupCost 0 0 24 [some (av_R (some 170)), some (av_I a1), none, some (av_I a3), some (av_I a4), some (av_I v5), some (av_I v6), some (av_I v7), none, none] [] h Q) (hb0 : hb s h) (H : B_MD_groupCost_198 G s a1 a2 a3 a4 v6 v7 t0 t1 h Q X24) : aw G (rm_R 3 0 0) m_MD_groupCost 0 0 198 [some (av_R (some 170)), some (av_I a1), none, some (av_I a3), some (av_I a4), none, some (av_I v6), some (av_I v7), none, none] [av_I t1, av_I t0] h Q := by
  unfold B_MD_groupCost_198 at H
  have hS : isS s := hb0.2.1
  have g1 := H.1
  replace H := H.2
  refine A_iaddv (z := (t0 + t1)) d_MD_groupCost_198 (w32_to (by omega) (by unfold i32; omega)) ?_
  refine A_istore (L' := [some (av_R (some 170)), some (av_I a1), none, some (av_I a3), some (av_I a4), some (av_I (t0 + t1)), some (av_I v6), some (av_I v7), none, none]) d_MD_groupCost_199 (Nat.le_of_ble_eq_true rfl) rfl ?_
  have g2 := H.1
  replace H := H.2
  refine A_iincv (z := (v7 + 1)) (L' := [some (av_R (some 170)), some (av_I a1), none, some (av_I a3), some (av_I a4), some (av_I (t0 + t1)), some (av_I v6), some (av_I (v7 + 1)), none, none]) d_MD_groupCost_201 rfl (w32_to (by omega) (by unfold i32; omega)) rfl ?_
  refine A_goto (tgt := 24) d_MD_groupCost_204 (by decide) ?_
  refine A_pc (pc' := 24) rfl ?_
  exact hX24 ((t0 + t1)) (v6) ((v7 + 1)) h  hb0 H
def B_MD_groupCost_180 (G : cx_T) (s : Nat) (a1 : Int) (a2 : Int) (a3 : Int) (a4 : Int) (v5 : Int) (v6 : Int) (v7 : Int) (t0 : Int) (h : ah_T) (Q : Option av_T → ah_T → Prop) (X24 : Int → Int → Int → ah_T → Prop) : Prop :=
 ((t0 ≤ 4 → B_MD_groupCost_198 G s a1 a2 a3 a4 (v6) (v7) (v5) (0) h Q X24) ∧ (¬ t0 ≤ 4 → ((-2147483648) ≤ (t0 - 4) ∧ (t0 - 4) ≤ 2147483647) ∧ B_MD_groupCost_198 G s a1 a2 a3 a4 (v6) (v7) (v5) ((t0 - 4)) h Q X24))
theorem b_MD_groupCost_180 {G : cx_T} {s : Nat} {a1 : Int} {a2 : Int} {a3 : Int} {a4 : Int} {v5 : Int} {v6 : Int} {v7 : Int} {t0 : Int} {h : ah_T} {Q : Option av_T → ah_T → Prop} {X24 : Int → Int → Int → ah_T → Prop} (hX24 : ∀ (v5 : Int) (v6 : Int) (v7 : Int) (h : ah_T), hb s h → X24 v5 v6 v7 h → aw G (rm_R 3 0 0) m_MD_groupCost 0 0 24 [some (av_R (some 170)), some (av_I a1), none, some (av_I a3), some (av_I a4), some (av_I v5), some (av_I v6), some (av_I v7), none, none] [] h Q) (hb0 : hb s h) (H : B_MD_groupCost_180 G s a1 a2 a3 a4 v5 v6 v7 t0 h Q X24) : aw G (rm_R 3 0 0) m_MD_groupCost 0 0 180 [some (av_R (some 170)), some (av_I a1), none, some (av_I a3), some (av_I a4), some (av_I v5), some (av_I v6), some (av_I v7), none, none] [av_I t0] h Q := by
  unfold B_MD_groupCost_180 at H
  have hS : isS s := hb0.2.1
  refine A_istore (L' := [some (av_R (some 170)), some (av_I a1), none, some (av_I a3), some (av_I a4), some (av_I v5), some (av_I v6), some (av_I v7), none, some (av_I t0)]) d_MD_groupCost_180 (Nat.le_of_ble_eq_true rfl) rfl ?_
  refine A_iload d_MD_groupCost_182 rfl ?_
  refine A_iload d_MD_groupCost_184 rfl ?_
  refine A_iconst d_MD_groupCost_186 rfl ?_
  refine A_icmp_le (tgt := 197) d_MD_groupCost_187 (by decide) (fun c => ?_) (fun c => ?_)
  · replace H := H.1 c
    refine A_iconst d_MD_groupCost_197 rfl ?_
    refine A_pc (pc' := 198) rfl ?_
    refine A_free (L' := [some (av_R (some 170)), some (av_I a1), none, some (av_I a3), some (av_I a4), none, some (av_I v6), some (av_I v7), none, none]) (And.intro rfl (And.intro rfl (And.intro rfl (And.intro rfl (And.intro rfl (And.intro rfl trivial)))))) ?_
    exact b_MD_groupCost_198  hX24  hb0 H
  · replace H := H.2 c
    refine A_iload d_MD_groupCost_190 rfl ?_
    refine A_iconst d_MD_groupCost_192 rfl ?_
    have g1 := H.1
    replace H := H.2
    refine A_isubv (z := (t0 - 4)) d_MD_groupCost_193 (w32_to (by omega) (by unfold i32; omega)) ?_
    refine A_goto (tgt := 198) d_MD_groupCost_194 (by decide) ?_
    refine A_pc (pc' := 198) rfl ?_
    refine A_free (L' := [some (av_R (some 170)), some (av_I a1), none, some (av_I a3), some (av_I a4), none, some (av_I v6), some (av_I v7), none, none]) (And.intro rfl (And.intro rfl (And.intro rfl (And.intro rfl (And.intro rfl (And.intro rfl trivial)))))) ?_
    exact b_MD_groupCost_198  hX24  hb0 H
def B_MD_groupCost_141 (G : cx_T) (s : Nat) (a1 : Int) (a2 : Int) (a3 : Int) (a4 : Int) (v6 : Int) (v7 : Int) (v8 : Int) (t0 : Int) (t1 : Int) (h : ah_T) (Q : Option av_T → ah_T → Prop) (X24 : Int → Int → Int → ah_T → Prop) : Prop :=
 ((-2147483648) ≤ (t0 + t1) ∧ (t0 + t1) ≤ 2147483647) ∧ ((-2147483648) ≤ (4 * v8) ∧ (4 * v8) ≤ 2147483647) ∧ (0 ≤ (4 * v8) ∧ (4 * v8) < 9600) ∧ ∀ x4 : Int, x4 = h.2.1 193 ((4 * v8)).toNat → -2147483648 ≤ x4 → x4 ≤ 2147483647 → ((-2147483648) ≤ (4 * v8 - 4) ∧ (4 * v8 - 4) ≤ 2147483647) ∧ (0 ≤ (4 * v8 - 4) ∧ (4 * v8 - 4) < 9600) ∧ ∀ x8 : Int, x8 = h.2.1 193 ((4 * v8 - 4)).toNat → -2147483648 ≤ x8 → x8 ≤ 2147483647 → ((-2147483648) ≤ (x4 - x8) ∧ (x4 - x8) ≤ 2147483647) ∧ ((0 ≤ (x4 - x8) → B_MD_groupCost_180 G s a1 a2 a3 a4 ((t0 + t1)) (v6) (v7) ((x4 - x8)) h Q X24) ∧ (¬ 0 ≤ (x4 - x8) → ((-2147483648) ≤ (-x4 + x8) ∧ (-x4 + x8) ≤ 2147483647) ∧ B_MD_groupCost_180 G s a1 a2 a3 a4 ((t0 + t1)) (v6) (v7) ((-x4 + x8)) h Q X24))
theorem b_MD_groupCost_141 {G : cx_T} {s : Nat} {a1 : Int} {a2 : Int} {a3 : Int} {a4 : Int} {v6 : Int} {v7 : Int} {v8 : Int} {t0 : Int} {t1 : Int} {h : ah_T} {Q : Option av_T → ah_T → Prop} {X24 : Int → Int → Int → ah_T → Prop} (hX24 : ∀ (v5 : Int) (v6 : Int) (v7 : Int) (h : ah_T), hb s h → X24 v5 v6 v7 h → aw G (rm_R 3 0 0) m_MD_groupCost 0 0 24 [some (av_R (some 170)), some (av_I a1), none, some (av_I a3), some (av_I a4), some (av_I v5), some (av_I v6), some (av_I v7), none, none] [] h Q) (hb0 : hb s h) (H : B_MD_groupCost_141 G s a1 a2 a3 a4 v6 v7 v8 t0 t1 h Q X24) : aw G (rm_R 3 0 0) m_MD_groupCost 0 0 141 [some (av_R (some 170)), some (av_I a1), none, some (av_I a3), some (av_I a4), none, some (av_I v6), some (av_I v7), some (av_I v8), none] [av_I t1, av_I t0] h Q := by
  unfold B_MD_groupCost_141 at H
  have hS : isS s := hb0.2.1
  have g1 := H.1
  replace H := H.2
  refine A_iaddv (z := (t0 + t1)) d_MD_groupCost_141 (w32_to (by omega) (by unfold i32; omega)) ?_
  refine A_istore (L' := [some (av_R (some 170)), some (av_I a1), none, some (av_I a3), some (av_I a4), some (av_I (t0 + t1)), some (av_I v6), some (av_I v7), some (av_I v8), none]) d_MD_groupCost_142 (Nat.le_of_ble_eq_true rfl) rfl ?_
  refine A_aload_n 0 d_MD_groupCost_144 rfl rfl ?_
  refine A_getAv (z := some 193) T_ok d_MD_groupCost_145 f_MD_81 (hb_s hb0 sf_170) (hb_m hb0 rfm_35) ?_
  refine A_iconst d_MD_groupCost_148 rfl ?_
  refine A_pc (pc' := 149) rfl ?_
  refine A_iload d_MD_groupCost_149 rfl ?_
  have g3 := H.1
  replace H := H.2
  refine A_imulv (z := (4 * v8)) d_MD_groupCost_151 (w32_to (by omega) (by unfold i32; omega)) ?_
  have g5 := H.1
  replace H := H.2
  refine A_ialoadf d_MD_groupCost_152 (hb_s hb0 sf_193) g5.1 g5.2 (fun x4 ex4 lx4 ux4 => ?_)
  replace H := H x4 ex4 lx4 ux4
  refine A_aload_n 0 d_MD_groupCost_153 rfl rfl ?_
  refine A_getAv (z := some 193) T_ok d_MD_groupCost_154 f_MD_81 (hb_s hb0 sf_170) (hb_m hb0 rfm_35) ?_
  refine A_iconst d_MD_groupCost_157 rfl ?_
  refine A_pc (pc' := 158) rfl ?_
  refine A_iload d_MD_groupCost_158 rfl ?_
  refine A_imulv (z := (4 * v8)) d_MD_groupCost_160 (w32_to (by omega) (by unfold i32; omega)) ?_
  refine A_iconst d_MD_groupCost_161 rfl ?_
  have g7 := H.1
  replace H := H.2
  refine A_isubv (z := (4 * v8 - 4)) d_MD_groupCost_162 (w32_to (by omega) (by unfold i32; omega)) ?_
  have g9 := H.1
  replace H := H.2
  refine A_ialoadf d_MD_groupCost_163 (hb_s hb0 sf_193) g9.1 g9.2 (fun x8 ex8 lx8 ux8 => ?_)
  replace H := H x8 ex8 lx8 ux8
  have g10 := H.1
  replace H := H.2
  refine A_isubv (z := (x4 - x8)) d_MD_groupCost_164 (w32_to (by omega) (by unfold i32; omega)) ?_
  refine A_pc (pc' := 165) rfl ?_
  refine A_istore (L' := [some (av_R (some 170)), some (av_I a1), none, some (av_I a3), some (av_I a4), some (av_I (t0 + t1)), some (av_I v6), some (av_I v7), some (av_I v8), some (av_I (x4 - x8))]) d_MD_groupCost_165 (Nat.le_of_ble_eq_true rfl) rfl ?_
  refine A_iload d_MD_groupCost_167 rfl ?_
  refine A_if_ge (tgt := 178) d_MD_groupCost_169 (by decide) (fun c => ?_) (fun c => ?_)
  · replace H := H.1 c
    refine A_iload d_MD_groupCost_178 rfl ?_
    refine A_pc (pc' := 180) rfl ?_
    refine A_free (L' := [some (av_R (some 170)), some (av_I a1), none, some (av_I a3), some (av_I a4), some (av_I (t0 + t1)), some (av_I v6), some (av_I v7), none, none]) (And.intro rfl (And.intro rfl (And.intro rfl (And.intro rfl (And.intro rfl (And.intro rfl (And.intro rfl trivial))))))) ?_
    exact b_MD_groupCost_180  hX24  hb0 H
  · replace H := H.2 c
    refine A_iload d_MD_groupCost_172 rfl ?_
    have g11 := H.1
    replace H := H.2
    refine A_inegv (z := (-x4 + x8)) d_MD_groupCost_174 (w32_to (by omega) (by unfold i32; omega)) ?_
    refine A_goto (tgt := 180) d_MD_groupCost_175 (by decide) ?_
    refine A_pc (pc' := 180) rfl ?_
    refine A_free (L' := [some (av_R (some 170)), some (av_I a1), none, some (av_I a3), some (av_I a4), some (av_I (t0 + t1)), some (av_I v6), some (av_I v7), none, none]) (And.intro rfl (And.intro rfl (And.intro rfl (And.intro rfl (And.intro rfl (And.intro rfl (And.intro rfl trivial))))))) ?_
    exact b_MD_groupCost_180  hX24  hb0 H
def B_MD_groupCost_112 (G : cx_T) (s : Nat) (a1 : Int) (a2 : Int) (a3 : Int) (a4 : Int) (v6 : Int) (v7 : Int) (v8 : Int) (t0 : Int) (t1 : Int) (h : ah_T) (Q : Option av_T → ah_T → Prop) (X24 : Int → Int → Int → ah_T → Prop) : Prop :=
 ((-2147483648) ≤ (t0 + t1) ∧ (t0 + t1) ≤ 2147483647) ∧ (0 ≤ v8 ∧ v8 < 2400) ∧ ∀ x3 : Int, x3 = h.2.1 197 (v8).toNat → -2147483648 ≤ x3 → x3 ≤ 2147483647 → ((-2147483648) ≤ (v8 - 1) ∧ (v8 - 1) ≤ 2147483647) ∧ (0 ≤ (v8 - 1) ∧ (v8 - 1) < 2400) ∧ ∀ x7 : Int, x7 = h.2.1 197 ((v8 - 1)).toNat → -2147483648 ≤ x7 → x7 ≤ 2147483647 → ((x3 = x7 → B_MD_groupCost_141 G s a1 a2 a3 a4 (v6) (v7) (v8) ((t0 + t1)) (0) h Q X24) ∧ (¬ x3 = x7 → B_MD_groupCost_141 G s a1 a2 a3 a4 (v6) (v7) (v8) ((t0 + t1)) (1) h Q X24))
theorem b_MD_groupCost_112 {G : cx_T} {s : Nat} {a1 : Int} {a2 : Int} {a3 : Int} {a4 : Int} {v6 : Int} {v7 : Int} {v8 : Int} {t0 : Int} {t1 : Int} {h : ah_T} {Q : Option av_T → ah_T → Prop} {X24 : Int → Int → Int → ah_T → Prop} (hX24 : ∀ (v5 : Int) (v6 : Int) (v7 : Int) (h : ah_T), hb s h → X24 v5 v6 v7 h → aw G (rm_R 3 0 0) m_MD_groupCost 0 0 24 [some (av_R (some 170)), some (av_I a1), none, some (av_I a3), some (av_I a4), some (av_I v5), some (av_I v6), some (av_I v7), none, none] [] h Q) (hb0 : hb s h) (H : B_MD_groupCost_112 G s a1 a2 a3 a4 v6 v7 v8 t0 t1 h Q X24) : aw G (rm_R 3 0 0) m_MD_groupCost 0 0 112 [some (av_R (some 170)), some (av_I a1), none, some (av_I a3), some (av_I a4), none, some (av_I v6), some (av_I v7), some (av_I v8), none] [av_I t1, av_I t0] h Q := by
  unfold B_MD_groupCost_112 at H
  have hS : isS s := hb0.2.1
  have g1 := H.1
  replace H := H.2
  refine A_iaddv (z := (t0 + t1)) d_MD_groupCost_112 (w32_to (by omega) (by unfold i32; omega)) ?_
  refine A_istore (L' := [some (av_R (some 170)), some (av_I a1), none, some (av_I a3), some (av_I a4), some (av_I (t0 + t1)), some (av_I v6), some (av_I v7), some (av_I v8), none]) d_MD_groupCost_113 (Nat.le_of_ble_eq_true rfl) rfl ?_
  refine A_iload d_MD_groupCost_115 rfl ?_
  refine A_aload_n 0 d_MD_groupCost_117 rfl rfl ?_
  refine A_getAv (z := some 197) T_ok d_MD_groupCost_118 f_MD_94 (hb_s hb0 sf_170) (hb_m hb0 rfm_39) ?_
  refine A_pc (pc' := 121) rfl ?_
  refine A_iload d_MD_groupCost_121 rfl ?_
  have g4 := H.1
  replace H := H.2
  refine A_ialoadf d_MD_groupCost_123 (hb_s hb0 sf_197) g4.1 g4.2 (fun x3 ex3 lx3 ux3 => ?_)
  replace H := H x3 ex3 lx3 ux3
  refine A_aload_n 0 d_MD_groupCost_124 rfl rfl ?_
  refine A_getAv (z := some 197) T_ok d_MD_groupCost_125 f_MD_94 (hb_s hb0 sf_170) (hb_m hb0 rfm_39) ?_
  refine A_iload d_MD_groupCost_128 rfl ?_
  refine A_iconst d_MD_groupCost_130 rfl ?_
  refine A_pc (pc' := 131) rfl ?_
  have g6 := H.1
  replace H := H.2
  refine A_isubv (z := (v8 - 1)) d_MD_groupCost_131 (w32_to (by omega) (by unfold i32; omega)) ?_
  have g8 := H.1
  replace H := H.2
  refine A_ialoadf d_MD_groupCost_132 (hb_s hb0 sf_197) g8.1 g8.2 (fun x7 ex7 lx7 ux7 => ?_)
  replace H := H x7 ex7 lx7 ux7
  refine A_icmp_eq (tgt := 140) d_MD_groupCost_133 (by decide) (fun c => ?_) (fun c => ?_)
  · replace H := H.1 c
    refine A_iconst d_MD_groupCost_140 rfl ?_
    refine A_pc (pc' := 141) rfl ?_
    refine A_free (L' := [some (av_R (some 170)), some (av_I a1), none, some (av_I a3), some (av_I a4), none, some (av_I v6), some (av_I v7), some (av_I v8), none]) (And.intro rfl (And.intro rfl (And.intro rfl (And.intro rfl (And.intro rfl (And.intro rfl (And.intro rfl trivial))))))) ?_
    exact b_MD_groupCost_141  hX24  hb0 H
  · replace H := H.2 c
    refine A_iconst d_MD_groupCost_136 rfl ?_
    refine A_goto (tgt := 141) d_MD_groupCost_137 (by decide) ?_
    refine A_pc (pc' := 141) rfl ?_
    refine A_free (L' := [some (av_R (some 170)), some (av_I a1), none, some (av_I a3), some (av_I a4), none, some (av_I v6), some (av_I v7), some (av_I v8), none]) (And.intro rfl (And.intro rfl (And.intro rfl (And.intro rfl (And.intro rfl (And.intro rfl (And.intro rfl trivial))))))) ?_
    exact b_MD_groupCost_141  hX24  hb0 H
def B_MD_groupCost_24 (G : cx_T) (s : Nat) (a1 : Int) (a2 : Int) (a3 : Int) (a4 : Int) (v5 : Int) (v6 : Int) (v7 : Int) (h : ah_T) (Q : Option av_T → ah_T → Prop) (X24 : Int → Int → Int → ah_T → Prop) : Prop :=
 ((-2147483648) ≤ (a3 + a4) ∧ (a3 + a4) ≤ 2147483647) ∧ (((a3 + a4) ≤ v7 → Q (some (av_I v5)) h) ∧ (¬ (a3 + a4) ≤ v7 → ((-2147483648) ≤ (300 * a1) ∧ (300 * a1) ≤ 2147483647) ∧ ((-2147483648) ≤ (300 * a1 + v7) ∧ (300 * a1 + v7) ≤ 2147483647) ∧ (0 ≤ (300 * a1 + v7) ∧ (300 * a1 + v7) < 2400) ∧ ∀ x5 : Int, x5 = h.2.2.1 187 ((300 * a1 + v7)).toNat → -9223372036854775808 ≤ x5 → x5 ≤ 9223372036854775807 → ∀ x8 : Int, x8 = h.2.2.1 188 ((300 * a1 + v7)).toNat → -9223372036854775808 ≤ x8 → x8 ≤ 9223372036854775807 → (0 ≤ v6 ∧ v6 < 816) ∧ ∀ x10 : Int, x10 = h.2.2.1 199 (v6).toNat → -9223372036854775808 ≤ x10 → x10 ≤ 9223372036854775807 → ((-9223372036854775808) ≤ (-x10) ∧ (-x10) ≤ 9223372036854775807) ∧ ∀ x14 : Int, x14 = h.2.2.1 200 (v6).toNat → -9223372036854775808 ≤ x14 → x14 ≤ 9223372036854775807 → con G 2 0 0 m_MD_sum [av_R (some 170), av_L x5, av_L x8, av_L (-x10), av_L x14] h (fun r h15 => r = none ∧ hb s h15 ∧ ∀ x18 : Int, x18 = h15.2.2.1 170 65 → -9223372036854775808 ≤ x18 → x18 ≤ 9223372036854775807 → ∀ x20 : Int, x20 = h15.2.1 174 0 → -2147483648 ≤ x20 → x20 ≤ 2147483647 → ∀ x21 : Int, x21 = x18 * x20 → ((-9223372036854775808) ≤ x21 ∧ x21 ≤ 9223372036854775807) ∧ ∀ x23 : Int, x23 = h15.2.2.1 170 66 → -9223372036854775808 ≤ x23 → x23 ≤ 9223372036854775807 → con G 1 0 0 m_MD_fraction [av_R (some 170), av_L x21, av_L x23] h15 (fun r h24 => r = none ∧ hb s h24 ∧ ∀ x27 : Int, x27 = h24.2.2.1 170 66 → -9223372036854775808 ≤ x27 → x27 ≤ 9223372036854775807 → ((x27 = 1 → B_MD_groupCost_112 G s a1 a2 a3 a4 (v6) (v7) ((300 * a1 + v7)) (v5) (2) h24 Q X24) ∧ (¬ x27 = 1 → B_MD_groupCost_112 G s a1 a2 a3 a4 (v6) (v7) ((300 * a1 + v7)) (v5) (0) h24 Q X24))))))
theorem b_MD_groupCost_24 {G : cx_T} {s : Nat} {a1 : Int} {a2 : Int} {a3 : Int} {a4 : Int} {v5 : Int} {v6 : Int} {v7 : Int} {h : ah_T} {Q : Option av_T → ah_T → Prop} {X24 : Int → Int → Int → ah_T → Prop} (hX24 : ∀ (v5 : Int) (v6 : Int) (v7 : Int) (h : ah_T), hb s h → X24 v5 v6 v7 h → aw G (rm_R 3 0 0) m_MD_groupCost 0 0 24 [some (av_R (some 170)), some (av_I a1), none, some (av_I a3), some (av_I a4), some (av_I v5), some (av_I v6), some (av_I v7), none, none] [] h Q) (hb0 : hb s h) (H : B_MD_groupCost_24 G s a1 a2 a3 a4 v5 v6 v7 h Q X24) : aw G (rm_R 3 0 0) m_MD_groupCost 0 0 24 [some (av_R (some 170)), some (av_I a1), none, some (av_I a3), some (av_I a4), some (av_I v5), some (av_I v6), some (av_I v7), none, none] [] h Q := by
  unfold B_MD_groupCost_24 at H
  have hS : isS s := hb0.2.1
  refine A_iload d_MD_groupCost_24 rfl ?_
  refine A_iload_n 3 d_MD_groupCost_26 rfl rfl ?_
  refine A_iload d_MD_groupCost_27 rfl ?_
  have g1 := H.1
  replace H := H.2
  refine A_iaddv (z := (a3 + a4)) d_MD_groupCost_29 (w32_to (by omega) (by unfold i32; omega)) ?_
  refine A_icmp_ge (tgt := 207) d_MD_groupCost_30 (by decide) (fun c => ?_) (fun c => ?_)
  · replace H := H.1 c
    refine A_iload d_MD_groupCost_207 rfl ?_
    exact A_iret d_MD_groupCost_209 (by decide) rfl H
  · replace H := H.2 c
    refine A_sipush d_MD_groupCost_33 rfl ?_
    refine A_iload_n 1 d_MD_groupCost_36 rfl rfl ?_
    have g2 := H.1
    replace H := H.2
    refine A_imulv (z := (300 * a1)) d_MD_groupCost_37 (w32_to (by omega) (by unfold i32; omega)) ?_
    refine A_iload d_MD_groupCost_38 rfl ?_
    have g3 := H.1
    replace H := H.2
    refine A_iaddv (z := (300 * a1 + v7)) d_MD_groupCost_40 (w32_to (by omega) (by unfold i32; omega)) ?_
    refine A_pc (pc' := 41) rfl ?_
    refine A_istore (L' := [some (av_R (some 170)), some (av_I a1), none, some (av_I a3), some (av_I a4), some (av_I v5), some (av_I v6), some (av_I v7), some (av_I (300 * a1 + v7)), none]) d_MD_groupCost_41 (Nat.le_of_ble_eq_true rfl) rfl ?_
    refine A_aload_n 0 d_MD_groupCost_43 rfl rfl ?_
    refine A_aload_n 0 d_MD_groupCost_44 rfl rfl ?_
    refine A_getAv (z := some 187) T_ok d_MD_groupCost_45 f_MD_63 (hb_s hb0 sf_170) (hb_m hb0 rfm_29) ?_
    refine A_iload d_MD_groupCost_48 rfl ?_
    have g6 := H.1
    replace H := H.2
    refine A_laloadf d_MD_groupCost_50 (hb_s hb0 sf_187) g6.1 g6.2 (fun x5 ex5 lx5 ux5 => ?_)
    replace H := H x5 ex5 lx5 ux5
    refine A_pc (pc' := 51) rfl ?_
    refine A_aload_n 0 d_MD_groupCost_51 rfl rfl ?_
    refine A_getAv (z := some 188) T_ok d_MD_groupCost_52 f_MD_66 (hb_s hb0 sf_170) (hb_m hb0 rfm_30) ?_
    refine A_iload d_MD_groupCost_55 rfl ?_
    refine A_laloadf d_MD_groupCost_57 (hb_s hb0 sf_188) g6.1 g6.2 (fun x8 ex8 lx8 ux8 => ?_)
    replace H := H x8 ex8 lx8 ux8
    refine A_aload_n 0 d_MD_groupCost_58 rfl rfl ?_
    refine A_getAv (z := some 199) T_ok d_MD_groupCost_59 f_MD_100 (hb_s hb0 sf_170) (hb_m hb0 rfm_41) ?_
    refine A_pc (pc' := 62) rfl ?_
    refine A_iload d_MD_groupCost_62 rfl ?_
    have g11 := H.1
    replace H := H.2
    refine A_laloadf d_MD_groupCost_64 (hb_s hb0 sf_199) g11.1 g11.2 (fun x10 ex10 lx10 ux10 => ?_)
    replace H := H x10 ex10 lx10 ux10
    have g12 := H.1
    replace H := H.2
    refine A_lnegv (z := (-x10)) d_MD_groupCost_65 (w64_to (by omega) (by unfold i64; omega)) ?_
    refine A_aload_n 0 d_MD_groupCost_66 rfl rfl ?_
    refine A_getAv (z := some 200) T_ok d_MD_groupCost_67 f_MD_103 (hb_s hb0 sf_170) (hb_m hb0 rfm_42) ?_
    refine A_iload d_MD_groupCost_70 rfl ?_
    refine A_pc (pc' := 72) rfl ?_
    refine A_laloadf d_MD_groupCost_72 (hb_s hb0 sf_200) g11.1 g11.2 (fun x14 ex14 lx14 ux14 => ?_)
    replace H := H x14 ex14 lx14 ux14
    refine A_callV4 m_MD_sum T_ok d_MD_groupCost_73 l_MD_458 k_MD_sum (hb_s hb0 sf_170) rfl (by decide +kernel) (by decide) (Nat.le_of_ble_eq_true rfl) H (fun r h15 hq => ?_)
    clear H
    obtain ⟨rfl, hb16, H⟩ := hq
    refine A_aload_n 0 d_MD_groupCost_76 rfl rfl ?_
    refine A_aload_n 0 d_MD_groupCost_77 rfl rfl ?_
    refine A_getLf T_ok d_MD_groupCost_78 f_MD_385 (hb_s hb16 sf_170) (fun x18 ex18 lx18 ux18 => ?_)
    replace H := H x18 ex18 lx18 ux18
    refine A_aload_n 0 d_MD_groupCost_81 rfl rfl ?_
    refine A_getAv (z := some 174) T_ok d_MD_groupCost_82 f_MD_23 (hb_s hb16 sf_170) (hb_m hb16 rfm_16) ?_
    refine A_pc (pc' := 85) rfl ?_
    refine A_iconst d_MD_groupCost_85 rfl ?_
    refine A_ialoadf d_MD_groupCost_86 (hb_s hb16 sf_174) (by decide) (by decide) (fun x20 ex20 lx20 ux20 => ?_)
    replace H := H x20 ex20 lx20 ux20
    refine A_i2l d_MD_groupCost_87 ?_
    obtain ⟨x21, ex21⟩ : ∃ z : Int, z = x18 * x20 := ⟨_, rfl⟩
    replace H := H x21 ex21
    have g22 := H.1
    replace H := H.2
    refine A_lmulv (z := x21) d_MD_groupCost_88 (w64_to ex21.symm (by unfold i64; omega)) ?_
    refine A_aload_n 0 d_MD_groupCost_89 rfl rfl ?_
    refine A_getLf T_ok d_MD_groupCost_90 f_MD_388 (hb_s hb16 sf_170) (fun x23 ex23 lx23 ux23 => ?_)
    replace H := H x23 ex23 lx23 ux23
    refine A_pc (pc' := 93) rfl ?_
    refine A_callV2 m_MD_fraction T_ok d_MD_groupCost_93 l_MD_391 k_MD_fraction (hb_s hb16 sf_170) rfl (by decide +kernel) (by decide) (Nat.le_of_ble_eq_true rfl) H (fun r h24 hq => ?_)
    clear H
    obtain ⟨rfl, hb25, H⟩ := hq
    refine A_iload d_MD_groupCost_96 rfl ?_
    refine A_aload_n 0 d_MD_groupCost_98 rfl rfl ?_
    refine A_getLf T_ok d_MD_groupCost_99 f_MD_388 (hb_s hb25 sf_170) (fun x27 ex27 lx27 ux27 => ?_)
    replace H := H x27 ex27 lx27 ux27
    refine A_lconst_1 d_MD_groupCost_102 ?_
    refine A_lcmpn d_MD_groupCost_103 (fun x28 lx28 ex28 gx28 _ _ => ?_)
    refine A_pc (pc' := 104) rfl ?_
    refine A_if_ne (tgt := 111) d_MD_groupCost_104 (by decide) (fun c => ?_) (fun c => ?_)
    · replace H := H.2 (by omega)
      refine A_iconst d_MD_groupCost_111 rfl ?_
      refine A_pc (pc' := 112) rfl ?_
      refine A_free (L' := [some (av_R (some 170)), some (av_I a1), none, some (av_I a3), some (av_I a4), none, some (av_I v6), some (av_I v7), some (av_I (300 * a1 + v7)), none]) (And.intro rfl (And.intro rfl (And.intro rfl (And.intro rfl (And.intro rfl (And.intro rfl (And.intro rfl trivial))))))) ?_
      exact b_MD_groupCost_112  hX24  hb25 H
    · replace H := H.1 (by omega)
      refine A_iconst d_MD_groupCost_107 rfl ?_
      refine A_goto (tgt := 112) d_MD_groupCost_108 (by decide) ?_
      refine A_pc (pc' := 112) rfl ?_
      refine A_free (L' := [some (av_R (some 170)), some (av_I a1), none, some (av_I a3), some (av_I a4), none, some (av_I v6), some (av_I v7), some (av_I (300 * a1 + v7)), none]) (And.intro rfl (And.intro rfl (And.intro rfl (And.intro rfl (And.intro rfl (And.intro rfl (And.intro rfl trivial))))))) ?_
      exact b_MD_groupCost_112  hX24  hb25 H
theorem lp_MD_groupCost_24 {G : cx_T} {s : Nat} {a1 : Int} {a2 : Int} {a3 : Int} {a4 : Int} {Q : Option av_T → ah_T → Prop} (I : Int → Int → Int → ah_T → Prop) (μ : Int → Int → Int → ah_T → Nat) (hI : ∀ (v5 : Int) (v6 : Int) (v7 : Int) (h : ah_T), hb s h → I v5 v6 v7 h → B_MD_groupCost_24 G s a1 a2 a3 a4 v5 v6 v7 h Q (fun v5' v6' v7' h' => I v5' v6' v7' h' ∧ μ v5' v6' v7' h' < μ v5 v6 v7 h)) : ∀ (v5 : Int) (v6 : Int) (v7 : Int) (h : ah_T), hb s h → I v5 v6 v7 h → aw G (rm_R 3 0 0) m_MD_groupCost 0 0 24 [some (av_R (some 170)), some (av_I a1), none, some (av_I a3), some (av_I a4), some (av_I v5), some (av_I v6), some (av_I v7), none, none] [] h Q := by
  have key : ∀ (n : Nat) (v5 : Int) (v6 : Int) (v7 : Int) (h : ah_T), hb s h → I v5 v6 v7 h → μ v5 v6 v7 h < n → aw G (rm_R 3 0 0) m_MD_groupCost 0 0 24 [some (av_R (some 170)), some (av_I a1), none, some (av_I a3), some (av_I a4), some (av_I v5), some (av_I v6), some (av_I v7), none, none] [] h Q := by
    intro n
    induction n with
    | zero => intro v5 v6 v7 h  hb0 hi hm; omega
    | succ n ih => intro v5 v6 v7 h  hb0 hi hm; exact b_MD_groupCost_24  (fun v5' v6' v7' h'  hb' hx => ih v5' v6' v7' h'  hb' hx.1 (by have := hx.2; omega))  hb0 (hI v5 v6 v7 h  hb0 hi)
  exact fun v5 v6 v7 h  hb0 hi => key _ v5 v6 v7 h  hb0 hi (Nat.lt_succ_self _)
def B_MD_groupCost_0 (G : cx_T) (s : Nat) (a1 : Int) (a2 : Int) (a3 : Int) (a4 : Int) (h : ah_T) (Q : Option av_T → ah_T → Prop) (X24 : Int → Int → Int → ah_T → Prop) : Prop :=
 ((a4 = 1 → Q (some (av_I 3)) h) ∧ (¬ a4 = 1 → ((-2147483648) ≤ (102 * a1) ∧ (102 * a1) ≤ 2147483647) ∧ ((-2147483648) ≤ (102 * a1 + a2) ∧ (102 * a1 + a2) ≤ 2147483647) ∧ ((-2147483648) ≤ (a3 + 1) ∧ (a3 + 1) ≤ 2147483647) ∧ X24 (1) ((102 * a1 + a2)) ((a3 + 1)) h))
theorem b_MD_groupCost_0 {G : cx_T} {s : Nat} {a1 : Int} {a2 : Int} {a3 : Int} {a4 : Int} {h : ah_T} {Q : Option av_T → ah_T → Prop} {X24 : Int → Int → Int → ah_T → Prop} (hX24 : ∀ (v5 : Int) (v6 : Int) (v7 : Int) (h : ah_T), hb s h → X24 v5 v6 v7 h → aw G (rm_R 3 0 0) m_MD_groupCost 0 0 24 [some (av_R (some 170)), some (av_I a1), none, some (av_I a3), some (av_I a4), some (av_I v5), some (av_I v6), some (av_I v7), none, none] [] h Q) (hb0 : hb s h) (H : B_MD_groupCost_0 G s a1 a2 a3 a4 h Q X24) : aw G (rm_R 3 0 0) m_MD_groupCost 0 0 0 [some (av_R (some 170)), some (av_I a1), some (av_I a2), some (av_I a3), some (av_I a4), none, none, none, none, none] [] h Q := by
  unfold B_MD_groupCost_0 at H
  have hS : isS s := hb0.2.1
  refine A_iload d_MD_groupCost_0 rfl ?_
  refine A_iconst d_MD_groupCost_2 rfl ?_
  refine A_icmp_ne (tgt := 8) d_MD_groupCost_3 (by decide) (fun c => ?_) (fun c => ?_)
  · replace H := H.2 c
    refine A_iconst d_MD_groupCost_8 rfl ?_
    refine A_istore (L' := [some (av_R (some 170)), some (av_I a1), some (av_I a2), some (av_I a3), some (av_I a4), some (av_I 1), none, none, none, none]) d_MD_groupCost_9 (Nat.le_of_ble_eq_true rfl) rfl ?_
    refine A_bipush d_MD_groupCost_11 rfl ?_
    refine A_iload_n 1 d_MD_groupCost_13 rfl rfl ?_
    have g1 := H.1
    replace H := H.2
    refine A_imulv (z := (102 * a1)) d_MD_groupCost_14 (w32_to (by omega) (by unfold i32; omega)) ?_
    refine A_pc (pc' := 15) rfl ?_
    refine A_iload_n 2 d_MD_groupCost_15 rfl rfl ?_
    have g2 := H.1
    replace H := H.2
    refine A_iaddv (z := (102 * a1 + a2)) d_MD_groupCost_16 (w32_to (by omega) (by unfold i32; omega)) ?_
    refine A_istore (L' := [some (av_R (some 170)), some (av_I a1), some (av_I a2), some (av_I a3), some (av_I a4), some (av_I 1), some (av_I (102 * a1 + a2)), none, none, none]) d_MD_groupCost_17 (Nat.le_of_ble_eq_true rfl) rfl ?_
    refine A_iload_n 3 d_MD_groupCost_19 rfl rfl ?_
    refine A_iconst d_MD_groupCost_20 rfl ?_
    have g3 := H.1
    replace H := H.2
    refine A_iaddv (z := (a3 + 1)) d_MD_groupCost_21 (w32_to (by omega) (by unfold i32; omega)) ?_
    refine A_pc (pc' := 22) rfl ?_
    refine A_istore (L' := [some (av_R (some 170)), some (av_I a1), some (av_I a2), some (av_I a3), some (av_I a4), some (av_I 1), some (av_I (102 * a1 + a2)), some (av_I (a3 + 1)), none, none]) d_MD_groupCost_22 (Nat.le_of_ble_eq_true rfl) rfl ?_
    refine A_pc (pc' := 24) rfl ?_
    refine A_free (L' := [some (av_R (some 170)), some (av_I a1), none, some (av_I a3), some (av_I a4), some (av_I 1), some (av_I (102 * a1 + a2)), some (av_I (a3 + 1)), none, none]) (And.intro rfl (And.intro rfl (And.intro rfl (And.intro rfl (And.intro rfl (And.intro rfl (And.intro rfl trivial))))))) ?_
    exact hX24 (1) ((102 * a1 + a2)) ((a3 + 1)) h  hb0 H
  · replace H := H.1 c
    refine A_iconst d_MD_groupCost_6 rfl ?_
    exact A_iret d_MD_groupCost_7 (by decide) rfl H
theorem c_MD_groupCost {G : cx_T} {s : Nat} {a1 : Int} {a2 : Int} {a3 : Int} {a4 : Int} {h : ah_T} {Q : Option av_T → ah_T → Prop} {X24 : Int → Int → Int → ah_T → Prop} (hX24 : ∀ (v5 : Int) (v6 : Int) (v7 : Int) (h : ah_T), hb s h → X24 v5 v6 v7 h → aw G (rm_R 3 0 0) m_MD_groupCost 0 0 24 [some (av_R (some 170)), some (av_I a1), none, some (av_I a3), some (av_I a4), some (av_I v5), some (av_I v6), some (av_I v7), none, none] [] h Q) (hb0 : hb s h) (H : i32 a1 → i32 a2 → i32 a3 → i32 a4 → B_MD_groupCost_0 G s a1 a2 a3 a4 h Q X24) : con G 3 0 0 m_MD_groupCost [av_R (some 170), av_I a1, av_I a2, av_I a3, av_I a4] h Q := by
  have hS : isS s := hb0.2.1
  refine con_of (L := [some (av_R (some 170)), some (av_I a1), some (av_I a2), some (av_I a3), some (av_I a4), none, none, none, none, none]) (by decide +kernel) (Nat.le_of_ble_eq_true rfl) rfl ?_
  refine A_locI 1 rfl (fun ra1 => ?_)
  refine A_locI 2 rfl (fun ra2 => ?_)
  refine A_locI 3 rfl (fun ra3 => ?_)
  refine A_locI 4 rfl (fun ra4 => ?_)
  exact b_MD_groupCost_0  hX24 hb0 (H ra1 ra2 ra3 ra4)
def B_MD_run_131 (G : cx_T) (s : Nat) (a1 : Int) (a2 : Int) (a3 : Int) (a4 : Int) (v5 : Int) (h : ah_T) (Q : Option av_T → ah_T → Prop) (X131 : Int → ah_T → Prop) : Prop :=
 ((a4 ≤ v5 → ∀ x2 : Int, x2 = h.2.1 226 0 → -2147483648 ≤ x2 → x2 ≤ 2147483647 → Q (some (av_I x2)) h) ∧ (¬ a4 ≤ v5 → ∀ x4 : Int, x4 = h.2.1 170 85 → -2147483648 ≤ x4 → x4 ≤ 2147483647 → ((-2147483648) ≤ (v5 - a3) ∧ (v5 - a3) ≤ 2147483647) ∧ (0 ≤ (v5 - a3) ∧ (v5 - a3) < 340) ∧ ∀ x7 : Int, x7 = h.2.1 227 ((v5 - a3)).toNat → -2147483648 ≤ x7 → x7 ≤ 2147483647 → (0 ≤ x4 ∧ x4 < 16) ∧ ∀ h10 : ah_T, h10 = st_i h 225 (x4).toNat x7 → ((-2147483648) ≤ (x4 + 1) ∧ (x4 + 1) ≤ 2147483647) ∧ ∀ h14 : ah_T, h14 = st_i h10 170 85 (x4 + 1) → ((-2147483648) ≤ (v5 + x7) ∧ (v5 + x7) ≤ 2147483647) ∧ X131 ((v5 + x7)) h14))
theorem b_MD_run_131 {G : cx_T} {s : Nat} {a1 : Int} {a2 : Int} {a3 : Int} {a4 : Int} {v5 : Int} {h : ah_T} {Q : Option av_T → ah_T → Prop} {X131 : Int → ah_T → Prop} (hX131 : ∀ (v5 : Int) (h : ah_T), hb s h → X131 v5 h → aw G (rm_R 4 0 0) m_MD_run 0 0 131 [some (av_R (some 170)), none, none, some (av_I a3), some (av_I a4), some (av_I v5), none, none, none] [] h Q) (hb0 : hb s h) (H : B_MD_run_131 G s a1 a2 a3 a4 v5 h Q X131) : aw G (rm_R 4 0 0) m_MD_run 0 0 131 [some (av_R (some 170)), none, none, some (av_I a3), some (av_I a4), some (av_I v5), none, none, none] [] h Q := by
  unfold B_MD_run_131 at H
  have hS : isS s := hb0.2.1
  refine A_iload d_MD_run_131 rfl ?_
  refine A_iload d_MD_run_133 rfl ?_
  refine A_icmp_ge (tgt := 183) d_MD_run_135 (by decide) (fun c => ?_) (fun c => ?_)
  · replace H := H.1 c
    refine A_aload_n 0 d_MD_run_183 rfl rfl ?_
    refine A_getAv (z := some 226) T_ok d_MD_run_184 f_MD_181 (hb_s hb0 sf_170) (hb_m hb0 rfm_87) ?_
    refine A_iconst d_MD_run_187 rfl ?_
    refine A_ialoadf d_MD_run_188 (hb_s hb0 sf_226) (by decide) (by decide) (fun x2 ex2 lx2 ux2 => ?_)
    replace H := H x2 ex2 lx2 ux2
    exact A_iret d_MD_run_189 (by decide) rfl H
  · replace H := H.2 c
    refine A_aload_n 0 d_MD_run_138 rfl rfl ?_
    refine A_getAv (z := some 225) T_ok d_MD_run_139 f_MD_178 (hb_s hb0 sf_170) (hb_m hb0 rfm_86) ?_
    refine A_aload_n 0 d_MD_run_142 rfl rfl ?_
    refine A_getIf T_ok d_MD_run_143 f_MD_474 (hb_s hb0 sf_170) (fun x4 ex4 lx4 ux4 => ?_)
    replace H := H x4 ex4 lx4 ux4
    refine A_aload_n 0 d_MD_run_146 rfl rfl ?_
    refine A_pc (pc' := 147) rfl ?_
    refine A_getAv (z := some 227) T_ok d_MD_run_147 f_MD_184 (hb_s hb0 sf_170) (hb_m hb0 rfm_88) ?_
    refine A_iload d_MD_run_150 rfl ?_
    refine A_iload_n 3 d_MD_run_152 rfl rfl ?_
    have g6 := H.1
    replace H := H.2
    refine A_isubv (z := (v5 - a3)) d_MD_run_153 (w32_to (by omega) (by unfold i32; omega)) ?_
    have g8 := H.1
    replace H := H.2
    refine A_ialoadf d_MD_run_154 (hb_s hb0 sf_227) g8.1 g8.2 (fun x7 ex7 lx7 ux7 => ?_)
    replace H := H x7 ex7 lx7 ux7
    have g9 := H.1
    replace H := H.2
    refine A_iastoreN d_MD_run_155 (hb_s hb0 sf_225) g9.1 g9.2 ?_
    refine A_hn (fun h10 eh10 => ?_)
    have hb11 := hb_i hb0 eh10
    replace H := H h10 eh10
    refine A_pc (pc' := 156) rfl ?_
    refine A_aload_n 0 d_MD_run_156 rfl rfl ?_
    refine A_dupR d_MD_run_157 ?_
    refine A_getIv (z := x4) T_ok d_MD_run_158 f_MD_474 (hb_s hb11 sf_170) ((mm_i eh10 (fun q => absurd q.1 (by decide))).trans ex4.symm) ?_
    refine A_iconst d_MD_run_161 rfl ?_
    have g13 := H.1
    replace H := H.2
    refine A_iaddv (z := (x4 + 1)) d_MD_run_162 (w32_to (by omega) (by unfold i32; omega)) ?_
    refine A_putI T_ok d_MD_run_163 f_MD_474 (hb_s hb11 sf_170) fin_f ?_
    refine A_hn (fun h14 eh14 => ?_)
    have hb15 := hb_i hb11 eh14
    replace H := H h14 eh14
    refine A_pc (pc' := 166) rfl ?_
    refine A_iload d_MD_run_166 rfl ?_
    refine A_aload_n 0 d_MD_run_168 rfl rfl ?_
    refine A_getAv (z := some 227) T_ok d_MD_run_169 f_MD_184 (hb_s hb15 sf_170) (hb_m hb15 rfm_88) ?_
    refine A_iload d_MD_run_172 rfl ?_
    refine A_iload_n 3 d_MD_run_174 rfl rfl ?_
    refine A_isubv (z := (v5 - a3)) d_MD_run_175 (w32_to (by omega) (by unfold i32; omega)) ?_
    refine A_pc (pc' := 176) rfl ?_
    refine A_ialoadv (z := x7) d_MD_run_176 (hb_s hb15 sf_227) (by omega) (by omega) ((mm_i eh14 (fun q => absurd q.1 (by decide))).trans ((mm_i eh10 (fun q => absurd q.1 (by decide))).trans ex7.symm)) ?_
    have g18 := H.1
    replace H := H.2
    refine A_iaddv (z := (v5 + x7)) d_MD_run_177 (w32_to (by omega) (by unfold i32; omega)) ?_
    refine A_istore (L' := [some (av_R (some 170)), none, none, some (av_I a3), some (av_I a4), some (av_I (v5 + x7)), none, none, none]) d_MD_run_178 (Nat.le_of_ble_eq_true rfl) rfl ?_
    refine A_goto (tgt := 131) d_MD_run_180 (by decide) ?_
    refine A_pc (pc' := 131) rfl ?_
    exact hX131 ((v5 + x7)) h14  hb15 H
theorem lp_MD_run_131 {G : cx_T} {s : Nat} {a1 : Int} {a2 : Int} {a3 : Int} {a4 : Int} {Q : Option av_T → ah_T → Prop} (I : Int → ah_T → Prop) (μ : Int → ah_T → Nat) (hI : ∀ (v5 : Int) (h : ah_T), hb s h → I v5 h → B_MD_run_131 G s a1 a2 a3 a4 v5 h Q (fun v5' h' => I v5' h' ∧ μ v5' h' < μ v5 h)) : ∀ (v5 : Int) (h : ah_T), hb s h → I v5 h → aw G (rm_R 4 0 0) m_MD_run 0 0 131 [some (av_R (some 170)), none, none, some (av_I a3), some (av_I a4), some (av_I v5), none, none, none] [] h Q := by
  have key : ∀ (n : Nat) (v5 : Int) (h : ah_T), hb s h → I v5 h → μ v5 h < n → aw G (rm_R 4 0 0) m_MD_run 0 0 131 [some (av_R (some 170)), none, none, some (av_I a3), some (av_I a4), some (av_I v5), none, none, none] [] h Q := by
    intro n
    induction n with
    | zero => intro v5 h  hb0 hi hm; omega
    | succ n ih => intro v5 h  hb0 hi hm; exact b_MD_run_131  (fun v5' h'  hb' hx => ih v5' h'  hb' hx.1 (by have := hx.2; omega))  hb0 (hI v5 h  hb0 hi)
  exact fun v5 h  hb0 hi => key _ v5 h  hb0 hi (Nat.lt_succ_self _)
def B_MD_run_111 (G : cx_T) (s : Nat) (a1 : Int) (a2 : Int) (a3 : Int) (a4 : Int) (v5 : Int) (v6 : Int) (h : ah_T) (Q : Option av_T → ah_T → Prop) (X16 : Int → ah_T → Prop) : Prop :=
 ((-2147483648) ≤ (v5 - a3) ∧ (v5 - a3) ≤ 2147483647) ∧ (0 ≤ (v5 - a3) ∧ (v5 - a3) < 340) ∧ ∀ h4 : ah_T, h4 = st_i h 227 ((v5 - a3)).toNat v6 → ((-2147483648) ≤ (v5 - 1) ∧ (v5 - 1) ≤ 2147483647) ∧ X16 ((v5 - 1)) h4
theorem b_MD_run_111 {G : cx_T} {s : Nat} {a1 : Int} {a2 : Int} {a3 : Int} {a4 : Int} {v5 : Int} {v6 : Int} {h : ah_T} {Q : Option av_T → ah_T → Prop} {X16 : Int → ah_T → Prop} (hX16 : ∀ (v5 : Int) (h : ah_T), hb s h → X16 v5 h → aw G (rm_R 4 0 0) m_MD_run 0 0 16 [some (av_R (some 170)), some (av_I a1), some (av_I a2), some (av_I a3), some (av_I a4), some (av_I v5), none, none, none] [] h Q) (hb0 : hb s h) (H : B_MD_run_111 G s a1 a2 a3 a4 v5 v6 h Q X16) : aw G (rm_R 4 0 0) m_MD_run 0 0 111 [some (av_R (some 170)), some (av_I a1), some (av_I a2), some (av_I a3), some (av_I a4), some (av_I v5), some (av_I v6), none, none] [] h Q := by
  unfold B_MD_run_111 at H
  have hS : isS s := hb0.2.1
  refine A_aload_n 0 d_MD_run_111 rfl rfl ?_
  refine A_getAv (z := some 227) T_ok d_MD_run_112 f_MD_184 (hb_s hb0 sf_170) (hb_m hb0 rfm_88) ?_
  refine A_iload d_MD_run_115 rfl ?_
  refine A_iload_n 3 d_MD_run_117 rfl rfl ?_
  have g2 := H.1
  replace H := H.2
  refine A_isubv (z := (v5 - a3)) d_MD_run_118 (w32_to (by omega) (by unfold i32; omega)) ?_
  refine A_pc (pc' := 119) rfl ?_
  refine A_iload d_MD_run_119 rfl ?_
  have g3 := H.1
  replace H := H.2
  refine A_iastoreN d_MD_run_121 (hb_s hb0 sf_227) g3.1 g3.2 ?_
  refine A_hn (fun h4 eh4 => ?_)
  have hb5 := hb_i hb0 eh4
  replace H := H h4 eh4
  have g6 := H.1
  replace H := H.2
  refine A_iincv (z := (v5 - 1)) (L' := [some (av_R (some 170)), some (av_I a1), some (av_I a2), some (av_I a3), some (av_I a4), some (av_I (v5 - 1)), some (av_I v6), none, none]) d_MD_run_122 rfl (w32_to (by omega) (by unfold i32; omega)) rfl ?_
  refine A_goto (tgt := 16) d_MD_run_125 (by decide) ?_
  refine A_pc (pc' := 16) rfl ?_
  refine A_free (L' := [some (av_R (some 170)), some (av_I a1), some (av_I a2), some (av_I a3), some (av_I a4), some (av_I (v5 - 1)), none, none, none]) (And.intro rfl (And.intro rfl (And.intro rfl (And.intro rfl (And.intro rfl (And.intro rfl trivial)))))) ?_
  exact hX16 ((v5 - 1)) h4  hb5 H
def B_MD_run_105 (G : cx_T) (s : Nat) (a1 : Int) (a2 : Int) (a3 : Int) (a4 : Int) (v5 : Int) (v6 : Int) (v7 : Int) (h : ah_T) (Q : Option av_T → ah_T → Prop) (X29 : Int → Int → Int → ah_T → Prop) : Prop :=
 ((-2147483648) ≤ (v7 + 1) ∧ (v7 + 1) ≤ 2147483647) ∧ X29 (v5) (v6) ((v7 + 1)) h
theorem b_MD_run_105 {G : cx_T} {s : Nat} {a1 : Int} {a2 : Int} {a3 : Int} {a4 : Int} {v5 : Int} {v6 : Int} {v7 : Int} {h : ah_T} {Q : Option av_T → ah_T → Prop} {X29 : Int → Int → Int → ah_T → Prop} (hX29 : ∀ (v5 : Int) (v6 : Int) (v7 : Int) (h : ah_T), hb s h → X29 v5 v6 v7 h → aw G (rm_R 4 0 0) m_MD_run 0 0 29 [some (av_R (some 170)), some (av_I a1), some (av_I a2), some (av_I a3), some (av_I a4), some (av_I v5), some (av_I v6), some (av_I v7), none] [] h Q) (hb0 : hb s h) (H : B_MD_run_105 G s a1 a2 a3 a4 v5 v6 v7 h Q X29) : aw G (rm_R 4 0 0) m_MD_run 0 0 105 [some (av_R (some 170)), some (av_I a1), some (av_I a2), some (av_I a3), some (av_I a4), some (av_I v5), some (av_I v6), some (av_I v7), none] [] h Q := by
  unfold B_MD_run_105 at H
  have hS : isS s := hb0.2.1
  have g1 := H.1
  replace H := H.2
  refine A_iincv (z := (v7 + 1)) (L' := [some (av_R (some 170)), some (av_I a1), some (av_I a2), some (av_I a3), some (av_I a4), some (av_I v5), some (av_I v6), some (av_I (v7 + 1)), none]) d_MD_run_105 rfl (w32_to (by omega) (by unfold i32; omega)) rfl ?_
  refine A_goto (tgt := 29) d_MD_run_108 (by decide) ?_
  refine A_pc (pc' := 29) rfl ?_
  exact hX29 (v5) (v6) ((v7 + 1)) h  hb0 H
def B_MD_run_90 (G : cx_T) (s : Nat) (a1 : Int) (a2 : Int) (a3 : Int) (a4 : Int) (v5 : Int) (v7 : Int) (v8 : Int) (h : ah_T) (Q : Option av_T → ah_T → Prop) (X29 : Int → Int → Int → ah_T → Prop) : Prop :=
 ((-2147483648) ≤ (v5 - a3) ∧ (v5 - a3) ≤ 2147483647) ∧ (0 ≤ (v5 - a3) ∧ (v5 - a3) < 340) ∧ ∀ h4 : ah_T, h4 = st_i h 226 ((v5 - a3)).toNat v8 → B_MD_run_105 G s a1 a2 a3 a4 (v5) (v7) (v7) h4 Q X29
theorem b_MD_run_90 {G : cx_T} {s : Nat} {a1 : Int} {a2 : Int} {a3 : Int} {a4 : Int} {v5 : Int} {v7 : Int} {v8 : Int} {h : ah_T} {Q : Option av_T → ah_T → Prop} {X29 : Int → Int → Int → ah_T → Prop} (hX29 : ∀ (v5 : Int) (v6 : Int) (v7 : Int) (h : ah_T), hb s h → X29 v5 v6 v7 h → aw G (rm_R 4 0 0) m_MD_run 0 0 29 [some (av_R (some 170)), some (av_I a1), some (av_I a2), some (av_I a3), some (av_I a4), some (av_I v5), some (av_I v6), some (av_I v7), none] [] h Q) (hb0 : hb s h) (H : B_MD_run_90 G s a1 a2 a3 a4 v5 v7 v8 h Q X29) : aw G (rm_R 4 0 0) m_MD_run 0 0 90 [some (av_R (some 170)), some (av_I a1), some (av_I a2), some (av_I a3), some (av_I a4), some (av_I v5), none, some (av_I v7), some (av_I v8)] [] h Q := by
  unfold B_MD_run_90 at H
  have hS : isS s := hb0.2.1
  refine A_iload d_MD_run_90 rfl ?_
  refine A_istore (L' := [some (av_R (some 170)), some (av_I a1), some (av_I a2), some (av_I a3), some (av_I a4), some (av_I v5), some (av_I v7), some (av_I v7), some (av_I v8)]) d_MD_run_92 (Nat.le_of_ble_eq_true rfl) rfl ?_
  refine A_aload_n 0 d_MD_run_94 rfl rfl ?_
  refine A_getAv (z := some 226) T_ok d_MD_run_95 f_MD_181 (hb_s hb0 sf_170) (hb_m hb0 rfm_87) ?_
  refine A_iload d_MD_run_98 rfl ?_
  refine A_pc (pc' := 100) rfl ?_
  refine A_iload_n 3 d_MD_run_100 rfl rfl ?_
  have g2 := H.1
  replace H := H.2
  refine A_isubv (z := (v5 - a3)) d_MD_run_101 (w32_to (by omega) (by unfold i32; omega)) ?_
  refine A_iload d_MD_run_102 rfl ?_
  have g3 := H.1
  replace H := H.2
  refine A_iastoreN d_MD_run_104 (hb_s hb0 sf_226) g3.1 g3.2 ?_
  refine A_hn (fun h4 eh4 => ?_)
  have hb5 := hb_i hb0 eh4
  replace H := H h4 eh4
  refine A_pc (pc' := 105) rfl ?_
  refine A_free (L' := [some (av_R (some 170)), some (av_I a1), some (av_I a2), some (av_I a3), some (av_I a4), some (av_I v5), some (av_I v7), some (av_I v7), none]) (And.intro rfl (And.intro rfl (And.intro rfl (And.intro rfl (And.intro rfl (And.intro rfl (And.intro rfl (And.intro rfl trivial)))))))) ?_
  exact b_MD_run_105  hX29  hb5 H
def B_MD_run_29 (G : cx_T) (s : Nat) (a1 : Int) (a2 : Int) (a3 : Int) (a4 : Int) (v5 : Int) (v6 : Int) (v7 : Int) (h : ah_T) (Q : Option av_T → ah_T → Prop) (X16 : Int → ah_T → Prop) (X29 : Int → Int → Int → ah_T → Prop) : Prop :=
 ((6 < v7 → B_MD_run_111 G s a1 a2 a3 a4 (v5) (v6) h Q X16) ∧ (¬ 6 < v7 → ((-2147483648) ≤ (v5 + v7) ∧ (v5 + v7) ≤ 2147483647) ∧ ((a4 < (v5 + v7) → B_MD_run_111 G s a1 a2 a3 a4 (v5) (v6) h Q X16) ∧ (¬ a4 < (v5 + v7) → con G 3 0 0 m_MD_groupCost [av_R (some 170), av_I a1, av_I a2, av_I v5, av_I v7] h (fun r h2 => ∃ z4 : Int, r = some (av_I z4) ∧ hb s h2 ∧ ((-2147483648) ≤ (v5 + v7 - a3) ∧ (v5 + v7 - a3) ≤ 2147483647) ∧ (0 ≤ (v5 + v7 - a3) ∧ (v5 + v7 - a3) < 340) ∧ ∀ x7 : Int, x7 = h2.2.1 226 ((v5 + v7 - a3)).toNat → -2147483648 ≤ x7 → x7 ≤ 2147483647 → ((-2147483648) ≤ (z4 + x7) ∧ (z4 + x7) ≤ 2147483647) ∧ ((v6 < 0 → B_MD_run_90 G s a1 a2 a3 a4 (v5) (v7) ((z4 + x7)) h2 Q X29) ∧ (¬ v6 < 0 → ((-2147483648) ≤ (v5 - a3) ∧ (v5 - a3) ≤ 2147483647) ∧ (0 ≤ (v5 - a3) ∧ (v5 - a3) < 340) ∧ ∀ x12 : Int, x12 = h2.2.1 226 ((v5 - a3)).toNat → -2147483648 ≤ x12 → x12 ≤ 2147483647 → ((x12 < (z4 + x7) → B_MD_run_105 G s a1 a2 a3 a4 (v5) (v6) (v7) h2 Q X29) ∧ (¬ x12 < (z4 + x7) → B_MD_run_90 G s a1 a2 a3 a4 (v5) (v7) ((z4 + x7)) h2 Q X29)))))))))
theorem b_MD_run_29 {G : cx_T} {s : Nat} {a1 : Int} {a2 : Int} {a3 : Int} {a4 : Int} {v5 : Int} {v6 : Int} {v7 : Int} {h : ah_T} {Q : Option av_T → ah_T → Prop} {X16 : Int → ah_T → Prop} {X29 : Int → Int → Int → ah_T → Prop} (hX16 : ∀ (v5 : Int) (h : ah_T), hb s h → X16 v5 h → aw G (rm_R 4 0 0) m_MD_run 0 0 16 [some (av_R (some 170)), some (av_I a1), some (av_I a2), some (av_I a3), some (av_I a4), some (av_I v5), none, none, none] [] h Q) (hX29 : ∀ (v5 : Int) (v6 : Int) (v7 : Int) (h : ah_T), hb s h → X29 v5 v6 v7 h → aw G (rm_R 4 0 0) m_MD_run 0 0 29 [some (av_R (some 170)), some (av_I a1), some (av_I a2), some (av_I a3), some (av_I a4), some (av_I v5), some (av_I v6), some (av_I v7), none] [] h Q) (hb0 : hb s h) (H : B_MD_run_29 G s a1 a2 a3 a4 v5 v6 v7 h Q X16 X29) : aw G (rm_R 4 0 0) m_MD_run 0 0 29 [some (av_R (some 170)), some (av_I a1), some (av_I a2), some (av_I a3), some (av_I a4), some (av_I v5), some (av_I v6), some (av_I v7), none] [] h Q := by
  unfold B_MD_run_29 at H
  have hS : isS s := hb0.2.1
  refine A_iload d_MD_run_29 rfl ?_
  refine A_bipush d_MD_run_31 rfl ?_
  refine A_icmp_gt (tgt := 111) d_MD_run_33 (by decide) (fun c => ?_) (fun c => ?_)
  · replace H := H.1 c
    refine A_pc (pc' := 111) rfl ?_
    refine A_free (L' := [some (av_R (some 170)), some (av_I a1), some (av_I a2), some (av_I a3), some (av_I a4), some (av_I v5), some (av_I v6), none, none]) (And.intro rfl (And.intro rfl (And.intro rfl (And.intro rfl (And.intro rfl (And.intro rfl (And.intro rfl trivial))))))) ?_
    exact b_MD_run_111  hX16  hb0 H
  · replace H := H.2 c
    refine A_iload d_MD_run_36 rfl ?_
    refine A_iload d_MD_run_38 rfl ?_
    have g1 := H.1
    replace H := H.2
    refine A_iaddv (z := (v5 + v7)) d_MD_run_40 (w32_to (by omega) (by unfold i32; omega)) ?_
    refine A_iload d_MD_run_41 rfl ?_
    refine A_icmp_gt (tgt := 111) d_MD_run_43 (by decide) (fun c => ?_) (fun c => ?_)
    · replace H := H.1 c
      refine A_pc (pc' := 111) rfl ?_
      refine A_free (L' := [some (av_R (some 170)), some (av_I a1), some (av_I a2), some (av_I a3), some (av_I a4), some (av_I v5), some (av_I v6), none, none]) (And.intro rfl (And.intro rfl (And.intro rfl (And.intro rfl (And.intro rfl (And.intro rfl (And.intro rfl trivial))))))) ?_
      exact b_MD_run_111  hX16  hb0 H
    · replace H := H.2 c
      refine A_aload_n 0 d_MD_run_46 rfl rfl ?_
      refine A_iload_n 1 d_MD_run_47 rfl rfl ?_
      refine A_iload_n 2 d_MD_run_48 rfl rfl ?_
      refine A_iload d_MD_run_49 rfl ?_
      refine A_iload d_MD_run_51 rfl ?_
      refine A_pc (pc' := 53) rfl ?_
      refine A_callV4 m_MD_groupCost T_ok d_MD_run_53 l_MD_545 k_MD_groupCost (hb_s hb0 sf_170) rfl (by decide +kernel) (by decide) (Nat.le_of_ble_eq_true rfl) H (fun r h2 hq => ?_)
      clear H
      obtain ⟨z4, rfl, hb3, H⟩ := hq
      refine A_aload_n 0 d_MD_run_56 rfl rfl ?_
      refine A_getAv (z := some 226) T_ok d_MD_run_57 f_MD_181 (hb_s hb3 sf_170) (hb_m hb3 rfm_87) ?_
      refine A_iload d_MD_run_60 rfl ?_
      refine A_iload d_MD_run_62 rfl ?_
      refine A_iaddv (z := (v5 + v7)) d_MD_run_64 (w32_to (by omega) (by unfold i32; omega)) ?_
      refine A_pc (pc' := 65) rfl ?_
      refine A_iload_n 3 d_MD_run_65 rfl rfl ?_
      have g6 := H.1
      replace H := H.2
      refine A_isubv (z := (v5 + v7 - a3)) d_MD_run_66 (w32_to (by omega) (by unfold i32; omega)) ?_
      have g8 := H.1
      replace H := H.2
      refine A_ialoadf d_MD_run_67 (hb_s hb3 sf_226) g8.1 g8.2 (fun x7 ex7 lx7 ux7 => ?_)
      replace H := H x7 ex7 lx7 ux7
      have g9 := H.1
      replace H := H.2
      refine A_iaddv (z := (z4 + x7)) d_MD_run_68 (w32_to (by omega) (by unfold i32; omega)) ?_
      refine A_istore (L' := [some (av_R (some 170)), some (av_I a1), some (av_I a2), some (av_I a3), some (av_I a4), some (av_I v5), some (av_I v6), some (av_I v7), some (av_I (z4 + x7))]) d_MD_run_69 (Nat.le_of_ble_eq_true rfl) rfl ?_
      refine A_iload d_MD_run_71 rfl ?_
      refine A_pc (pc' := 73) rfl ?_
      refine A_if_lt (tgt := 90) d_MD_run_73 (by decide) (fun c => ?_) (fun c => ?_)
      · replace H := H.1 c
        refine A_pc (pc' := 90) rfl ?_
        refine A_free (L' := [some (av_R (some 170)), some (av_I a1), some (av_I a2), some (av_I a3), some (av_I a4), some (av_I v5), none, some (av_I v7), some (av_I (z4 + x7))]) (And.intro rfl (And.intro rfl (And.intro rfl (And.intro rfl (And.intro rfl (And.intro rfl (And.intro rfl (And.intro rfl trivial)))))))) ?_
        exact b_MD_run_90  hX29  hb3 H
      · replace H := H.2 c
        refine A_iload d_MD_run_76 rfl ?_
        refine A_aload_n 0 d_MD_run_78 rfl rfl ?_
        refine A_getAv (z := some 226) T_ok d_MD_run_79 f_MD_181 (hb_s hb3 sf_170) (hb_m hb3 rfm_87) ?_
        refine A_iload d_MD_run_82 rfl ?_
        refine A_iload_n 3 d_MD_run_84 rfl rfl ?_
        refine A_pc (pc' := 85) rfl ?_
        have g11 := H.1
        replace H := H.2
        refine A_isubv (z := (v5 - a3)) d_MD_run_85 (w32_to (by omega) (by unfold i32; omega)) ?_
        have g13 := H.1
        replace H := H.2
        refine A_ialoadf d_MD_run_86 (hb_s hb3 sf_226) g13.1 g13.2 (fun x12 ex12 lx12 ux12 => ?_)
        replace H := H x12 ex12 lx12 ux12
        refine A_icmp_gt (tgt := 105) d_MD_run_87 (by decide) (fun c => ?_) (fun c => ?_)
        · replace H := H.1 c
          refine A_pc (pc' := 105) rfl ?_
          refine A_free (L' := [some (av_R (some 170)), some (av_I a1), some (av_I a2), some (av_I a3), some (av_I a4), some (av_I v5), some (av_I v6), some (av_I v7), none]) (And.intro rfl (And.intro rfl (And.intro rfl (And.intro rfl (And.intro rfl (And.intro rfl (And.intro rfl (And.intro rfl trivial)))))))) ?_
          exact b_MD_run_105  hX29  hb3 H
        · replace H := H.2 c
          refine A_pc (pc' := 90) rfl ?_
          refine A_free (L' := [some (av_R (some 170)), some (av_I a1), some (av_I a2), some (av_I a3), some (av_I a4), some (av_I v5), none, some (av_I v7), some (av_I (z4 + x7))]) (And.intro rfl (And.intro rfl (And.intro rfl (And.intro rfl (And.intro rfl (And.intro rfl (And.intro rfl (And.intro rfl trivial)))))))) ?_
          exact b_MD_run_90  hX29  hb3 H
theorem lp_MD_run_29 {G : cx_T} {s : Nat} {a1 : Int} {a2 : Int} {a3 : Int} {a4 : Int} {Q : Option av_T → ah_T → Prop} {X16 : Int → ah_T → Prop} (hX16 : ∀ (v5 : Int) (h : ah_T), hb s h → X16 v5 h → aw G (rm_R 4 0 0) m_MD_run 0 0 16 [some (av_R (some 170)), some (av_I a1), some (av_I a2), some (av_I a3), some (av_I a4), some (av_I v5), none, none, none] [] h Q) (I : Int → Int → Int → ah_T → Prop) (μ : Int → Int → Int → ah_T → Nat) (hI : ∀ (v5 : Int) (v6 : Int) (v7 : Int) (h : ah_T), hb s h → I v5 v6 v7 h → B_MD_run_29 G s a1 a2 a3 a4 v5 v6 v7 h Q X16 (fun v5' v6' v7' h' => I v5' v6' v7' h' ∧ μ v5' v6' v7' h' < μ v5 v6 v7 h)) : ∀ (v5 : Int) (v6 : Int) (v7 : Int) (h : ah_T), hb s h → I v5 v6 v7 h → aw G (rm_R 4 0 0) m_MD_run 0 0 29 [some (av_R (some 170)), some (av_I a1), some (av_I a2), some (av_I a3), some (av_I a4), some (av_I v5), some (av_I v6), some (av_I v7), none] [] h Q := by
  have key : ∀ (n : Nat) (v5 : Int) (v6 : Int) (v7 : Int) (h : ah_T), hb s h → I v5 v6 v7 h → μ v5 v6 v7 h < n → aw G (rm_R 4 0 0) m_MD_run 0 0 29 [some (av_R (some 170)), some (av_I a1), some (av_I a2), some (av_I a3), some (av_I a4), some (av_I v5), some (av_I v6), some (av_I v7), none] [] h Q := by
    intro n
    induction n with
    | zero => intro v5 v6 v7 h  hb0 hi hm; omega
    | succ n ih => intro v5 v6 v7 h  hb0 hi hm; exact b_MD_run_29  hX16 (fun v5' v6' v7' h'  hb' hx => ih v5' v6' v7' h'  hb' hx.1 (by have := hx.2; omega))  hb0 (hI v5 v6 v7 h  hb0 hi)
  exact fun v5 v6 v7 h  hb0 hi => key _ v5 v6 v7 h  hb0 hi (Nat.lt_succ_self _)
def B_MD_run_16 (G : cx_T) (s : Nat) (a1 : Int) (a2 : Int) (a3 : Int) (a4 : Int) (v5 : Int) (h : ah_T) (Q : Option av_T → ah_T → Prop) (X29 : Int → Int → Int → ah_T → Prop) (X131 : Int → ah_T → Prop) : Prop :=
 ((v5 < a3 → X131 (a3) h) ∧ (¬ v5 < a3 → X29 (v5) ((-2)) (1) h))
theorem b_MD_run_16 {G : cx_T} {s : Nat} {a1 : Int} {a2 : Int} {a3 : Int} {a4 : Int} {v5 : Int} {h : ah_T} {Q : Option av_T → ah_T → Prop} {X29 : Int → Int → Int → ah_T → Prop} {X131 : Int → ah_T → Prop} (hX29 : ∀ (v5 : Int) (v6 : Int) (v7 : Int) (h : ah_T), hb s h → X29 v5 v6 v7 h → aw G (rm_R 4 0 0) m_MD_run 0 0 29 [some (av_R (some 170)), some (av_I a1), some (av_I a2), some (av_I a3), some (av_I a4), some (av_I v5), some (av_I v6), some (av_I v7), none] [] h Q) (hX131 : ∀ (v5 : Int) (h : ah_T), hb s h → X131 v5 h → aw G (rm_R 4 0 0) m_MD_run 0 0 131 [some (av_R (some 170)), none, none, some (av_I a3), some (av_I a4), some (av_I v5), none, none, none] [] h Q) (hb0 : hb s h) (H : B_MD_run_16 G s a1 a2 a3 a4 v5 h Q X29 X131) : aw G (rm_R 4 0 0) m_MD_run 0 0 16 [some (av_R (some 170)), some (av_I a1), some (av_I a2), some (av_I a3), some (av_I a4), some (av_I v5), none, none, none] [] h Q := by
  unfold B_MD_run_16 at H
  have hS : isS s := hb0.2.1
  refine A_iload d_MD_run_16 rfl ?_
  refine A_iload_n 3 d_MD_run_18 rfl rfl ?_
  refine A_icmp_lt (tgt := 128) d_MD_run_19 (by decide) (fun c => ?_) (fun c => ?_)
  · replace H := H.1 c
    refine A_iload_n 3 d_MD_run_128 rfl rfl ?_
    refine A_istore (L' := [some (av_R (some 170)), some (av_I a1), some (av_I a2), some (av_I a3), some (av_I a4), some (av_I a3), none, none, none]) d_MD_run_129 (Nat.le_of_ble_eq_true rfl) rfl ?_
    refine A_pc (pc' := 131) rfl ?_
    refine A_free (L' := [some (av_R (some 170)), none, none, some (av_I a3), some (av_I a4), some (av_I a3), none, none, none]) (And.intro rfl (And.intro rfl (And.intro rfl (And.intro rfl trivial)))) ?_
    exact hX131 (a3) h  hb0 H
  · replace H := H.2 c
    refine A_bipush d_MD_run_22 rfl ?_
    refine A_istore (L' := [some (av_R (some 170)), some (av_I a1), some (av_I a2), some (av_I a3), some (av_I a4), some (av_I v5), some (av_I (-2)), none, none]) d_MD_run_24 (Nat.le_of_ble_eq_true rfl) rfl ?_
    refine A_iconst d_MD_run_26 rfl ?_
    refine A_istore (L' := [some (av_R (some 170)), some (av_I a1), some (av_I a2), some (av_I a3), some (av_I a4), some (av_I v5), some (av_I (-2)), some (av_I 1), none]) d_MD_run_27 (Nat.le_of_ble_eq_true rfl) rfl ?_
    refine A_pc (pc' := 29) rfl ?_
    exact hX29 (v5) ((-2)) (1) h  hb0 H
theorem lp_MD_run_16 {G : cx_T} {s : Nat} {a1 : Int} {a2 : Int} {a3 : Int} {a4 : Int} {Q : Option av_T → ah_T → Prop} {X29 : Int → Int → Int → ah_T → Prop} {X131 : Int → ah_T → Prop} (hX29 : ∀ (v5 : Int) (v6 : Int) (v7 : Int) (h : ah_T), hb s h → X29 v5 v6 v7 h → aw G (rm_R 4 0 0) m_MD_run 0 0 29 [some (av_R (some 170)), some (av_I a1), some (av_I a2), some (av_I a3), some (av_I a4), some (av_I v5), some (av_I v6), some (av_I v7), none] [] h Q) (hX131 : ∀ (v5 : Int) (h : ah_T), hb s h → X131 v5 h → aw G (rm_R 4 0 0) m_MD_run 0 0 131 [some (av_R (some 170)), none, none, some (av_I a3), some (av_I a4), some (av_I v5), none, none, none] [] h Q) (I : Int → ah_T → Prop) (μ : Int → ah_T → Nat) (hI : ∀ (v5 : Int) (h : ah_T), hb s h → I v5 h → B_MD_run_16 G s a1 a2 a3 a4 v5 h Q X29 X131) : ∀ (v5 : Int) (h : ah_T), hb s h → I v5 h → aw G (rm_R 4 0 0) m_MD_run 0 0 16 [some (av_R (some 170)), some (av_I a1), some (av_I a2), some (av_I a3), some (av_I a4), some (av_I v5), none, none, none] [] h Q := by
  have key : ∀ (n : Nat) (v5 : Int) (h : ah_T), hb s h → I v5 h → μ v5 h < n → aw G (rm_R 4 0 0) m_MD_run 0 0 16 [some (av_R (some 170)), some (av_I a1), some (av_I a2), some (av_I a3), some (av_I a4), some (av_I v5), none, none, none] [] h Q := by
    intro n
    induction n with
    | zero => intro v5 h  hb0 hi hm; omega
    | succ n ih => intro v5 h  hb0 hi hm; exact b_MD_run_16  hX29 hX131  hb0 (hI v5 h  hb0 hi)
  exact fun v5 h  hb0 hi => key _ v5 h  hb0 hi (Nat.lt_succ_self _)
def B_MD_run_0 (G : cx_T) (s : Nat) (a1 : Int) (a2 : Int) (a3 : Int) (a4 : Int) (h : ah_T) (Q : Option av_T → ah_T → Prop) (X16 : Int → ah_T → Prop) : Prop :=
 ((-2147483648) ≤ (a4 - a3) ∧ (a4 - a3) ≤ 2147483647) ∧ (0 ≤ (a4 - a3) ∧ (a4 - a3) < 340) ∧ ∀ h4 : ah_T, h4 = st_i h 226 ((a4 - a3)).toNat 0 → ((-2147483648) ≤ (a4 - 1) ∧ (a4 - 1) ≤ 2147483647) ∧ X16 ((a4 - 1)) h4
theorem b_MD_run_0 {G : cx_T} {s : Nat} {a1 : Int} {a2 : Int} {a3 : Int} {a4 : Int} {h : ah_T} {Q : Option av_T → ah_T → Prop} {X16 : Int → ah_T → Prop} (hX16 : ∀ (v5 : Int) (h : ah_T), hb s h → X16 v5 h → aw G (rm_R 4 0 0) m_MD_run 0 0 16 [some (av_R (some 170)), some (av_I a1), some (av_I a2), some (av_I a3), some (av_I a4), some (av_I v5), none, none, none] [] h Q) (hb0 : hb s h) (H : B_MD_run_0 G s a1 a2 a3 a4 h Q X16) : aw G (rm_R 4 0 0) m_MD_run 0 0 0 [some (av_R (some 170)), some (av_I a1), some (av_I a2), some (av_I a3), some (av_I a4), none, none, none, none] [] h Q := by
  unfold B_MD_run_0 at H
  have hS : isS s := hb0.2.1
  refine A_aload_n 0 d_MD_run_0 rfl rfl ?_
  refine A_getAv (z := some 226) T_ok d_MD_run_1 f_MD_181 (hb_s hb0 sf_170) (hb_m hb0 rfm_87) ?_
  refine A_iload d_MD_run_4 rfl ?_
  refine A_iload_n 3 d_MD_run_6 rfl rfl ?_
  have g2 := H.1
  replace H := H.2
  refine A_isubv (z := (a4 - a3)) d_MD_run_7 (w32_to (by omega) (by unfold i32; omega)) ?_
  refine A_pc (pc' := 8) rfl ?_
  refine A_iconst d_MD_run_8 rfl ?_
  have g3 := H.1
  replace H := H.2
  refine A_iastoreN d_MD_run_9 (hb_s hb0 sf_226) g3.1 g3.2 ?_
  refine A_hn (fun h4 eh4 => ?_)
  have hb5 := hb_i hb0 eh4
  replace H := H h4 eh4
  refine A_iload d_MD_run_10 rfl ?_
  refine A_iconst d_MD_run_12 rfl ?_
  have g6 := H.1
  replace H := H.2
  refine A_isubv (z := (a4 - 1)) d_MD_run_13 (w32_to (by omega) (by unfold i32; omega)) ?_
  refine A_istore (L' := [some (av_R (some 170)), some (av_I a1), some (av_I a2), some (av_I a3), some (av_I a4), some (av_I (a4 - 1)), none, none, none]) d_MD_run_14 (Nat.le_of_ble_eq_true rfl) rfl ?_
  refine A_pc (pc' := 16) rfl ?_
  exact hX16 ((a4 - 1)) h4  hb5 H
theorem c_MD_run {G : cx_T} {s : Nat} {a1 : Int} {a2 : Int} {a3 : Int} {a4 : Int} {h : ah_T} {Q : Option av_T → ah_T → Prop} {X16 : Int → ah_T → Prop} (hX16 : ∀ (v5 : Int) (h : ah_T), hb s h → X16 v5 h → aw G (rm_R 4 0 0) m_MD_run 0 0 16 [some (av_R (some 170)), some (av_I a1), some (av_I a2), some (av_I a3), some (av_I a4), some (av_I v5), none, none, none] [] h Q) (hb0 : hb s h) (H : i32 a1 → i32 a2 → i32 a3 → i32 a4 → B_MD_run_0 G s a1 a2 a3 a4 h Q X16) : con G 4 0 0 m_MD_run [av_R (some 170), av_I a1, av_I a2, av_I a3, av_I a4] h Q := by
  have hS : isS s := hb0.2.1
  refine con_of (L := [some (av_R (some 170)), some (av_I a1), some (av_I a2), some (av_I a3), some (av_I a4), none, none, none, none]) (by decide +kernel) (Nat.le_of_ble_eq_true rfl) rfl ?_
  refine A_locI 1 rfl (fun ra1 => ?_)
  refine A_locI 2 rfl (fun ra2 => ?_)
  refine A_locI 3 rfl (fun ra3 => ?_)
  refine A_locI 4 rfl (fun ra4 => ?_)
  exact b_MD_run_0  hX16 hb0 (H ra1 ra2 ra3 ra4)
def B_MD_beam_177 (G : cx_T) (s : Nat) (a1 : Int) (a2 : Int) (v4 : Int) (v6 : Int) (v7 : Int) (h : ah_T) (Q : Option av_T → ah_T → Prop) (X106 : Int → Int → Int → ah_T → Prop) : Prop :=
 X106 (v4) (v6) (v7) h
theorem b_MD_beam_177 {G : cx_T} {s : Nat} {a1 : Int} {a2 : Int} {v4 : Int} {v6 : Int} {v7 : Int} {h : ah_T} {Q : Option av_T → ah_T → Prop} {X106 : Int → Int → Int → ah_T → Prop} (hX106 : ∀ (v4 : Int) (v6 : Int) (v7 : Int) (h : ah_T), hb s h → X106 v4 v6 v7 h → aw G (rm_R 5 0 0) m_MD_beam 0 0 106 [some (av_R (some 170)), some (av_I a1), some (av_I a2), none, some (av_I v4), none, some (av_I v6), some (av_I v7), none] [] h Q) (hb0 : hb s h) (H : B_MD_beam_177 G s a1 a2 v4 v6 v7 h Q X106) : aw G (rm_R 5 0 0) m_MD_beam 0 0 177 [some (av_R (some 170)), some (av_I a1), some (av_I a2), none, some (av_I v4), none, some (av_I v6), some (av_I v7), none] [] h Q := by
  unfold B_MD_beam_177 at H
  have hS : isS s := hb0.2.1
  refine A_goto (tgt := 106) d_MD_beam_177 (by decide) ?_
  refine A_pc (pc' := 106) rfl ?_
  exact hX106 (v4) (v6) (v7) h  hb0 H
def B_MD_beam_145 (G : cx_T) (s : Nat) (a1 : Int) (a2 : Int) (v4 : Int) (v6 : Int) (v7 : Int) (v8 : Int) (h : ah_T) (Q : Option av_T → ah_T → Prop) (X106 : Int → Int → Int → ah_T → Prop) : Prop :=
 ((v8 ≤ v7 → ((-2147483648) ≤ (v7 + 1) ∧ (v7 + 1) ≤ 2147483647) ∧ B_MD_beam_177 G s a1 a2 (v4) (v6) ((v7 + 1)) h Q X106) ∧ (¬ v8 ≤ v7 → con G 4 0 0 m_MD_run [av_R (some 170), av_I a1, av_I a2, av_I v7, av_I v8] h (fun r h2 => ∃ z4 : Int, r = some (av_I z4) ∧ hb s h2 ∧ ((-2147483648) ≤ (v6 + z4) ∧ (v6 + z4) ≤ 2147483647) ∧ B_MD_beam_177 G s a1 a2 (v4) ((v6 + z4)) (v8) h2 Q X106)))
theorem b_MD_beam_145 {G : cx_T} {s : Nat} {a1 : Int} {a2 : Int} {v4 : Int} {v6 : Int} {v7 : Int} {v8 : Int} {h : ah_T} {Q : Option av_T → ah_T → Prop} {X106 : Int → Int → Int → ah_T → Prop} (hX106 : ∀ (v4 : Int) (v6 : Int) (v7 : Int) (h : ah_T), hb s h → X106 v4 v6 v7 h → aw G (rm_R 5 0 0) m_MD_beam 0 0 106 [some (av_R (some 170)), some (av_I a1), some (av_I a2), none, some (av_I v4), none, some (av_I v6), some (av_I v7), none] [] h Q) (hb0 : hb s h) (H : B_MD_beam_145 G s a1 a2 v4 v6 v7 v8 h Q X106) : aw G (rm_R 5 0 0) m_MD_beam 0 0 145 [some (av_R (some 170)), some (av_I a1), some (av_I a2), none, some (av_I v4), none, some (av_I v6), some (av_I v7), some (av_I v8)] [] h Q := by
  unfold B_MD_beam_145 at H
  have hS : isS s := hb0.2.1
  refine A_iload d_MD_beam_145 rfl ?_
  refine A_iload d_MD_beam_147 rfl ?_
  refine A_icmp_le (tgt := 174) d_MD_beam_149 (by decide) (fun c => ?_) (fun c => ?_)
  · replace H := H.1 c
    have g1 := H.1
    replace H := H.2
    refine A_iincv (z := (v7 + 1)) (L' := [some (av_R (some 170)), some (av_I a1), some (av_I a2), none, some (av_I v4), none, some (av_I v6), some (av_I (v7 + 1)), some (av_I v8)]) d_MD_beam_174 rfl (w32_to (by omega) (by unfold i32; omega)) rfl ?_
    refine A_pc (pc' := 177) rfl ?_
    refine A_free (L' := [some (av_R (some 170)), some (av_I a1), some (av_I a2), none, some (av_I v4), none, some (av_I v6), some (av_I (v7 + 1)), none]) (And.intro rfl (And.intro rfl (And.intro rfl (And.intro rfl (And.intro rfl (And.intro rfl trivial)))))) ?_
    exact b_MD_beam_177  hX106  hb0 H
  · replace H := H.2 c
    refine A_iload d_MD_beam_152 rfl ?_
    refine A_aload_n 0 d_MD_beam_154 rfl rfl ?_
    refine A_iload_n 1 d_MD_beam_155 rfl rfl ?_
    refine A_iload_n 2 d_MD_beam_156 rfl rfl ?_
    refine A_iload d_MD_beam_157 rfl ?_
    refine A_pc (pc' := 159) rfl ?_
    refine A_iload d_MD_beam_159 rfl ?_
    refine A_callV4 m_MD_run T_ok d_MD_beam_161 l_MD_541 k_MD_run (hb_s hb0 sf_170) rfl (by decide +kernel) (by decide) (Nat.le_of_ble_eq_true rfl) H (fun r h2 hq => ?_)
    clear H
    obtain ⟨z4, rfl, hb3, H⟩ := hq
    have g5 := H.1
    replace H := H.2
    refine A_iaddv (z := (v6 + z4)) d_MD_beam_164 (w32_to (by omega) (by unfold i32; omega)) ?_
    refine A_istore (L' := [some (av_R (some 170)), some (av_I a1), some (av_I a2), none, some (av_I v4), none, some (av_I (v6 + z4)), some (av_I v7), some (av_I v8)]) d_MD_beam_165 (Nat.le_of_ble_eq_true rfl) rfl ?_
    refine A_iload d_MD_beam_167 rfl ?_
    refine A_istore (L' := [some (av_R (some 170)), some (av_I a1), some (av_I a2), none, some (av_I v4), none, some (av_I (v6 + z4)), some (av_I v8), some (av_I v8)]) d_MD_beam_169 (Nat.le_of_ble_eq_true rfl) rfl ?_
    refine A_goto (tgt := 177) d_MD_beam_171 (by decide) ?_
    refine A_pc (pc' := 177) rfl ?_
    refine A_free (L' := [some (av_R (some 170)), some (av_I a1), some (av_I a2), none, some (av_I v4), none, some (av_I (v6 + z4)), some (av_I v8), none]) (And.intro rfl (And.intro rfl (And.intro rfl (And.intro rfl (And.intro rfl (And.intro rfl trivial)))))) ?_
    exact b_MD_beam_177  hX106  hb3 H
def B_MD_beam_117 (G : cx_T) (s : Nat) (a1 : Int) (a2 : Int) (v4 : Int) (v6 : Int) (v7 : Int) (v8 : Int) (h : ah_T) (Q : Option av_T → ah_T → Prop) (X106 : Int → Int → Int → ah_T → Prop) (X117 : Int → Int → Int → Int → ah_T → Prop) : Prop :=
 ((v4 ≤ v8 → B_MD_beam_145 G s a1 a2 (v4) (v6) (v7) (v8) h Q X106) ∧ (¬ v4 ≤ v8 → ((-2147483648) ≤ (300 * a1) ∧ (300 * a1) ≤ 2147483647) ∧ ((-2147483648) ≤ (300 * a1 + v8) ∧ (300 * a1 + v8) ≤ 2147483647) ∧ con G 0 0 0 m_MD_isShort [av_R (some 170), av_I (300 * a1 + v8)] h (fun r h3 => ∃ z5 : Int, r = some (av_I z5) ∧ hb s h3 ∧ ((z5 = 0 → B_MD_beam_145 G s a1 a2 (v4) (v6) (v7) (v8) h3 Q X106) ∧ (¬ z5 = 0 → ((-2147483648) ≤ (v8 + 1) ∧ (v8 + 1) ≤ 2147483647) ∧ X117 (v4) (v6) (v7) ((v8 + 1)) h3)))))
theorem b_MD_beam_117 {G : cx_T} {s : Nat} {a1 : Int} {a2 : Int} {v4 : Int} {v6 : Int} {v7 : Int} {v8 : Int} {h : ah_T} {Q : Option av_T → ah_T → Prop} {X106 : Int → Int → Int → ah_T → Prop} {X117 : Int → Int → Int → Int → ah_T → Prop} (hX106 : ∀ (v4 : Int) (v6 : Int) (v7 : Int) (h : ah_T), hb s h → X106 v4 v6 v7 h → aw G (rm_R 5 0 0) m_MD_beam 0 0 106 [some (av_R (some 170)), some (av_I a1), some (av_I a2), none, some (av_I v4), none, some (av_I v6), some (av_I v7), none] [] h Q) (hX117 : ∀ (v4 : Int) (v6 : Int) (v7 : Int) (v8 : Int) (h : ah_T), hb s h → X117 v4 v6 v7 v8 h → aw G (rm_R 5 0 0) m_MD_beam 0 0 117 [some (av_R (some 170)), some (av_I a1), some (av_I a2), none, some (av_I v4), none, some (av_I v6), some (av_I v7), some (av_I v8)] [] h Q) (hb0 : hb s h) (H : B_MD_beam_117 G s a1 a2 v4 v6 v7 v8 h Q X106 X117) : aw G (rm_R 5 0 0) m_MD_beam 0 0 117 [some (av_R (some 170)), some (av_I a1), some (av_I a2), none, some (av_I v4), none, some (av_I v6), some (av_I v7), some (av_I v8)] [] h Q := by
  unfold B_MD_beam_117 at H
  have hS : isS s := hb0.2.1
  refine A_iload d_MD_beam_117 rfl ?_
  refine A_iload d_MD_beam_119 rfl ?_
  refine A_icmp_ge (tgt := 145) d_MD_beam_121 (by decide) (fun c => ?_) (fun c => ?_)
  · replace H := H.1 c
    refine A_pc (pc' := 145) rfl ?_
    exact b_MD_beam_145  hX106  hb0 H
  · replace H := H.2 c
    refine A_aload_n 0 d_MD_beam_124 rfl rfl ?_
    refine A_sipush d_MD_beam_125 rfl ?_
    refine A_iload_n 1 d_MD_beam_128 rfl rfl ?_
    have g1 := H.1
    replace H := H.2
    refine A_imulv (z := (300 * a1)) d_MD_beam_129 (w32_to (by omega) (by unfold i32; omega)) ?_
    refine A_iload d_MD_beam_130 rfl ?_
    refine A_pc (pc' := 132) rfl ?_
    have g2 := H.1
    replace H := H.2
    refine A_iaddv (z := (300 * a1 + v8)) d_MD_beam_132 (w32_to (by omega) (by unfold i32; omega)) ?_
    refine A_callV1 m_MD_isShort T_ok d_MD_beam_133 l_MD_538 k_MD_isShort (hb_s hb0 sf_170) rfl (by decide +kernel) (by decide) (Nat.le_of_ble_eq_true rfl) H (fun r h3 hq => ?_)
    clear H
    obtain ⟨z5, rfl, hb4, H⟩ := hq
    refine A_if_eq (tgt := 145) d_MD_beam_136 (by decide) (fun c => ?_) (fun c => ?_)
    · replace H := H.1 c
      refine A_pc (pc' := 145) rfl ?_
      exact b_MD_beam_145  hX106  hb4 H
    · replace H := H.2 c
      have g6 := H.1
      replace H := H.2
      refine A_iincv (z := (v8 + 1)) (L' := [some (av_R (some 170)), some (av_I a1), some (av_I a2), none, some (av_I v4), none, some (av_I v6), some (av_I v7), some (av_I (v8 + 1))]) d_MD_beam_139 rfl (w32_to (by omega) (by unfold i32; omega)) rfl ?_
      refine A_goto (tgt := 117) d_MD_beam_142 (by decide) ?_
      refine A_pc (pc' := 117) rfl ?_
      exact hX117 (v4) (v6) (v7) ((v8 + 1)) h3  hb4 H
theorem lp_MD_beam_117 {G : cx_T} {s : Nat} {a1 : Int} {a2 : Int} {Q : Option av_T → ah_T → Prop} {X106 : Int → Int → Int → ah_T → Prop} (hX106 : ∀ (v4 : Int) (v6 : Int) (v7 : Int) (h : ah_T), hb s h → X106 v4 v6 v7 h → aw G (rm_R 5 0 0) m_MD_beam 0 0 106 [some (av_R (some 170)), some (av_I a1), some (av_I a2), none, some (av_I v4), none, some (av_I v6), some (av_I v7), none] [] h Q) (I : Int → Int → Int → Int → ah_T → Prop) (μ : Int → Int → Int → Int → ah_T → Nat) (hI : ∀ (v4 : Int) (v6 : Int) (v7 : Int) (v8 : Int) (h : ah_T), hb s h → I v4 v6 v7 v8 h → B_MD_beam_117 G s a1 a2 v4 v6 v7 v8 h Q X106 (fun v4' v6' v7' v8' h' => I v4' v6' v7' v8' h' ∧ μ v4' v6' v7' v8' h' < μ v4 v6 v7 v8 h)) : ∀ (v4 : Int) (v6 : Int) (v7 : Int) (v8 : Int) (h : ah_T), hb s h → I v4 v6 v7 v8 h → aw G (rm_R 5 0 0) m_MD_beam 0 0 117 [some (av_R (some 170)), some (av_I a1), some (av_I a2), none, some (av_I v4), none, some (av_I v6), some (av_I v7), some (av_I v8)] [] h Q := by
  have key : ∀ (n : Nat) (v4 : Int) (v6 : Int) (v7 : Int) (v8 : Int) (h : ah_T), hb s h → I v4 v6 v7 v8 h → μ v4 v6 v7 v8 h < n → aw G (rm_R 5 0 0) m_MD_beam 0 0 117 [some (av_R (some 170)), some (av_I a1), some (av_I a2), none, some (av_I v4), none, some (av_I v6), some (av_I v7), some (av_I v8)] [] h Q := by
    intro n
    induction n with
    | zero => intro v4 v6 v7 v8 h  hb0 hi hm; omega
    | succ n ih => intro v4 v6 v7 v8 h  hb0 hi hm; exact b_MD_beam_117  hX106 (fun v4' v6' v7' v8' h'  hb' hx => ih v4' v6' v7' v8' h'  hb' hx.1 (by have := hx.2; omega))  hb0 (hI v4 v6 v7 v8 h  hb0 hi)
  exact fun v4 v6 v7 v8 h  hb0 hi => key _ v4 v6 v7 v8 h  hb0 hi (Nat.lt_succ_self _)
def B_MD_beam_106 (G : cx_T) (s : Nat) (a1 : Int) (a2 : Int) (v4 : Int) (v6 : Int) (v7 : Int) (h : ah_T) (Q : Option av_T → ah_T → Prop) (X117 : Int → Int → Int → Int → ah_T → Prop) : Prop :=
 ((v4 ≤ v7 → Q (some (av_I v6)) h) ∧ (¬ v4 ≤ v7 → X117 (v4) (v6) (v7) (v7) h))
theorem b_MD_beam_106 {G : cx_T} {s : Nat} {a1 : Int} {a2 : Int} {v4 : Int} {v6 : Int} {v7 : Int} {h : ah_T} {Q : Option av_T → ah_T → Prop} {X117 : Int → Int → Int → Int → ah_T → Prop} (hX117 : ∀ (v4 : Int) (v6 : Int) (v7 : Int) (v8 : Int) (h : ah_T), hb s h → X117 v4 v6 v7 v8 h → aw G (rm_R 5 0 0) m_MD_beam 0 0 117 [some (av_R (some 170)), some (av_I a1), some (av_I a2), none, some (av_I v4), none, some (av_I v6), some (av_I v7), some (av_I v8)] [] h Q) (hb0 : hb s h) (H : B_MD_beam_106 G s a1 a2 v4 v6 v7 h Q X117) : aw G (rm_R 5 0 0) m_MD_beam 0 0 106 [some (av_R (some 170)), some (av_I a1), some (av_I a2), none, some (av_I v4), none, some (av_I v6), some (av_I v7), none] [] h Q := by
  unfold B_MD_beam_106 at H
  have hS : isS s := hb0.2.1
  refine A_iload d_MD_beam_106 rfl ?_
  refine A_iload d_MD_beam_108 rfl ?_
  refine A_icmp_ge (tgt := 180) d_MD_beam_110 (by decide) (fun c => ?_) (fun c => ?_)
  · replace H := H.1 c
    refine A_iload d_MD_beam_180 rfl ?_
    exact A_iret d_MD_beam_182 (by decide) rfl H
  · replace H := H.2 c
    refine A_iload d_MD_beam_113 rfl ?_
    refine A_istore (L' := [some (av_R (some 170)), some (av_I a1), some (av_I a2), none, some (av_I v4), none, some (av_I v6), some (av_I v7), some (av_I v7)]) d_MD_beam_115 (Nat.le_of_ble_eq_true rfl) rfl ?_
    refine A_pc (pc' := 117) rfl ?_
    exact hX117 (v4) (v6) (v7) (v7) h  hb0 H
theorem lp_MD_beam_106 {G : cx_T} {s : Nat} {a1 : Int} {a2 : Int} {Q : Option av_T → ah_T → Prop} {X117 : Int → Int → Int → Int → ah_T → Prop} (hX117 : ∀ (v4 : Int) (v6 : Int) (v7 : Int) (v8 : Int) (h : ah_T), hb s h → X117 v4 v6 v7 v8 h → aw G (rm_R 5 0 0) m_MD_beam 0 0 117 [some (av_R (some 170)), some (av_I a1), some (av_I a2), none, some (av_I v4), none, some (av_I v6), some (av_I v7), some (av_I v8)] [] h Q) (I : Int → Int → Int → ah_T → Prop) (μ : Int → Int → Int → ah_T → Nat) (hI : ∀ (v4 : Int) (v6 : Int) (v7 : Int) (h : ah_T), hb s h → I v4 v6 v7 h → B_MD_beam_106 G s a1 a2 v4 v6 v7 h Q X117) : ∀ (v4 : Int) (v6 : Int) (v7 : Int) (h : ah_T), hb s h → I v4 v6 v7 h → aw G (rm_R 5 0 0) m_MD_beam 0 0 106 [some (av_R (some 170)), some (av_I a1), some (av_I a2), none, some (av_I v4), none, some (av_I v6), some (av_I v7), none] [] h Q := by
  have key : ∀ (n : Nat) (v4 : Int) (v6 : Int) (v7 : Int) (h : ah_T), hb s h → I v4 v6 v7 h → μ v4 v6 v7 h < n → aw G (rm_R 5 0 0) m_MD_beam 0 0 106 [some (av_R (some 170)), some (av_I a1), some (av_I a2), none, some (av_I v4), none, some (av_I v6), some (av_I v7), none] [] h Q := by
    intro n
    induction n with
    | zero => intro v4 v6 v7 h  hb0 hi hm; omega
    | succ n ih => intro v4 v6 v7 h  hb0 hi hm; exact b_MD_beam_106  hX117  hb0 (hI v4 v6 v7 h  hb0 hi)
  exact fun v4 v6 v7 h  hb0 hi => key _ v4 v6 v7 h  hb0 hi (Nat.lt_succ_self _)
def B_MD_beam_76 (G : cx_T) (s : Nat) (a1 : Int) (a2 : Int) (v3 : Int) (v4 : Int) (v6 : Int) (t0 : Int) (t1 : Int) (h : ah_T) (Q : Option av_T → ah_T → Prop) (X47 : Int → Int → Int → Int → ah_T → Prop) : Prop :=
 ((-2147483648) ≤ (t0 + t1) ∧ (t0 + t1) ≤ 2147483647) ∧ ((-2147483648) ≤ (v6 + 1) ∧ (v6 + 1) ≤ 2147483647) ∧ X47 (v3) (v4) ((t0 + t1)) ((v6 + 1)) h
theorem b_MD_beam_76 {G : cx_T} {s : Nat} {a1 : Int} {a2 : Int} {v3 : Int} {v4 : Int} {v6 : Int} {t0 : Int} {t1 : Int} {h : ah_T} {Q : Option av_T → ah_T → Prop} {X47 : Int → Int → Int → Int → ah_T → Prop} (hX47 : ∀ (v3 : Int) (v4 : Int) (v5 : Int) (v6 : Int) (h : ah_T), hb s h → X47 v3 v4 v5 v6 h → aw G (rm_R 5 0 0) m_MD_beam 0 0 47 [some (av_R (some 170)), some (av_I a1), some (av_I a2), some (av_I v3), some (av_I v4), some (av_I v5), some (av_I v6), none, none] [] h Q) (hb0 : hb s h) (H : B_MD_beam_76 G s a1 a2 v3 v4 v6 t0 t1 h Q X47) : aw G (rm_R 5 0 0) m_MD_beam 0 0 76 [some (av_R (some 170)), some (av_I a1), some (av_I a2), some (av_I v3), some (av_I v4), none, some (av_I v6), none, none] [av_I t1, av_I t0] h Q := by
  unfold B_MD_beam_76 at H
  have hS : isS s := hb0.2.1
  have g1 := H.1
  replace H := H.2
  refine A_iaddv (z := (t0 + t1)) d_MD_beam_76 (w32_to (by omega) (by unfold i32; omega)) ?_
  refine A_istore (L' := [some (av_R (some 170)), some (av_I a1), some (av_I a2), some (av_I v3), some (av_I v4), some (av_I (t0 + t1)), some (av_I v6), none, none]) d_MD_beam_77 (Nat.le_of_ble_eq_true rfl) rfl ?_
  have g2 := H.1
  replace H := H.2
  refine A_iincv (z := (v6 + 1)) (L' := [some (av_R (some 170)), some (av_I a1), some (av_I a2), some (av_I v3), some (av_I v4), some (av_I (t0 + t1)), some (av_I (v6 + 1)), none, none]) d_MD_beam_79 rfl (w32_to (by omega) (by unfold i32; omega)) rfl ?_
  refine A_goto (tgt := 47) d_MD_beam_82 (by decide) ?_
  refine A_pc (pc' := 47) rfl ?_
  exact hX47 (v3) (v4) ((t0 + t1)) ((v6 + 1)) h  hb0 H
def B_MD_beam_47 (G : cx_T) (s : Nat) (a1 : Int) (a2 : Int) (v3 : Int) (v4 : Int) (v5 : Int) (v6 : Int) (h : ah_T) (Q : Option av_T → ah_T → Prop) (X47 : Int → Int → Int → Int → ah_T → Prop) (X106 : Int → Int → Int → ah_T → Prop) : Prop :=
 ((v4 ≤ v6 → ((v5 ≤ 14 → ∀ h1 : ah_T, h1 = st_i h 170 85 0 → X106 (v4) (0) (v3) h1) ∧ (¬ v5 ≤ 14 → Q (some (av_I (-4))) h))) ∧ (¬ v4 ≤ v6 → ((-2147483648) ≤ (300 * a1) ∧ (300 * a1) ≤ 2147483647) ∧ ((-2147483648) ≤ (300 * a1 + v6) ∧ (300 * a1 + v6) ≤ 2147483647) ∧ con G 0 0 0 m_MD_isShort [av_R (some 170), av_I (300 * a1 + v6)] h (fun r h5 => ∃ z7 : Int, r = some (av_I z7) ∧ hb s h5 ∧ ((z7 = 0 → B_MD_beam_76 G s a1 a2 (v3) (v4) (v6) (v5) (0) h5 Q X47) ∧ (¬ z7 = 0 → B_MD_beam_76 G s a1 a2 (v3) (v4) (v6) (v5) (1) h5 Q X47)))))
theorem b_MD_beam_47 {G : cx_T} {s : Nat} {a1 : Int} {a2 : Int} {v3 : Int} {v4 : Int} {v5 : Int} {v6 : Int} {h : ah_T} {Q : Option av_T → ah_T → Prop} {X47 : Int → Int → Int → Int → ah_T → Prop} {X106 : Int → Int → Int → ah_T → Prop} (hX47 : ∀ (v3 : Int) (v4 : Int) (v5 : Int) (v6 : Int) (h : ah_T), hb s h → X47 v3 v4 v5 v6 h → aw G (rm_R 5 0 0) m_MD_beam 0 0 47 [some (av_R (some 170)), some (av_I a1), some (av_I a2), some (av_I v3), some (av_I v4), some (av_I v5), some (av_I v6), none, none] [] h Q) (hX106 : ∀ (v4 : Int) (v6 : Int) (v7 : Int) (h : ah_T), hb s h → X106 v4 v6 v7 h → aw G (rm_R 5 0 0) m_MD_beam 0 0 106 [some (av_R (some 170)), some (av_I a1), some (av_I a2), none, some (av_I v4), none, some (av_I v6), some (av_I v7), none] [] h Q) (hb0 : hb s h) (H : B_MD_beam_47 G s a1 a2 v3 v4 v5 v6 h Q X47 X106) : aw G (rm_R 5 0 0) m_MD_beam 0 0 47 [some (av_R (some 170)), some (av_I a1), some (av_I a2), some (av_I v3), some (av_I v4), some (av_I v5), some (av_I v6), none, none] [] h Q := by
  unfold B_MD_beam_47 at H
  have hS : isS s := hb0.2.1
  refine A_iload d_MD_beam_47 rfl ?_
  refine A_iload d_MD_beam_49 rfl ?_
  refine A_icmp_ge (tgt := 85) d_MD_beam_51 (by decide) (fun c => ?_) (fun c => ?_)
  · replace H := H.1 c
    refine A_iload d_MD_beam_85 rfl ?_
    refine A_bipush d_MD_beam_87 rfl ?_
    refine A_icmp_le (tgt := 95) d_MD_beam_89 (by decide) (fun c => ?_) (fun c => ?_)
    · replace H := H.1 c
      refine A_aload_n 0 d_MD_beam_95 rfl rfl ?_
      refine A_iconst d_MD_beam_96 rfl ?_
      refine A_putI T_ok d_MD_beam_97 f_MD_474 (hb_s hb0 sf_170) fin_f ?_
      refine A_hn (fun h1 eh1 => ?_)
      have hb2 := hb_i hb0 eh1
      replace H := H h1 eh1
      refine A_iconst d_MD_beam_100 rfl ?_
      refine A_istore (L' := [some (av_R (some 170)), some (av_I a1), some (av_I a2), some (av_I v3), some (av_I v4), some (av_I v5), some (av_I 0), none, none]) d_MD_beam_101 (Nat.le_of_ble_eq_true rfl) rfl ?_
      refine A_pc (pc' := 103) rfl ?_
      refine A_iload_n 3 d_MD_beam_103 rfl rfl ?_
      refine A_istore (L' := [some (av_R (some 170)), some (av_I a1), some (av_I a2), some (av_I v3), some (av_I v4), some (av_I v5), some (av_I 0), some (av_I v3), none]) d_MD_beam_104 (Nat.le_of_ble_eq_true rfl) rfl ?_
      refine A_pc (pc' := 106) rfl ?_
      refine A_free (L' := [some (av_R (some 170)), some (av_I a1), some (av_I a2), none, some (av_I v4), none, some (av_I 0), some (av_I v3), none]) (And.intro rfl (And.intro rfl (And.intro rfl (And.intro rfl (And.intro rfl (And.intro rfl trivial)))))) ?_
      exact hX106 (v4) (0) (v3) h1  hb2 H
    · replace H := H.2 c
      refine A_bipush d_MD_beam_92 rfl ?_
      exact A_iret d_MD_beam_94 (by decide) rfl H
  · replace H := H.2 c
    refine A_iload d_MD_beam_54 rfl ?_
    refine A_aload_n 0 d_MD_beam_56 rfl rfl ?_
    refine A_sipush d_MD_beam_57 rfl ?_
    refine A_iload_n 1 d_MD_beam_60 rfl rfl ?_
    have g3 := H.1
    replace H := H.2
    refine A_imulv (z := (300 * a1)) d_MD_beam_61 (w32_to (by omega) (by unfold i32; omega)) ?_
    refine A_pc (pc' := 62) rfl ?_
    refine A_iload d_MD_beam_62 rfl ?_
    have g4 := H.1
    replace H := H.2
    refine A_iaddv (z := (300 * a1 + v6)) d_MD_beam_64 (w32_to (by omega) (by unfold i32; omega)) ?_
    refine A_callV1 m_MD_isShort T_ok d_MD_beam_65 l_MD_538 k_MD_isShort (hb_s hb0 sf_170) rfl (by decide +kernel) (by decide) (Nat.le_of_ble_eq_true rfl) H (fun r h5 hq => ?_)
    clear H
    obtain ⟨z7, rfl, hb6, H⟩ := hq
    refine A_if_eq (tgt := 75) d_MD_beam_68 (by decide) (fun c => ?_) (fun c => ?_)
    · replace H := H.1 c
      refine A_iconst d_MD_beam_75 rfl ?_
      refine A_pc (pc' := 76) rfl ?_
      refine A_free (L' := [some (av_R (some 170)), some (av_I a1), some (av_I a2), some (av_I v3), some (av_I v4), none, some (av_I v6), none, none]) (And.intro rfl (And.intro rfl (And.intro rfl (And.intro rfl (And.intro rfl (And.intro rfl trivial)))))) ?_
      exact b_MD_beam_76  hX47  hb6 H
    · replace H := H.2 c
      refine A_iconst d_MD_beam_71 rfl ?_
      refine A_goto (tgt := 76) d_MD_beam_72 (by decide) ?_
      refine A_pc (pc' := 76) rfl ?_
      refine A_free (L' := [some (av_R (some 170)), some (av_I a1), some (av_I a2), some (av_I v3), some (av_I v4), none, some (av_I v6), none, none]) (And.intro rfl (And.intro rfl (And.intro rfl (And.intro rfl (And.intro rfl (And.intro rfl trivial)))))) ?_
      exact b_MD_beam_76  hX47  hb6 H
theorem lp_MD_beam_47 {G : cx_T} {s : Nat} {a1 : Int} {a2 : Int} {Q : Option av_T → ah_T → Prop} {X106 : Int → Int → Int → ah_T → Prop} (hX106 : ∀ (v4 : Int) (v6 : Int) (v7 : Int) (h : ah_T), hb s h → X106 v4 v6 v7 h → aw G (rm_R 5 0 0) m_MD_beam 0 0 106 [some (av_R (some 170)), some (av_I a1), some (av_I a2), none, some (av_I v4), none, some (av_I v6), some (av_I v7), none] [] h Q) (I : Int → Int → Int → Int → ah_T → Prop) (μ : Int → Int → Int → Int → ah_T → Nat) (hI : ∀ (v3 : Int) (v4 : Int) (v5 : Int) (v6 : Int) (h : ah_T), hb s h → I v3 v4 v5 v6 h → B_MD_beam_47 G s a1 a2 v3 v4 v5 v6 h Q (fun v3' v4' v5' v6' h' => I v3' v4' v5' v6' h' ∧ μ v3' v4' v5' v6' h' < μ v3 v4 v5 v6 h) X106) : ∀ (v3 : Int) (v4 : Int) (v5 : Int) (v6 : Int) (h : ah_T), hb s h → I v3 v4 v5 v6 h → aw G (rm_R 5 0 0) m_MD_beam 0 0 47 [some (av_R (some 170)), some (av_I a1), some (av_I a2), some (av_I v3), some (av_I v4), some (av_I v5), some (av_I v6), none, none] [] h Q := by
  have key : ∀ (n : Nat) (v3 : Int) (v4 : Int) (v5 : Int) (v6 : Int) (h : ah_T), hb s h → I v3 v4 v5 v6 h → μ v3 v4 v5 v6 h < n → aw G (rm_R 5 0 0) m_MD_beam 0 0 47 [some (av_R (some 170)), some (av_I a1), some (av_I a2), some (av_I v3), some (av_I v4), some (av_I v5), some (av_I v6), none, none] [] h Q := by
    intro n
    induction n with
    | zero => intro v3 v4 v5 v6 h  hb0 hi hm; omega
    | succ n ih => intro v3 v4 v5 v6 h  hb0 hi hm; exact b_MD_beam_47  (fun v3' v4' v5' v6' h'  hb' hx => ih v3' v4' v5' v6' h'  hb' hx.1 (by have := hx.2; omega)) hX106  hb0 (hI v3 v4 v5 v6 h  hb0 hi)
  exact fun v3 v4 v5 v6 h  hb0 hi => key _ v3 v4 v5 v6 h  hb0 hi (Nat.lt_succ_self _)
def B_MD_beam_22 (G : cx_T) (s : Nat) (a1 : Int) (a2 : Int) (h : ah_T) (Q : Option av_T → ah_T → Prop) : Prop :=
 Q (some (av_I (-1))) h
theorem b_MD_beam_22 {G : cx_T} {s : Nat} {a1 : Int} {a2 : Int} {h : ah_T} {Q : Option av_T → ah_T → Prop} (hb0 : hb s h) (H : B_MD_beam_22 G s a1 a2 h Q ) : aw G (rm_R 5 0 0) m_MD_beam 0 0 22 [none, none, none, none, none, none, none, none, none] [] h Q := by
  unfold B_MD_beam_22 at H
  have hS : isS s := hb0.2.1
  refine A_iconst d_MD_beam_22 rfl ?_
  exact A_iret d_MD_beam_23 (by decide) rfl H
def B_MD_beam_0 (G : cx_T) (s : Nat) (a1 : Int) (a2 : Int) (h : ah_T) (Q : Option av_T → ah_T → Prop) (X47 : Int → Int → Int → Int → ah_T → Prop) : Prop :=
 con G 0 0 0 m_MD_isVoice [av_R (some 170), av_I a1] h (fun r h1 => ∃ z3 : Int, r = some (av_I z3) ∧ hb s h1 ∧ ((z3 = 0 → B_MD_beam_22 G s a1 a2 h1 Q ) ∧ (¬ z3 = 0 → ((a2 < 0 → B_MD_beam_22 G s a1 a2 h1 Q ) ∧ (¬ a2 < 0 → (0 ≤ a1 ∧ a1 < 8) ∧ ∀ x5 : Int, x5 = h1.2.1 186 (a1).toNat → -2147483648 ≤ x5 → x5 ≤ 2147483647 → ((a2 < x5 → con G 0 0 0 m_MD_firstOf [av_R (some 170), av_I a1, av_I a2] h1 (fun r h7 => ∃ z9 : Int, r = some (av_I z9) ∧ hb s h7 ∧ ((-2147483648) ≤ (a2 + 1) ∧ (a2 + 1) ≤ 2147483647) ∧ con G 0 0 0 m_MD_firstOf [av_R (some 170), av_I a1, av_I (a2 + 1)] h7 (fun r h11 => ∃ z13 : Int, r = some (av_I z13) ∧ hb s h11 ∧ X47 (z9) (z13) (0) (z9) h11))) ∧ (¬ a2 < x5 → B_MD_beam_22 G s a1 a2 h1 Q )))))))
theorem b_MD_beam_0 {G : cx_T} {s : Nat} {a1 : Int} {a2 : Int} {h : ah_T} {Q : Option av_T → ah_T → Prop} {X47 : Int → Int → Int → Int → ah_T → Prop} (hX47 : ∀ (v3 : Int) (v4 : Int) (v5 : Int) (v6 : Int) (h : ah_T), hb s h → X47 v3 v4 v5 v6 h → aw G (rm_R 5 0 0) m_MD_beam 0 0 47 [some (av_R (some 170)), some (av_I a1), some (av_I a2), some (av_I v3), some (av_I v4), some (av_I v5), some (av_I v6), none, none] [] h Q) (hb0 : hb s h) (H : B_MD_beam_0 G s a1 a2 h Q X47) : aw G (rm_R 5 0 0) m_MD_beam 0 0 0 [some (av_R (some 170)), some (av_I a1), some (av_I a2), none, none, none, none, none, none] [] h Q := by
  unfold B_MD_beam_0 at H
  have hS : isS s := hb0.2.1
  refine A_aload_n 0 d_MD_beam_0 rfl rfl ?_
  refine A_iload_n 1 d_MD_beam_1 rfl rfl ?_
  refine A_callV1 m_MD_isVoice T_ok d_MD_beam_2 l_MD_495 k_MD_isVoice (hb_s hb0 sf_170) rfl (by decide +kernel) (by decide) (Nat.le_of_ble_eq_true rfl) H (fun r h1 hq => ?_)
  clear H
  obtain ⟨z3, rfl, hb2, H⟩ := hq
  refine A_if_eq (tgt := 22) d_MD_beam_5 (by decide) (fun c => ?_) (fun c => ?_)
  · replace H := H.1 c
    refine A_pc (pc' := 22) rfl ?_
    refine A_free (L' := [none, none, none, none, none, none, none, none, none]) trivial ?_
    exact b_MD_beam_22    hb2 H
  · replace H := H.2 c
    refine A_iload_n 2 d_MD_beam_8 rfl rfl ?_
    refine A_if_lt (tgt := 22) d_MD_beam_9 (by decide) (fun c => ?_) (fun c => ?_)
    · replace H := H.1 c
      refine A_pc (pc' := 22) rfl ?_
      refine A_free (L' := [none, none, none, none, none, none, none, none, none]) trivial ?_
      exact b_MD_beam_22    hb2 H
    · replace H := H.2 c
      refine A_iload_n 2 d_MD_beam_12 rfl rfl ?_
      refine A_aload_n 0 d_MD_beam_13 rfl rfl ?_
      refine A_getAv (z := some 186) T_ok d_MD_beam_14 f_MD_60 (hb_s hb2 sf_170) (hb_m hb2 rfm_28) ?_
      refine A_iload_n 1 d_MD_beam_17 rfl rfl ?_
      have g6 := H.1
      replace H := H.2
      refine A_ialoadf d_MD_beam_18 (hb_s hb2 sf_186) g6.1 g6.2 (fun x5 ex5 lx5 ux5 => ?_)
      replace H := H x5 ex5 lx5 ux5
      refine A_pc (pc' := 19) rfl ?_
      refine A_icmp_lt (tgt := 24) d_MD_beam_19 (by decide) (fun c => ?_) (fun c => ?_)
      · replace H := H.1 c
        refine A_aload_n 0 d_MD_beam_24 rfl rfl ?_
        refine A_iload_n 1 d_MD_beam_25 rfl rfl ?_
        refine A_iload_n 2 d_MD_beam_26 rfl rfl ?_
        refine A_callV2 m_MD_firstOf T_ok d_MD_beam_27 l_MD_504 k_MD_firstOf (hb_s hb2 sf_170) rfl (by decide +kernel) (by decide) (Nat.le_of_ble_eq_true rfl) H (fun r h7 hq => ?_)
        clear H
        obtain ⟨z9, rfl, hb8, H⟩ := hq
        refine A_istore_n 3 (L' := [some (av_R (some 170)), some (av_I a1), some (av_I a2), some (av_I z9), none, none, none, none, none]) d_MD_beam_30 rfl (Nat.le_of_ble_eq_true rfl) rfl ?_
        refine A_aload_n 0 d_MD_beam_31 rfl rfl ?_
        refine A_iload_n 1 d_MD_beam_32 rfl rfl ?_
        refine A_iload_n 2 d_MD_beam_33 rfl rfl ?_
        refine A_iconst d_MD_beam_34 rfl ?_
        refine A_pc (pc' := 35) rfl ?_
        have g10 := H.1
        replace H := H.2
        refine A_iaddv (z := (a2 + 1)) d_MD_beam_35 (w32_to (by omega) (by unfold i32; omega)) ?_
        refine A_callV2 m_MD_firstOf T_ok d_MD_beam_36 l_MD_504 k_MD_firstOf (hb_s hb8 sf_170) rfl (by decide +kernel) (by decide) (Nat.le_of_ble_eq_true rfl) H (fun r h11 hq => ?_)
        clear H
        obtain ⟨z13, rfl, hb12, H⟩ := hq
        refine A_istore (L' := [some (av_R (some 170)), some (av_I a1), some (av_I a2), some (av_I z9), some (av_I z13), none, none, none, none]) d_MD_beam_39 (Nat.le_of_ble_eq_true rfl) rfl ?_
        refine A_iconst d_MD_beam_41 rfl ?_
        refine A_istore (L' := [some (av_R (some 170)), some (av_I a1), some (av_I a2), some (av_I z9), some (av_I z13), some (av_I 0), none, none, none]) d_MD_beam_42 (Nat.le_of_ble_eq_true rfl) rfl ?_
        refine A_iload_n 3 d_MD_beam_44 rfl rfl ?_
        refine A_istore (L' := [some (av_R (some 170)), some (av_I a1), some (av_I a2), some (av_I z9), some (av_I z13), some (av_I 0), some (av_I z9), none, none]) d_MD_beam_45 (Nat.le_of_ble_eq_true rfl) rfl ?_
        refine A_pc (pc' := 47) rfl ?_
        exact hX47 (z9) (z13) (0) (z9) h11  hb12 H
      · replace H := H.2 c
        refine A_pc (pc' := 22) rfl ?_
        refine A_free (L' := [none, none, none, none, none, none, none, none, none]) trivial ?_
        exact b_MD_beam_22    hb2 H
theorem c_MD_beam {G : cx_T} {s : Nat} {a1 : Int} {a2 : Int} {h : ah_T} {Q : Option av_T → ah_T → Prop} {X47 : Int → Int → Int → Int → ah_T → Prop} (hX47 : ∀ (v3 : Int) (v4 : Int) (v5 : Int) (v6 : Int) (h : ah_T), hb s h → X47 v3 v4 v5 v6 h → aw G (rm_R 5 0 0) m_MD_beam 0 0 47 [some (av_R (some 170)), some (av_I a1), some (av_I a2), some (av_I v3), some (av_I v4), some (av_I v5), some (av_I v6), none, none] [] h Q) (hb0 : hb s h) (H : i32 a1 → i32 a2 → B_MD_beam_0 G s a1 a2 h Q X47) : con G 5 0 0 m_MD_beam [av_R (some 170), av_I a1, av_I a2] h Q := by
  have hS : isS s := hb0.2.1
  refine con_of (L := [some (av_R (some 170)), some (av_I a1), some (av_I a2), none, none, none, none, none, none]) (by decide +kernel) (Nat.le_of_ble_eq_true rfl) rfl ?_
  refine A_locI 1 rfl (fun ra1 => ?_)
  refine A_locI 2 rfl (fun ra2 => ?_)
  exact b_MD_beam_0  hX47 hb0 (H ra1 ra2)
def B_MD_group_22 (G : cx_T) (s : Nat) (a1 : Int) (t0 : Int) (h : ah_T) (Q : Option av_T → ah_T → Prop) : Prop :=
 Q (some (av_I t0)) h
theorem b_MD_group_22 {G : cx_T} {s : Nat} {a1 : Int} {t0 : Int} {h : ah_T} {Q : Option av_T → ah_T → Prop} (hb0 : hb s h) (H : B_MD_group_22 G s a1 t0 h Q ) : aw G (rm_R 0 0 0) m_MD_group 0 0 22 [none, none] [av_I t0] h Q := by
  unfold B_MD_group_22 at H
  have hS : isS s := hb0.2.1
  exact A_iret d_MD_group_22 (by decide) rfl H
def B_MD_group_21 (G : cx_T) (s : Nat) (a1 : Int) (h : ah_T) (Q : Option av_T → ah_T → Prop) : Prop :=
 B_MD_group_22 G s a1 (0) h Q 
theorem b_MD_group_21 {G : cx_T} {s : Nat} {a1 : Int} {h : ah_T} {Q : Option av_T → ah_T → Prop} (hb0 : hb s h) (H : B_MD_group_21 G s a1 h Q ) : aw G (rm_R 0 0 0) m_MD_group 0 0 21 [none, none] [] h Q := by
  unfold B_MD_group_21 at H
  have hS : isS s := hb0.2.1
  refine A_iconst d_MD_group_21 rfl ?_
  refine A_pc (pc' := 22) rfl ?_
  exact b_MD_group_22    hb0 H
def B_MD_group_0 (G : cx_T) (s : Nat) (a1 : Int) (h : ah_T) (Q : Option av_T → ah_T → Prop) : Prop :=
 ((a1 < 0 → B_MD_group_21 G s a1 h Q ) ∧ (¬ a1 < 0 → ∀ x1 : Int, x1 = h.2.1 170 85 → -2147483648 ≤ x1 → x1 ≤ 2147483647 → ((x1 ≤ a1 → B_MD_group_21 G s a1 h Q ) ∧ (¬ x1 ≤ a1 → (0 ≤ a1 ∧ a1 < 16) ∧ ∀ x3 : Int, x3 = h.2.1 225 (a1).toNat → -2147483648 ≤ x3 → x3 ≤ 2147483647 → B_MD_group_22 G s a1 (x3) h Q ))))
theorem b_MD_group_0 {G : cx_T} {s : Nat} {a1 : Int} {h : ah_T} {Q : Option av_T → ah_T → Prop} (hb0 : hb s h) (H : B_MD_group_0 G s a1 h Q ) : aw G (rm_R 0 0 0) m_MD_group 0 0 0 [some (av_R (some 170)), some (av_I a1)] [] h Q := by
  unfold B_MD_group_0 at H
  have hS : isS s := hb0.2.1
  refine A_iload_n 1 d_MD_group_0 rfl rfl ?_
  refine A_if_lt (tgt := 21) d_MD_group_1 (by decide) (fun c => ?_) (fun c => ?_)
  · replace H := H.1 c
    refine A_pc (pc' := 21) rfl ?_
    refine A_free (L' := [none, none]) trivial ?_
    exact b_MD_group_21    hb0 H
  · replace H := H.2 c
    refine A_iload_n 1 d_MD_group_4 rfl rfl ?_
    refine A_aload_n 0 d_MD_group_5 rfl rfl ?_
    refine A_getIf T_ok d_MD_group_6 f_MD_474 (hb_s hb0 sf_170) (fun x1 ex1 lx1 ux1 => ?_)
    replace H := H x1 ex1 lx1 ux1
    refine A_icmp_ge (tgt := 21) d_MD_group_9 (by decide) (fun c => ?_) (fun c => ?_)
    · replace H := H.1 c
      refine A_pc (pc' := 21) rfl ?_
      refine A_free (L' := [none, none]) trivial ?_
      exact b_MD_group_21    hb0 H
    · replace H := H.2 c
      refine A_aload_n 0 d_MD_group_12 rfl rfl ?_
      refine A_getAv (z := some 225) T_ok d_MD_group_13 f_MD_178 (hb_s hb0 sf_170) (hb_m hb0 rfm_86) ?_
      refine A_iload_n 1 d_MD_group_16 rfl rfl ?_
      have g4 := H.1
      replace H := H.2
      refine A_ialoadf d_MD_group_17 (hb_s hb0 sf_225) g4.1 g4.2 (fun x3 ex3 lx3 ux3 => ?_)
      replace H := H x3 ex3 lx3 ux3
      refine A_goto (tgt := 22) d_MD_group_18 (by decide) ?_
      refine A_pc (pc' := 22) rfl ?_
      refine A_free (L' := [none, none]) trivial ?_
      exact b_MD_group_22    hb0 H
theorem c_MD_group {G : cx_T} {s : Nat} {a1 : Int} {h : ah_T} {Q : Option av_T → ah_T → Prop} (hb0 : hb s h) (H : i32 a1 → B_MD_group_0 G s a1 h Q ) : con G 0 0 0 m_MD_group [av_R (some 170), av_I a1] h Q := by
  have hS : isS s := hb0.2.1
  refine con_of (L := [some (av_R (some 170)), some (av_I a1)]) (by decide +kernel) (Nat.le_of_ble_eq_true rfl) rfl ?_
  refine A_locI 1 rfl (fun ra1 => ?_)
  exact b_MD_group_0   hb0 (H ra1)
