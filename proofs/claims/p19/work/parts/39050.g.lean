/-! ===== verification conditions, 506 ===== -/
def B_MD_divisor_17 (G : cx_T) (s : Nat) (a1 : Int) (a2 : Int) (v5 : Int) (v7 : Int) (h : ah_T) (Q : Option av_T → ah_T → Prop) (X17 : Int → Int → ah_T → Prop) : Prop :=
 ((v7 = 0 → Q (some (av_L v5)) h) ∧ (¬ v7 = 0 → (v7 ≠ 0) ∧ ∀ x2 : Int, x2 = (v5).tmod v7 → (-9223372036854775808) ≤ x2 → x2 ≤ 9223372036854775807 → X17 (v7) (x2) h))
theorem b_MD_divisor_17 {G : cx_T} {s : Nat} {a1 : Int} {a2 : Int} {v5 : Int} {v7 : Int} {h : ah_T} {Q : Option av_T → ah_T → Prop} {X17 : Int → Int → ah_T → Prop} (hX17 : ∀ (v5 : Int) (v7 : Int) (h : ah_T), hb s h → X17 v5 v7 h → aw G (rm_R 0 0 0) m_MD_divisor 0 0 17 [none, none, none, none, none, some (av_L v5), none, some (av_L v7), none, none, none] [] h Q) (hb0 : hb s h) (H : B_MD_divisor_17 G s a1 a2 v5 v7 h Q X17) : aw G (rm_R 0 0 0) m_MD_divisor 0 0 17 [none, none, none, none, none, some (av_L v5), none, some (av_L v7), none, none, none] [] h Q := by
  unfold B_MD_divisor_17 at H
  have hS : isS s := hb0.2.1
  refine A_lload d_MD_divisor_17 rfl ?_
  refine A_lconst_0 d_MD_divisor_19 ?_
  refine A_lcmpn d_MD_divisor_20 (fun x1 lx1 ex1 gx1 _ _ => ?_)
  refine A_if_eq (tgt := 42) d_MD_divisor_21 (by decide) (fun c => ?_) (fun c => ?_)
  · replace H := H.1 (by omega)
    refine A_lload d_MD_divisor_42 rfl ?_
    exact A_lret d_MD_divisor_44 (by decide) rfl H
  · replace H := H.2 (by omega)
    refine A_lload d_MD_divisor_24 rfl ?_
    refine A_lload d_MD_divisor_26 rfl ?_
    have H0 := H.1
    replace H := H.2
    refine A_lremc d_MD_divisor_28 H0 (fun x2 ex2 lx2 ux2 => ?_)
    replace H := H x2 ex2 lx2 ux2
    refine A_lstore (L' := [none, none, none, none, none, some (av_L v5), none, some (av_L v7), none, some (av_L x2), none]) d_MD_divisor_29 (Nat.le_of_ble_eq_true rfl) rfl ?_
    refine A_lload d_MD_divisor_31 rfl ?_
    refine A_pc (pc' := 33) rfl ?_
    refine A_lstore (L' := [none, none, none, none, none, some (av_L v7), none, some (av_L v7), none, some (av_L x2), none]) d_MD_divisor_33 (Nat.le_of_ble_eq_true rfl) rfl ?_
    refine A_lload d_MD_divisor_35 rfl ?_
    refine A_lstore (L' := [none, none, none, none, none, some (av_L v7), none, some (av_L x2), none, some (av_L x2), none]) d_MD_divisor_37 (Nat.le_of_ble_eq_true rfl) rfl ?_
    refine A_goto (tgt := 17) d_MD_divisor_39 (by decide) ?_
    refine A_pc (pc' := 17) rfl ?_
    refine A_free (L' := [none, none, none, none, none, some (av_L v7), none, some (av_L x2), none, none, none]) (And.intro rfl (And.intro rfl trivial)) ?_
    exact hX17 (v7) (x2) h  hb0 H
theorem lp_MD_divisor_17 {G : cx_T} {s : Nat} {a1 : Int} {a2 : Int} {Q : Option av_T → ah_T → Prop} (I : Int → Int → ah_T → Prop) (μ : Int → Int → ah_T → Nat) (hI : ∀ (v5 : Int) (v7 : Int) (h : ah_T), hb s h → I v5 v7 h → B_MD_divisor_17 G s a1 a2 v5 v7 h Q (fun v5' v7' h' => I v5' v7' h' ∧ μ v5' v7' h' < μ v5 v7 h)) : ∀ (v5 : Int) (v7 : Int) (h : ah_T), hb s h → I v5 v7 h → aw G (rm_R 0 0 0) m_MD_divisor 0 0 17 [none, none, none, none, none, some (av_L v5), none, some (av_L v7), none, none, none] [] h Q := by
  have key : ∀ (n : Nat) (v5 : Int) (v7 : Int) (h : ah_T), hb s h → I v5 v7 h → μ v5 v7 h < n → aw G (rm_R 0 0 0) m_MD_divisor 0 0 17 [none, none, none, none, none, some (av_L v5), none, some (av_L v7), none, none, none] [] h Q := by
    intro n
    induction n with
    | zero => intro v5 v7 h  hb0 hi hm; omega
    | succ n ih => intro v5 v7 h  hb0 hi hm; exact b_MD_divisor_17  (fun v5' v7' h'  hb' hx => ih v5' v7' h'  hb' hx.1 (by have := hx.2; omega))  hb0 (hI v5 v7 h  hb0 hi)
  exact fun v5 v7 h  hb0 hi => key _ v5 v7 h  hb0 hi (Nat.lt_succ_self _)
def B_MD_divisor_12 (G : cx_T) (s : Nat) (a1 : Int) (a2 : Int) (t0 : Int) (h : ah_T) (Q : Option av_T → ah_T → Prop) (X17 : Int → Int → ah_T → Prop) : Prop :=
 X17 (t0) (a2) h
theorem b_MD_divisor_12 {G : cx_T} {s : Nat} {a1 : Int} {a2 : Int} {t0 : Int} {h : ah_T} {Q : Option av_T → ah_T → Prop} {X17 : Int → Int → ah_T → Prop} (hX17 : ∀ (v5 : Int) (v7 : Int) (h : ah_T), hb s h → X17 v5 v7 h → aw G (rm_R 0 0 0) m_MD_divisor 0 0 17 [none, none, none, none, none, some (av_L v5), none, some (av_L v7), none, none, none] [] h Q) (hb0 : hb s h) (H : B_MD_divisor_12 G s a1 a2 t0 h Q X17) : aw G (rm_R 0 0 0) m_MD_divisor 0 0 12 [none, none, none, some (av_L a2), none, none, none, none, none, none, none] [av_L t0] h Q := by
  unfold B_MD_divisor_12 at H
  have hS : isS s := hb0.2.1
  refine A_lstore (L' := [none, none, none, some (av_L a2), none, some (av_L t0), none, none, none, none, none]) d_MD_divisor_12 (Nat.le_of_ble_eq_true rfl) rfl ?_
  refine A_lload_n 3 d_MD_divisor_14 rfl rfl ?_
  refine A_lstore (L' := [none, none, none, some (av_L a2), none, some (av_L t0), none, some (av_L a2), none, none, none]) d_MD_divisor_15 (Nat.le_of_ble_eq_true rfl) rfl ?_
  refine A_pc (pc' := 17) rfl ?_
  refine A_free (L' := [none, none, none, none, none, some (av_L t0), none, some (av_L a2), none, none, none]) (And.intro rfl (And.intro rfl trivial)) ?_
  exact hX17 (t0) (a2) h  hb0 H
def B_MD_divisor_0 (G : cx_T) (s : Nat) (a1 : Int) (a2 : Int) (h : ah_T) (Q : Option av_T → ah_T → Prop) (X17 : Int → Int → ah_T → Prop) : Prop :=
 ((0 ≤ a1 → B_MD_divisor_12 G s a1 a2 (a1) h Q X17) ∧ (¬ 0 ≤ a1 → ((-9223372036854775808) ≤ (-a1) ∧ (-a1) ≤ 9223372036854775807) ∧ B_MD_divisor_12 G s a1 a2 ((-a1)) h Q X17))
theorem b_MD_divisor_0 {G : cx_T} {s : Nat} {a1 : Int} {a2 : Int} {h : ah_T} {Q : Option av_T → ah_T → Prop} {X17 : Int → Int → ah_T → Prop} (hX17 : ∀ (v5 : Int) (v7 : Int) (h : ah_T), hb s h → X17 v5 v7 h → aw G (rm_R 0 0 0) m_MD_divisor 0 0 17 [none, none, none, none, none, some (av_L v5), none, some (av_L v7), none, none, none] [] h Q) (hb0 : hb s h) (H : B_MD_divisor_0 G s a1 a2 h Q X17) : aw G (rm_R 0 0 0) m_MD_divisor 0 0 0 [some (av_R (some 170)), some (av_L a1), none, some (av_L a2), none, none, none, none, none, none, none] [] h Q := by
  unfold B_MD_divisor_0 at H
  have hS : isS s := hb0.2.1
  refine A_lload_n 1 d_MD_divisor_0 rfl rfl ?_
  refine A_lconst_0 d_MD_divisor_1 ?_
  refine A_lcmpn d_MD_divisor_2 (fun x1 lx1 ex1 gx1 _ _ => ?_)
  refine A_if_ge (tgt := 11) d_MD_divisor_3 (by decide) (fun c => ?_) (fun c => ?_)
  · replace H := H.1 (by omega)
    refine A_lload_n 1 d_MD_divisor_11 rfl rfl ?_
    refine A_pc (pc' := 12) rfl ?_
    refine A_free (L' := [none, none, none, some (av_L a2), none, none, none, none, none, none, none]) (And.intro rfl trivial) ?_
    exact b_MD_divisor_12  hX17  hb0 H
  · replace H := H.2 (by omega)
    refine A_lload_n 1 d_MD_divisor_6 rfl rfl ?_
    have g2 := H.1
    replace H := H.2
    refine A_lnegv (z := (-a1)) d_MD_divisor_7 (w64_to (by omega) (by unfold i64; omega)) ?_
    refine A_goto (tgt := 12) d_MD_divisor_8 (by decide) ?_
    refine A_pc (pc' := 12) rfl ?_
    refine A_free (L' := [none, none, none, some (av_L a2), none, none, none, none, none, none, none]) (And.intro rfl trivial) ?_
    exact b_MD_divisor_12  hX17  hb0 H
theorem c_MD_divisor {G : cx_T} {s : Nat} {a1 : Int} {a2 : Int} {h : ah_T} {Q : Option av_T → ah_T → Prop} {X17 : Int → Int → ah_T → Prop} (hX17 : ∀ (v5 : Int) (v7 : Int) (h : ah_T), hb s h → X17 v5 v7 h → aw G (rm_R 0 0 0) m_MD_divisor 0 0 17 [none, none, none, none, none, some (av_L v5), none, some (av_L v7), none, none, none] [] h Q) (hb0 : hb s h) (H : i64 a1 → i64 a2 → B_MD_divisor_0 G s a1 a2 h Q X17) : con G 0 0 0 m_MD_divisor [av_R (some 170), av_L a1, av_L a2] h Q := by
  have hS : isS s := hb0.2.1
  refine con_of (L := [some (av_R (some 170)), some (av_L a1), none, some (av_L a2), none, none, none, none, none, none, none]) (by decide +kernel) (Nat.le_of_ble_eq_true rfl) rfl ?_
  refine A_locL 1 rfl (fun ra1 => ?_)
  refine A_locL 3 rfl (fun ra3 => ?_)
  exact b_MD_divisor_0  hX17 hb0 (H ra1 ra3)
def B_MD_fraction_0 (G : cx_T) (s : Nat) (a1 : Int) (a2 : Int) (h : ah_T) (Q : Option av_T → ah_T → Prop) : Prop :=
 con G 0 0 0 m_MD_divisor [av_R (some 170), av_L a1, av_L a2] h (fun r h1 => ∃ z3 : Int, r = some (av_L z3) ∧ hb s h1 ∧ (z3 ≠ 0) ∧ ∀ x4 : Int, x4 = w64 ((a1).tdiv z3) → (-9223372036854775808) ≤ x4 → x4 ≤ 9223372036854775807 → ∀ h5 : ah_T, h5 = st_l h1 170 65 x4 → (z3 ≠ 0) ∧ ∀ x7 : Int, x7 = w64 ((a2).tdiv z3) → (-9223372036854775808) ≤ x7 → x7 ≤ 9223372036854775807 → ∀ h8 : ah_T, h8 = st_l h5 170 66 x7 → Q none h8)
theorem b_MD_fraction_0 {G : cx_T} {s : Nat} {a1 : Int} {a2 : Int} {h : ah_T} {Q : Option av_T → ah_T → Prop} (hb0 : hb s h) (H : B_MD_fraction_0 G s a1 a2 h Q ) : aw G (rm_R 1 0 0) m_MD_fraction 0 0 0 [some (av_R (some 170)), some (av_L a1), none, some (av_L a2), none, none, none] [] h Q := by
  unfold B_MD_fraction_0 at H
  have hS : isS s := hb0.2.1
  refine A_aload_n 0 d_MD_fraction_0 rfl rfl ?_
  refine A_lload_n 1 d_MD_fraction_1 rfl rfl ?_
  refine A_lload_n 3 d_MD_fraction_2 rfl rfl ?_
  refine A_callV2 m_MD_divisor T_ok d_MD_fraction_3 l_MD_381 k_MD_divisor (hb_s hb0 sf_170) rfl (by decide +kernel) (by decide) (Nat.le_of_ble_eq_true rfl) H (fun r h1 hq => ?_)
  clear H
  obtain ⟨z3, rfl, hb2, H⟩ := hq
  refine A_lstore (L' := [some (av_R (some 170)), some (av_L a1), none, some (av_L a2), none, some (av_L z3), none]) d_MD_fraction_6 (Nat.le_of_ble_eq_true rfl) rfl ?_
  refine A_aload_n 0 d_MD_fraction_8 rfl rfl ?_
  refine A_lload_n 1 d_MD_fraction_9 rfl rfl ?_
  refine A_lload d_MD_fraction_10 rfl ?_
  have H0 := H.1
  replace H := H.2
  refine A_ldivc d_MD_fraction_12 H0 (fun x4 ex4 lx4 ux4 => ?_)
  replace H := H x4 ex4 lx4 ux4
  refine A_pc (pc' := 13) rfl ?_
  refine A_putL T_ok d_MD_fraction_13 f_MD_385 (hb_s hb2 sf_170) fin_f ?_
  refine A_hn (fun h5 eh5 => ?_)
  have hb6 := hb_l hb2 eh5
  replace H := H h5 eh5
  refine A_aload_n 0 d_MD_fraction_16 rfl rfl ?_
  refine A_lload_n 3 d_MD_fraction_17 rfl rfl ?_
  refine A_lload d_MD_fraction_18 rfl ?_
  have H0 := H.1
  replace H := H.2
  refine A_ldivc d_MD_fraction_20 H0 (fun x7 ex7 lx7 ux7 => ?_)
  replace H := H x7 ex7 lx7 ux7
  refine A_putL T_ok d_MD_fraction_21 f_MD_388 (hb_s hb6 sf_170) fin_f ?_
  refine A_hn (fun h8 eh8 => ?_)
  have hb9 := hb_l hb6 eh8
  replace H := H h8 eh8
  refine A_pc (pc' := 24) rfl ?_
  exact A_vret d_MD_fraction_24 (by decide) rfl H
theorem c_MD_fraction {G : cx_T} {s : Nat} {a1 : Int} {a2 : Int} {h : ah_T} {Q : Option av_T → ah_T → Prop} (hb0 : hb s h) (H : i64 a1 → i64 a2 → B_MD_fraction_0 G s a1 a2 h Q ) : con G 1 0 0 m_MD_fraction [av_R (some 170), av_L a1, av_L a2] h Q := by
  have hS : isS s := hb0.2.1
  refine con_of (L := [some (av_R (some 170)), some (av_L a1), none, some (av_L a2), none, none, none]) (by decide +kernel) (Nat.le_of_ble_eq_true rfl) rfl ?_
  refine A_locL 1 rfl (fun ra1 => ?_)
  refine A_locL 3 rfl (fun ra3 => ?_)
  exact b_MD_fraction_0   hb0 (H ra1 ra3)
def B_MD_sum_0 (G : cx_T) (s : Nat) (a1 : Int) (a2 : Int) (a3 : Int) (a4 : Int) (h : ah_T) (Q : Option av_T → ah_T → Prop) : Prop :=
 ∀ x1 : Int, x1 = a1 * a4 → ((-9223372036854775808) ≤ x1 ∧ x1 ≤ 9223372036854775807) ∧ ∀ x3 : Int, x3 = a3 * a2 → ((-9223372036854775808) ≤ x3 ∧ x3 ≤ 9223372036854775807) ∧ ((-9223372036854775808) ≤ (x1 + x3) ∧ (x1 + x3) ≤ 9223372036854775807) ∧ ∀ x6 : Int, x6 = a2 * a4 → ((-9223372036854775808) ≤ x6 ∧ x6 ≤ 9223372036854775807) ∧ con G 1 0 0 m_MD_fraction [av_R (some 170), av_L (x1 + x3), av_L x6] h (fun r h8 => r = none ∧ hb s h8 ∧ Q none h8)
theorem b_MD_sum_0 {G : cx_T} {s : Nat} {a1 : Int} {a2 : Int} {a3 : Int} {a4 : Int} {h : ah_T} {Q : Option av_T → ah_T → Prop} (hb0 : hb s h) (H : B_MD_sum_0 G s a1 a2 a3 a4 h Q ) : aw G (rm_R 2 0 0) m_MD_sum 0 0 0 [some (av_R (some 170)), some (av_L a1), none, some (av_L a2), none, some (av_L a3), none, some (av_L a4), none] [] h Q := by
  unfold B_MD_sum_0 at H
  have hS : isS s := hb0.2.1
  refine A_aload_n 0 d_MD_sum_0 rfl rfl ?_
  refine A_lload_n 1 d_MD_sum_1 rfl rfl ?_
  refine A_lload d_MD_sum_2 rfl ?_
  obtain ⟨x1, ex1⟩ : ∃ z : Int, z = a1 * a4 := ⟨_, rfl⟩
  replace H := H x1 ex1
  have g2 := H.1
  replace H := H.2
  refine A_lmulv (z := x1) d_MD_sum_4 (w64_to ex1.symm (by unfold i64; omega)) ?_
  refine A_lload d_MD_sum_5 rfl ?_
  refine A_pc (pc' := 7) rfl ?_
  refine A_lload_n 3 d_MD_sum_7 rfl rfl ?_
  obtain ⟨x3, ex3⟩ : ∃ z : Int, z = a3 * a2 := ⟨_, rfl⟩
  replace H := H x3 ex3
  have g4 := H.1
  replace H := H.2
  refine A_lmulv (z := x3) d_MD_sum_8 (w64_to ex3.symm (by unfold i64; omega)) ?_
  have g5 := H.1
  replace H := H.2
  refine A_laddv (z := (x1 + x3)) d_MD_sum_9 (w64_to (by omega) (by unfold i64; omega)) ?_
  refine A_lload_n 3 d_MD_sum_10 rfl rfl ?_
  refine A_lload d_MD_sum_11 rfl ?_
  obtain ⟨x6, ex6⟩ : ∃ z : Int, z = a2 * a4 := ⟨_, rfl⟩
  replace H := H x6 ex6
  have g7 := H.1
  replace H := H.2
  refine A_lmulv (z := x6) d_MD_sum_13 (w64_to ex6.symm (by unfold i64; omega)) ?_
  refine A_pc (pc' := 14) rfl ?_
  refine A_callV2 m_MD_fraction T_ok d_MD_sum_14 l_MD_391 k_MD_fraction (hb_s hb0 sf_170) rfl (by decide +kernel) (by decide) (Nat.le_of_ble_eq_true rfl) H (fun r h8 hq => ?_)
  clear H
  obtain ⟨rfl, hb9, H⟩ := hq
  exact A_vret d_MD_sum_17 (by decide) rfl H
theorem c_MD_sum {G : cx_T} {s : Nat} {a1 : Int} {a2 : Int} {a3 : Int} {a4 : Int} {h : ah_T} {Q : Option av_T → ah_T → Prop} (hb0 : hb s h) (H : i64 a1 → i64 a2 → i64 a3 → i64 a4 → B_MD_sum_0 G s a1 a2 a3 a4 h Q ) : con G 2 0 0 m_MD_sum [av_R (some 170), av_L a1, av_L a2, av_L a3, av_L a4] h Q := by
  have hS : isS s := hb0.2.1
  refine con_of (L := [some (av_R (some 170)), some (av_L a1), none, some (av_L a2), none, some (av_L a3), none, some (av_L a4), none]) (by decide +kernel) (Nat.le_of_ble_eq_true rfl) rfl ?_
  refine A_locL 1 rfl (fun ra1 => ?_)
  refine A_locL 3 rfl (fun ra3 => ?_)
  refine A_locL 5 rfl (fun ra5 => ?_)
  refine A_locL 7 rfl (fun ra7 => ?_)
  exact b_MD_sum_0   hb0 (H ra1 ra3 ra5 ra7)
def B_MD_compare_37 (G : cx_T) (s : Nat) (a1 : Int) (a2 : Int) (a3 : Int) (a4 : Int) (t0 : Int) (h : ah_T) (Q : Option av_T → ah_T → Prop) : Prop :=
 Q (some (av_I t0)) h
theorem b_MD_compare_37 {G : cx_T} {s : Nat} {a1 : Int} {a2 : Int} {a3 : Int} {a4 : Int} {t0 : Int} {h : ah_T} {Q : Option av_T → ah_T → Prop} (hb0 : hb s h) (H : B_MD_compare_37 G s a1 a2 a3 a4 t0 h Q ) : aw G (rm_R 0 0 0) m_MD_compare 0 0 37 [none, none, none, none, none, none, none, none, none, none, none, none, none] [av_I t0] h Q := by
  unfold B_MD_compare_37 at H
  have hS : isS s := hb0.2.1
  exact A_iret d_MD_compare_37 (by decide) rfl H
def B_MD_compare_0 (G : cx_T) (s : Nat) (a1 : Int) (a2 : Int) (a3 : Int) (a4 : Int) (h : ah_T) (Q : Option av_T → ah_T → Prop) : Prop :=
 ∀ x1 : Int, x1 = a1 * a4 → ((-9223372036854775808) ≤ x1 ∧ x1 ≤ 9223372036854775807) ∧ ∀ x3 : Int, x3 = a3 * a2 → ((-9223372036854775808) ≤ x3 ∧ x3 ≤ 9223372036854775807) ∧ ((x3 ≤ x1 → ((x1 ≤ x3 → B_MD_compare_37 G s a1 a2 a3 a4 (0) h Q ) ∧ (¬ x1 ≤ x3 → B_MD_compare_37 G s a1 a2 a3 a4 (1) h Q ))) ∧ (¬ x3 ≤ x1 → B_MD_compare_37 G s a1 a2 a3 a4 ((-1)) h Q ))
theorem b_MD_compare_0 {G : cx_T} {s : Nat} {a1 : Int} {a2 : Int} {a3 : Int} {a4 : Int} {h : ah_T} {Q : Option av_T → ah_T → Prop} (hb0 : hb s h) (H : B_MD_compare_0 G s a1 a2 a3 a4 h Q ) : aw G (rm_R 0 0 0) m_MD_compare 0 0 0 [some (av_R (some 170)), some (av_L a1), none, some (av_L a2), none, some (av_L a3), none, some (av_L a4), none, none, none, none, none] [] h Q := by
  unfold B_MD_compare_0 at H
  have hS : isS s := hb0.2.1
  refine A_lload_n 1 d_MD_compare_0 rfl rfl ?_
  refine A_lload d_MD_compare_1 rfl ?_
  obtain ⟨x1, ex1⟩ : ∃ z : Int, z = a1 * a4 := ⟨_, rfl⟩
  replace H := H x1 ex1
  have g2 := H.1
  replace H := H.2
  refine A_lmulv (z := x1) d_MD_compare_3 (w64_to ex1.symm (by unfold i64; omega)) ?_
  refine A_lstore (L' := [some (av_R (some 170)), some (av_L a1), none, some (av_L a2), none, some (av_L a3), none, some (av_L a4), none, some (av_L x1), none, none, none]) d_MD_compare_4 (Nat.le_of_ble_eq_true rfl) rfl ?_
  refine A_lload d_MD_compare_6 rfl ?_
  refine A_pc (pc' := 8) rfl ?_
  refine A_lload_n 3 d_MD_compare_8 rfl rfl ?_
  obtain ⟨x3, ex3⟩ : ∃ z : Int, z = a3 * a2 := ⟨_, rfl⟩
  replace H := H x3 ex3
  have g4 := H.1
  replace H := H.2
  refine A_lmulv (z := x3) d_MD_compare_9 (w64_to ex3.symm (by unfold i64; omega)) ?_
  refine A_lstore (L' := [some (av_R (some 170)), some (av_L a1), none, some (av_L a2), none, some (av_L a3), none, some (av_L a4), none, some (av_L x1), none, some (av_L x3), none]) d_MD_compare_10 (Nat.le_of_ble_eq_true rfl) rfl ?_
  refine A_lload d_MD_compare_12 rfl ?_
  refine A_lload d_MD_compare_14 rfl ?_
  refine A_lcmpn d_MD_compare_16 (fun x5 lx5 ex5 gx5 _ _ => ?_)
  refine A_pc (pc' := 17) rfl ?_
  refine A_if_ge (tgt := 24) d_MD_compare_17 (by decide) (fun c => ?_) (fun c => ?_)
  · replace H := H.1 (by omega)
    refine A_lload d_MD_compare_24 rfl ?_
    refine A_lload d_MD_compare_26 rfl ?_
    refine A_lcmpn d_MD_compare_28 (fun x6 lx6 ex6 gx6 _ _ => ?_)
    refine A_if_le (tgt := 36) d_MD_compare_29 (by decide) (fun c => ?_) (fun c => ?_)
    · replace H := H.1 (by omega)
      refine A_iconst d_MD_compare_36 rfl ?_
      refine A_pc (pc' := 37) rfl ?_
      refine A_free (L' := [none, none, none, none, none, none, none, none, none, none, none, none, none]) trivial ?_
      exact b_MD_compare_37    hb0 H
    · replace H := H.2 (by omega)
      refine A_iconst d_MD_compare_32 rfl ?_
      refine A_goto (tgt := 37) d_MD_compare_33 (by decide) ?_
      refine A_pc (pc' := 37) rfl ?_
      refine A_free (L' := [none, none, none, none, none, none, none, none, none, none, none, none, none]) trivial ?_
      exact b_MD_compare_37    hb0 H
  · replace H := H.2 (by omega)
    refine A_iconst d_MD_compare_20 rfl ?_
    refine A_goto (tgt := 37) d_MD_compare_21 (by decide) ?_
    refine A_pc (pc' := 37) rfl ?_
    refine A_free (L' := [none, none, none, none, none, none, none, none, none, none, none, none, none]) trivial ?_
    exact b_MD_compare_37    hb0 H
theorem c_MD_compare {G : cx_T} {s : Nat} {a1 : Int} {a2 : Int} {a3 : Int} {a4 : Int} {h : ah_T} {Q : Option av_T → ah_T → Prop} (hb0 : hb s h) (H : i64 a1 → i64 a2 → i64 a3 → i64 a4 → B_MD_compare_0 G s a1 a2 a3 a4 h Q ) : con G 0 0 0 m_MD_compare [av_R (some 170), av_L a1, av_L a2, av_L a3, av_L a4] h Q := by
  have hS : isS s := hb0.2.1
  refine con_of (L := [some (av_R (some 170)), some (av_L a1), none, some (av_L a2), none, some (av_L a3), none, some (av_L a4), none, none, none, none, none]) (by decide +kernel) (Nat.le_of_ble_eq_true rfl) rfl ?_
  refine A_locL 1 rfl (fun ra1 => ?_)
  refine A_locL 3 rfl (fun ra3 => ?_)
  refine A_locL 5 rfl (fun ra5 => ?_)
  refine A_locL 7 rfl (fun ra7 => ?_)
  exact b_MD_compare_0   hb0 (H ra1 ra3 ra5 ra7)
def B_MD_isFar_23 (G : cx_T) (s : Nat) (a1 : Int) (a2 : Int) (t0 : Int) (h : ah_T) (Q : Option av_T → ah_T → Prop) : Prop :=
 (t0 = 0 ∨ t0 = 1) ∧ Q (some (av_I t0)) h
theorem b_MD_isFar_23 {G : cx_T} {s : Nat} {a1 : Int} {a2 : Int} {t0 : Int} {h : ah_T} {Q : Option av_T → ah_T → Prop} (hb0 : hb s h) (H : B_MD_isFar_23 G s a1 a2 t0 h Q ) : aw G (rm_R 0 0 0) m_MD_isFar 0 0 23 [none, none, none, none, none] [av_I t0] h Q := by
  unfold B_MD_isFar_23 at H
  have hS : isS s := hb0.2.1
  exact A_zret d_MD_isFar_23 (by decide) rfl H.1 H.2
def B_MD_isFar_18 (G : cx_T) (s : Nat) (a1 : Int) (a2 : Int) (h : ah_T) (Q : Option av_T → ah_T → Prop) : Prop :=
 B_MD_isFar_23 G s a1 a2 (1) h Q 
theorem b_MD_isFar_18 {G : cx_T} {s : Nat} {a1 : Int} {a2 : Int} {h : ah_T} {Q : Option av_T → ah_T → Prop} (hb0 : hb s h) (H : B_MD_isFar_18 G s a1 a2 h Q ) : aw G (rm_R 0 0 0) m_MD_isFar 0 0 18 [none, none, none, none, none] [] h Q := by
  unfold B_MD_isFar_18 at H
  have hS : isS s := hb0.2.1
  refine A_iconst d_MD_isFar_18 rfl ?_
  refine A_goto (tgt := 23) d_MD_isFar_19 (by decide) ?_
  refine A_pc (pc' := 23) rfl ?_
  exact b_MD_isFar_23    hb0 H
def B_MD_isFar_0 (G : cx_T) (s : Nat) (a1 : Int) (a2 : Int) (h : ah_T) (Q : Option av_T → ah_T → Prop) : Prop :=
 ((-9223372036854775808) ≤ (1000 * a2) ∧ (1000 * a2) ≤ 9223372036854775807) ∧ (((1000 * a2) < a1 → B_MD_isFar_18 G s a1 a2 h Q ) ∧ (¬ (1000 * a2) < a1 → ((a2 ≤ 1000000 → B_MD_isFar_23 G s a1 a2 (0) h Q ) ∧ (¬ a2 ≤ 1000000 → B_MD_isFar_18 G s a1 a2 h Q ))))
theorem b_MD_isFar_0 {G : cx_T} {s : Nat} {a1 : Int} {a2 : Int} {h : ah_T} {Q : Option av_T → ah_T → Prop} (hb0 : hb s h) (H : B_MD_isFar_0 G s a1 a2 h Q ) : aw G (rm_R 0 0 0) m_MD_isFar 0 0 0 [some (av_R (some 170)), some (av_L a1), none, some (av_L a2), none] [] h Q := by
  unfold B_MD_isFar_0 at H
  have hS : isS s := hb0.2.1
  refine A_lload_n 1 d_MD_isFar_0 rfl rfl ?_
  refine A_ldc2 (z := 1000) d_MD_isFar_1 cst_MD_395 rfl ?_
  refine A_lload_n 3 d_MD_isFar_4 rfl rfl ?_
  have g1 := H.1
  replace H := H.2
  refine A_lmulv (z := (1000 * a2)) d_MD_isFar_5 (w64_to (by omega) (by unfold i64; omega)) ?_
  refine A_lcmpn d_MD_isFar_6 (fun x2 lx2 ex2 gx2 _ _ => ?_)
  refine A_pc (pc' := 7) rfl ?_
  refine A_if_gt (tgt := 18) d_MD_isFar_7 (by decide) (fun c => ?_) (fun c => ?_)
  · replace H := H.1 (by omega)
    refine A_pc (pc' := 18) rfl ?_
    refine A_free (L' := [none, none, none, none, none]) trivial ?_
    exact b_MD_isFar_18    hb0 H
  · replace H := H.2 (by omega)
    refine A_lload_n 3 d_MD_isFar_10 rfl rfl ?_
    refine A_ldc2 (z := 1000000) d_MD_isFar_11 cst_MD_397 rfl ?_
    refine A_lcmpn d_MD_isFar_14 (fun x3 lx3 ex3 gx3 _ _ => ?_)
    refine A_if_le (tgt := 22) d_MD_isFar_15 (by decide) (fun c => ?_) (fun c => ?_)
    · replace H := H.1 (by omega)
      refine A_iconst d_MD_isFar_22 rfl ?_
      refine A_pc (pc' := 23) rfl ?_
      refine A_free (L' := [none, none, none, none, none]) trivial ?_
      exact b_MD_isFar_23    hb0 H
    · replace H := H.2 (by omega)
      refine A_pc (pc' := 18) rfl ?_
      refine A_free (L' := [none, none, none, none, none]) trivial ?_
      exact b_MD_isFar_18    hb0 H
theorem c_MD_isFar {G : cx_T} {s : Nat} {a1 : Int} {a2 : Int} {h : ah_T} {Q : Option av_T → ah_T → Prop} (hb0 : hb s h) (H : i64 a1 → i64 a2 → B_MD_isFar_0 G s a1 a2 h Q ) : con G 0 0 0 m_MD_isFar [av_R (some 170), av_L a1, av_L a2] h Q := by
  have hS : isS s := hb0.2.1
  refine con_of (L := [some (av_R (some 170)), some (av_L a1), none, some (av_L a2), none]) (by decide +kernel) (Nat.le_of_ble_eq_true rfl) rfl ?_
  refine A_locL 1 rfl (fun ra1 => ?_)
  refine A_locL 3 rfl (fun ra3 => ?_)
  exact b_MD_isFar_0   hb0 (H ra1 ra3)
def B_MD_closing_0 (G : cx_T) (s : Nat) (a1 : Int) (h : ah_T) (Q : Option av_T → ah_T → Prop) : Prop :=
 (0 ≤ a1 ∧ a1 < 2100) ∧ ∀ x2 : Int, x2 = h.2.1 210 (a1).toNat → -2147483648 ≤ x2 → x2 ≤ 2147483647 → Q (some (av_I x2)) h
theorem b_MD_closing_0 {G : cx_T} {s : Nat} {a1 : Int} {h : ah_T} {Q : Option av_T → ah_T → Prop} (hb0 : hb s h) (H : B_MD_closing_0 G s a1 h Q ) : aw G (rm_R 0 0 0) m_MD_closing 0 0 0 [some (av_R (some 170)), some (av_I a1)] [] h Q := by
  unfold B_MD_closing_0 at H
  have hS : isS s := hb0.2.1
  refine A_aload_n 0 d_MD_closing_0 rfl rfl ?_
  refine A_getAv (z := some 210) T_ok d_MD_closing_1 f_MD_133 (hb_s hb0 sf_170) (hb_m hb0 rfm_53) ?_
  refine A_iload_n 1 d_MD_closing_4 rfl rfl ?_
  have g3 := H.1
  replace H := H.2
  refine A_ialoadf d_MD_closing_5 (hb_s hb0 sf_210) g3.1 g3.2 (fun x2 ex2 lx2 ux2 => ?_)
  replace H := H x2 ex2 lx2 ux2
  exact A_iret d_MD_closing_6 (by decide) rfl H
theorem c_MD_closing {G : cx_T} {s : Nat} {a1 : Int} {h : ah_T} {Q : Option av_T → ah_T → Prop} (hb0 : hb s h) (H : i32 a1 → B_MD_closing_0 G s a1 h Q ) : con G 0 0 0 m_MD_closing [av_R (some 170), av_I a1] h Q := by
  have hS : isS s := hb0.2.1
  refine con_of (L := [some (av_R (some 170)), some (av_I a1)]) (by decide +kernel) (Nat.le_of_ble_eq_true rfl) rfl ?_
  refine A_locI 1 rfl (fun ra1 => ?_)
  exact b_MD_closing_0   hb0 (H ra1)
def B_MD_colons_0 (G : cx_T) (s : Nat) (a1 : Int) (h : ah_T) (Q : Option av_T → ah_T → Prop) : Prop :=
 (0 ≤ a1 ∧ a1 < 2100) ∧ ∀ x2 : Int, x2 = h.2.1 214 (a1).toNat → -2147483648 ≤ x2 → x2 ≤ 2147483647 → Q (some (av_I x2)) h
theorem b_MD_colons_0 {G : cx_T} {s : Nat} {a1 : Int} {h : ah_T} {Q : Option av_T → ah_T → Prop} (hb0 : hb s h) (H : B_MD_colons_0 G s a1 h Q ) : aw G (rm_R 0 0 0) m_MD_colons 0 0 0 [some (av_R (some 170)), some (av_I a1)] [] h Q := by
  unfold B_MD_colons_0 at H
  have hS : isS s := hb0.2.1
  refine A_aload_n 0 d_MD_colons_0 rfl rfl ?_
  refine A_getAv (z := some 214) T_ok d_MD_colons_1 f_MD_145 (hb_s hb0 sf_170) (hb_m hb0 rfm_57) ?_
  refine A_iload_n 1 d_MD_colons_4 rfl rfl ?_
  have g3 := H.1
  replace H := H.2
  refine A_ialoadf d_MD_colons_5 (hb_s hb0 sf_214) g3.1 g3.2 (fun x2 ex2 lx2 ux2 => ?_)
  replace H := H x2 ex2 lx2 ux2
  exact A_iret d_MD_colons_6 (by decide) rfl H
theorem c_MD_colons {G : cx_T} {s : Nat} {a1 : Int} {h : ah_T} {Q : Option av_T → ah_T → Prop} (hb0 : hb s h) (H : i32 a1 → B_MD_colons_0 G s a1 h Q ) : con G 0 0 0 m_MD_colons [av_R (some 170), av_I a1] h Q := by
  have hS : isS s := hb0.2.1
  refine con_of (L := [some (av_R (some 170)), some (av_I a1)]) (by decide +kernel) (Nat.le_of_ble_eq_true rfl) rfl ?_
  refine A_locI 1 rfl (fun ra1 => ?_)
  exact b_MD_colons_0   hb0 (H ra1)
def B_MD_behindColon_10 (G : cx_T) (s : Nat) (a1 : Int) (a2 : Int) (v3 : Int) (v4 : Int) (h : ah_T) (Q : Option av_T → ah_T → Prop) (X10 : Int → Int → ah_T → Prop) : Prop :=
 ((a2 ≤ v4 → ((-2147483648) ≤ (v3 + 1) ∧ (v3 + 1) ≤ 2147483647) ∧ Q (some (av_I (v3 + 1))) h) ∧ (¬ a2 ≤ v4 → (0 ≤ v3 ∧ v3 < 2100) ∧ ∀ x3 : Int, x3 = h.2.1 212 (v3).toNat → -2147483648 ≤ x3 → x3 ≤ 2147483647 → ((-2147483648) ≤ (v4 + 1) ∧ (v4 + 1) ≤ 2147483647) ∧ X10 (x3) ((v4 + 1)) h))
theorem b_MD_behindColon_10 {G : cx_T} {s : Nat} {a1 : Int} {a2 : Int} {v3 : Int} {v4 : Int} {h : ah_T} {Q : Option av_T → ah_T → Prop} {X10 : Int → Int → ah_T → Prop} (hX10 : ∀ (v3 : Int) (v4 : Int) (h : ah_T), hb s h → X10 v3 v4 h → aw G (rm_R 0 0 0) m_MD_behindColon 0 0 10 [some (av_R (some 170)), none, some (av_I a2), some (av_I v3), some (av_I v4)] [] h Q) (hb0 : hb s h) (H : B_MD_behindColon_10 G s a1 a2 v3 v4 h Q X10) : aw G (rm_R 0 0 0) m_MD_behindColon 0 0 10 [some (av_R (some 170)), none, some (av_I a2), some (av_I v3), some (av_I v4)] [] h Q := by
  unfold B_MD_behindColon_10 at H
  have hS : isS s := hb0.2.1
  refine A_iload d_MD_behindColon_10 rfl ?_
  refine A_iload_n 2 d_MD_behindColon_12 rfl rfl ?_
  refine A_icmp_ge (tgt := 29) d_MD_behindColon_13 (by decide) (fun c => ?_) (fun c => ?_)
  · replace H := H.1 c
    refine A_iload_n 3 d_MD_behindColon_29 rfl rfl ?_
    refine A_iconst d_MD_behindColon_30 rfl ?_
    have g1 := H.1
    replace H := H.2
    refine A_iaddv (z := (v3 + 1)) d_MD_behindColon_31 (w32_to (by omega) (by unfold i32; omega)) ?_
    exact A_iret d_MD_behindColon_32 (by decide) rfl H
  · replace H := H.2 c
    refine A_aload_n 0 d_MD_behindColon_16 rfl rfl ?_
    refine A_getAv (z := some 212) T_ok d_MD_behindColon_17 f_MD_139 (hb_s hb0 sf_170) (hb_m hb0 rfm_55) ?_
    refine A_iload_n 3 d_MD_behindColon_20 rfl rfl ?_
    have g4 := H.1
    replace H := H.2
    refine A_ialoadf d_MD_behindColon_21 (hb_s hb0 sf_212) g4.1 g4.2 (fun x3 ex3 lx3 ux3 => ?_)
    replace H := H x3 ex3 lx3 ux3
    refine A_istore_n 3 (L' := [some (av_R (some 170)), none, some (av_I a2), some (av_I x3), some (av_I v4)]) d_MD_behindColon_22 rfl (Nat.le_of_ble_eq_true rfl) rfl ?_
    refine A_pc (pc' := 23) rfl ?_
    have g5 := H.1
    replace H := H.2
    refine A_iincv (z := (v4 + 1)) (L' := [some (av_R (some 170)), none, some (av_I a2), some (av_I x3), some (av_I (v4 + 1))]) d_MD_behindColon_23 rfl (w32_to (by omega) (by unfold i32; omega)) rfl ?_
    refine A_goto (tgt := 10) d_MD_behindColon_26 (by decide) ?_
    refine A_pc (pc' := 10) rfl ?_
    exact hX10 (x3) ((v4 + 1)) h  hb0 H
theorem lp_MD_behindColon_10 {G : cx_T} {s : Nat} {a1 : Int} {a2 : Int} {Q : Option av_T → ah_T → Prop} (I : Int → Int → ah_T → Prop) (μ : Int → Int → ah_T → Nat) (hI : ∀ (v3 : Int) (v4 : Int) (h : ah_T), hb s h → I v3 v4 h → B_MD_behindColon_10 G s a1 a2 v3 v4 h Q (fun v3' v4' h' => I v3' v4' h' ∧ μ v3' v4' h' < μ v3 v4 h)) : ∀ (v3 : Int) (v4 : Int) (h : ah_T), hb s h → I v3 v4 h → aw G (rm_R 0 0 0) m_MD_behindColon 0 0 10 [some (av_R (some 170)), none, some (av_I a2), some (av_I v3), some (av_I v4)] [] h Q := by
  have key : ∀ (n : Nat) (v3 : Int) (v4 : Int) (h : ah_T), hb s h → I v3 v4 h → μ v3 v4 h < n → aw G (rm_R 0 0 0) m_MD_behindColon 0 0 10 [some (av_R (some 170)), none, some (av_I a2), some (av_I v3), some (av_I v4)] [] h Q := by
    intro n
    induction n with
    | zero => intro v3 v4 h  hb0 hi hm; omega
    | succ n ih => intro v3 v4 h  hb0 hi hm; exact b_MD_behindColon_10  (fun v3' v4' h'  hb' hx => ih v3' v4' h'  hb' hx.1 (by have := hx.2; omega))  hb0 (hI v3 v4 h  hb0 hi)
  exact fun v3 v4 h  hb0 hi => key _ v3 v4 h  hb0 hi (Nat.lt_succ_self _)
def B_MD_behindColon_0 (G : cx_T) (s : Nat) (a1 : Int) (a2 : Int) (h : ah_T) (Q : Option av_T → ah_T → Prop) (X10 : Int → Int → ah_T → Prop) : Prop :=
 (0 ≤ a1 ∧ a1 < 2100) ∧ ∀ x2 : Int, x2 = h.2.1 211 (a1).toNat → -2147483648 ≤ x2 → x2 ≤ 2147483647 → X10 (x2) (1) h
theorem b_MD_behindColon_0 {G : cx_T} {s : Nat} {a1 : Int} {a2 : Int} {h : ah_T} {Q : Option av_T → ah_T → Prop} {X10 : Int → Int → ah_T → Prop} (hX10 : ∀ (v3 : Int) (v4 : Int) (h : ah_T), hb s h → X10 v3 v4 h → aw G (rm_R 0 0 0) m_MD_behindColon 0 0 10 [some (av_R (some 170)), none, some (av_I a2), some (av_I v3), some (av_I v4)] [] h Q) (hb0 : hb s h) (H : B_MD_behindColon_0 G s a1 a2 h Q X10) : aw G (rm_R 0 0 0) m_MD_behindColon 0 0 0 [some (av_R (some 170)), some (av_I a1), some (av_I a2), none, none] [] h Q := by
  unfold B_MD_behindColon_0 at H
  have hS : isS s := hb0.2.1
  refine A_aload_n 0 d_MD_behindColon_0 rfl rfl ?_
  refine A_getAv (z := some 211) T_ok d_MD_behindColon_1 f_MD_136 (hb_s hb0 sf_170) (hb_m hb0 rfm_54) ?_
  refine A_iload_n 1 d_MD_behindColon_4 rfl rfl ?_
  have g3 := H.1
  replace H := H.2
  refine A_ialoadf d_MD_behindColon_5 (hb_s hb0 sf_211) g3.1 g3.2 (fun x2 ex2 lx2 ux2 => ?_)
  replace H := H x2 ex2 lx2 ux2
  refine A_istore_n 3 (L' := [some (av_R (some 170)), some (av_I a1), some (av_I a2), some (av_I x2), none]) d_MD_behindColon_6 rfl (Nat.le_of_ble_eq_true rfl) rfl ?_
  refine A_pc (pc' := 7) rfl ?_
  refine A_iconst d_MD_behindColon_7 rfl ?_
  refine A_istore (L' := [some (av_R (some 170)), some (av_I a1), some (av_I a2), some (av_I x2), some (av_I 1)]) d_MD_behindColon_8 (Nat.le_of_ble_eq_true rfl) rfl ?_
  refine A_pc (pc' := 10) rfl ?_
  refine A_free (L' := [some (av_R (some 170)), none, some (av_I a2), some (av_I x2), some (av_I 1)]) (And.intro rfl (And.intro rfl (And.intro rfl (And.intro rfl trivial)))) ?_
  exact hX10 (x2) (1) h  hb0 H
theorem c_MD_behindColon {G : cx_T} {s : Nat} {a1 : Int} {a2 : Int} {h : ah_T} {Q : Option av_T → ah_T → Prop} {X10 : Int → Int → ah_T → Prop} (hX10 : ∀ (v3 : Int) (v4 : Int) (h : ah_T), hb s h → X10 v3 v4 h → aw G (rm_R 0 0 0) m_MD_behindColon 0 0 10 [some (av_R (some 170)), none, some (av_I a2), some (av_I v3), some (av_I v4)] [] h Q) (hb0 : hb s h) (H : i32 a1 → i32 a2 → B_MD_behindColon_0 G s a1 a2 h Q X10) : con G 0 0 0 m_MD_behindColon [av_R (some 170), av_I a1, av_I a2] h Q := by
  have hS : isS s := hb0.2.1
  refine con_of (L := [some (av_R (some 170)), some (av_I a1), some (av_I a2), none, none]) (by decide +kernel) (Nat.le_of_ble_eq_true rfl) rfl ?_
  refine A_locI 1 rfl (fun ra1 => ?_)
  refine A_locI 2 rfl (fun ra2 => ?_)
  exact b_MD_behindColon_0  hX10 hb0 (H ra1 ra2)
def B_MD_opening_0 (G : cx_T) (s : Nat) (a1 : Int) (h : ah_T) (Q : Option av_T → ah_T → Prop) : Prop :=
 (0 ≤ a1 ∧ a1 < 2100) ∧ ∀ x2 : Int, x2 = h.2.1 210 (a1).toNat → -2147483648 ≤ x2 → x2 ≤ 2147483647 → Q (some (av_I x2)) h
theorem b_MD_opening_0 {G : cx_T} {s : Nat} {a1 : Int} {h : ah_T} {Q : Option av_T → ah_T → Prop} (hb0 : hb s h) (H : B_MD_opening_0 G s a1 h Q ) : aw G (rm_R 0 0 0) m_MD_opening 0 0 0 [some (av_R (some 170)), some (av_I a1)] [] h Q := by
  unfold B_MD_opening_0 at H
  have hS : isS s := hb0.2.1
  refine A_aload_n 0 d_MD_opening_0 rfl rfl ?_
  refine A_getAv (z := some 210) T_ok d_MD_opening_1 f_MD_133 (hb_s hb0 sf_170) (hb_m hb0 rfm_53) ?_
  refine A_iload_n 1 d_MD_opening_4 rfl rfl ?_
  have g3 := H.1
  replace H := H.2
  refine A_ialoadf d_MD_opening_5 (hb_s hb0 sf_210) g3.1 g3.2 (fun x2 ex2 lx2 ux2 => ?_)
  replace H := H x2 ex2 lx2 ux2
  exact A_iret d_MD_opening_6 (by decide) rfl H
theorem c_MD_opening {G : cx_T} {s : Nat} {a1 : Int} {h : ah_T} {Q : Option av_T → ah_T → Prop} (hb0 : hb s h) (H : i32 a1 → B_MD_opening_0 G s a1 h Q ) : con G 0 0 0 m_MD_opening [av_R (some 170), av_I a1] h Q := by
  have hS : isS s := hb0.2.1
  refine con_of (L := [some (av_R (some 170)), some (av_I a1)]) (by decide +kernel) (Nat.le_of_ble_eq_true rfl) rfl ?_
  refine A_locI 1 rfl (fun ra1 => ?_)
  exact b_MD_opening_0   hb0 (H ra1)
def B_MD_isIn_0 (G : cx_T) (s : Nat) (a1 : Int) (h : ah_T) (Q : Option av_T → ah_T → Prop) : Prop :=
 ∀ x2 : Int, x2 = h.2.1 170 70 → -2147483648 ≤ x2 → x2 ≤ 2147483647 → ((-2147483648) ≤ (x2 - 1) ∧ (x2 - 1) ≤ 2147483647) ∧ (0 ≤ (x2 - 1) ∧ (x2 - 1) < 10) ∧ ∀ x4 : Int, x4 = h.2.1 220 ((x2 - 1)).toNat → (x4 = 0 ∨ x4 = 1) → (x4 = 0 ∨ x4 = 1) ∧ Q (some (av_I x4)) h
theorem b_MD_isIn_0 {G : cx_T} {s : Nat} {a1 : Int} {h : ah_T} {Q : Option av_T → ah_T → Prop} (hb0 : hb s h) (H : B_MD_isIn_0 G s a1 h Q ) : aw G (rm_R 0 0 0) m_MD_isIn 0 0 0 [some (av_R (some 170)), some (av_I a1)] [] h Q := by
  unfold B_MD_isIn_0 at H
  have hS : isS s := hb0.2.1
  refine A_aload_n 0 d_MD_isIn_0 rfl rfl ?_
  refine A_getAv (z := some 220) T_ok d_MD_isIn_1 f_MD_163 (hb_s hb0 sf_170) (hb_m hb0 rfm_79) ?_
  refine A_aload_n 0 d_MD_isIn_4 rfl rfl ?_
  refine A_getIf T_ok d_MD_isIn_5 f_MD_399 (hb_s hb0 sf_170) (fun x2 ex2 lx2 ux2 => ?_)
  replace H := H x2 ex2 lx2 ux2
  refine A_iconst d_MD_isIn_8 rfl ?_
  refine A_pc (pc' := 9) rfl ?_
  have g3 := H.1
  replace H := H.2
  refine A_isubv (z := (x2 - 1)) d_MD_isIn_9 (w32_to (by omega) (by unfold i32; omega)) ?_
  have g5 := H.1
  replace H := H.2
  refine A_zaloadn d_MD_isIn_10 (hb_s hb0 sf_220) g5.1 g5.2 (fun x4 ex4 bx4 => ?_)
  replace H := H x4 ex4 bx4
  exact A_zret d_MD_isIn_11 (by decide) rfl H.1 H.2
theorem c_MD_isIn {G : cx_T} {s : Nat} {a1 : Int} {h : ah_T} {Q : Option av_T → ah_T → Prop} (hb0 : hb s h) (H : i32 a1 → B_MD_isIn_0 G s a1 h Q ) : con G 0 0 0 m_MD_isIn [av_R (some 170), av_I a1] h Q := by
  have hS : isS s := hb0.2.1
  refine con_of (L := [some (av_R (some 170)), some (av_I a1)]) (by decide +kernel) (Nat.le_of_ble_eq_true rfl) rfl ?_
  refine A_locI 1 rfl (fun ra1 => ?_)
  exact b_MD_isIn_0   hb0 (H ra1)
def B_MD_turned_0 (G : cx_T) (s : Nat) (a1 : Int) (h : ah_T) (Q : Option av_T → ah_T → Prop) : Prop :=
 ∀ x2 : Int, x2 = h.2.1 170 70 → -2147483648 ≤ x2 → x2 ≤ 2147483647 → ((-2147483648) ≤ (x2 - 1) ∧ (x2 - 1) ≤ 2147483647) ∧ (0 ≤ (x2 - 1) ∧ (x2 - 1) < 10) ∧ ∀ h5 : ah_T, h5 = st_i h 220 ((x2 - 1)).toNat 0 → ∀ x9 : Int, x9 = h5.2.1 218 ((x2 - 1)).toNat → -2147483648 ≤ x9 → x9 ≤ 2147483647 → ∀ x12 : Int, x12 = h5.2.1 219 ((x2 - 1)).toNat → -2147483648 ≤ x12 → x12 ≤ 2147483647 → ((x12 ≤ x9 → ∀ h14 : ah_T, h14 = st_i h5 170 70 (x2 - 1) → con G 0 0 0 m_MD_closing [av_R (some 170), av_I a1] h14 (fun r h16 => ∃ z18 : Int, r = some (av_I z18) ∧ hb s h16 ∧ ((-2147483648) ≤ (z18 + 1) ∧ (z18 + 1) ≤ 2147483647) ∧ Q (some (av_I (z18 + 1))) h16)) ∧ (¬ x12 ≤ x9 → ((-2147483648) ≤ (x9 + 1) ∧ (x9 + 1) ≤ 2147483647) ∧ ∀ h24 : ah_T, h24 = st_i h5 218 ((x2 - 1)).toNat (x9 + 1) → ∀ x26 : Int, x26 = h24.2.1 170 71 → -2147483648 ≤ x26 → x26 ≤ 2147483647 → ((-2147483648) ≤ (x26 + 1) ∧ (x26 + 1) ≤ 2147483647) ∧ ∀ h28 : ah_T, h28 = st_i h24 170 71 (x26 + 1) → ((-2147483648) ≤ (a1 + 1) ∧ (a1 + 1) ≤ 2147483647) ∧ Q (some (av_I (a1 + 1))) h28))
theorem b_MD_turned_0 {G : cx_T} {s : Nat} {a1 : Int} {h : ah_T} {Q : Option av_T → ah_T → Prop} (hb0 : hb s h) (H : B_MD_turned_0 G s a1 h Q ) : aw G (rm_R 1 0 0) m_MD_turned 0 0 0 [some (av_R (some 170)), some (av_I a1)] [] h Q := by
  unfold B_MD_turned_0 at H
  have hS : isS s := hb0.2.1
  refine A_aload_n 0 d_MD_turned_0 rfl rfl ?_
  refine A_getAv (z := some 220) T_ok d_MD_turned_1 f_MD_163 (hb_s hb0 sf_170) (hb_m hb0 rfm_79) ?_
  refine A_aload_n 0 d_MD_turned_4 rfl rfl ?_
  refine A_getIf T_ok d_MD_turned_5 f_MD_399 (hb_s hb0 sf_170) (fun x2 ex2 lx2 ux2 => ?_)
  replace H := H x2 ex2 lx2 ux2
  refine A_iconst d_MD_turned_8 rfl ?_
  refine A_pc (pc' := 9) rfl ?_
  have g3 := H.1
  replace H := H.2
  refine A_isubv (z := (x2 - 1)) d_MD_turned_9 (w32_to (by omega) (by unfold i32; omega)) ?_
  refine A_iconst d_MD_turned_10 rfl ?_
  have g4 := H.1
  replace H := H.2
  refine A_zastoreN d_MD_turned_11 (hb_s hb0 sf_220) g4.1 g4.2 (by decide) ?_
  refine A_hn (fun h5 eh5 => ?_)
  have hb6 := hb_i hb0 eh5
  replace H := H h5 eh5
  refine A_aload_n 0 d_MD_turned_12 rfl rfl ?_
  refine A_getAv (z := some 218) T_ok d_MD_turned_13 f_MD_157 (hb_s hb6 sf_170) (hb_m hb6 rfm_68) ?_
  refine A_aload_n 0 d_MD_turned_16 rfl rfl ?_
  refine A_pc (pc' := 17) rfl ?_
  refine A_getIv (z := x2) T_ok d_MD_turned_17 f_MD_399 (hb_s hb6 sf_170) ((mm_i eh5 (fun q => absurd q.1 (by decide))).trans ex2.symm) ?_
  refine A_iconst d_MD_turned_20 rfl ?_
  refine A_isubv (z := (x2 - 1)) d_MD_turned_21 (w32_to (by omega) (by unfold i32; omega)) ?_
  refine A_ialoadf d_MD_turned_22 (hb_s hb6 sf_218) g4.1 g4.2 (fun x9 ex9 lx9 ux9 => ?_)
  replace H := H x9 ex9 lx9 ux9
  refine A_aload_n 0 d_MD_turned_23 rfl rfl ?_
  refine A_getAv (z := some 219) T_ok d_MD_turned_24 f_MD_160 (hb_s hb6 sf_170) (hb_m hb6 rfm_69) ?_
  refine A_pc (pc' := 27) rfl ?_
  refine A_aload_n 0 d_MD_turned_27 rfl rfl ?_
  refine A_getIv (z := x2) T_ok d_MD_turned_28 f_MD_399 (hb_s hb6 sf_170) ((mm_i eh5 (fun q => absurd q.1 (by decide))).trans ex2.symm) ?_
  refine A_iconst d_MD_turned_31 rfl ?_
  refine A_isubv (z := (x2 - 1)) d_MD_turned_32 (w32_to (by omega) (by unfold i32; omega)) ?_
  refine A_ialoadf d_MD_turned_33 (hb_s hb6 sf_219) g4.1 g4.2 (fun x12 ex12 lx12 ux12 => ?_)
  replace H := H x12 ex12 lx12 ux12
  refine A_icmp_ge (tgt := 66) d_MD_turned_34 (by decide) (fun c => ?_) (fun c => ?_)
  · replace H := H.1 c
    refine A_aload_n 0 d_MD_turned_66 rfl rfl ?_
    refine A_dupR d_MD_turned_67 ?_
    refine A_getIv (z := x2) T_ok d_MD_turned_68 f_MD_399 (hb_s hb6 sf_170) ((mm_i eh5 (fun q => absurd q.1 (by decide))).trans ex2.symm) ?_
    refine A_iconst d_MD_turned_71 rfl ?_
    refine A_isubv (z := (x2 - 1)) d_MD_turned_72 (w32_to (by omega) (by unfold i32; omega)) ?_
    refine A_pc (pc' := 73) rfl ?_
    refine A_putI T_ok d_MD_turned_73 f_MD_399 (hb_s hb6 sf_170) fin_f ?_
    refine A_hn (fun h14 eh14 => ?_)
    have hb15 := hb_i hb6 eh14
    replace H := H h14 eh14
    refine A_aload_n 0 d_MD_turned_76 rfl rfl ?_
    refine A_iload_n 1 d_MD_turned_77 rfl rfl ?_
    refine A_callV1 m_MD_closing T_ok d_MD_turned_78 l_MD_449 k_MD_closing (hb_s hb15 sf_170) rfl (by decide +kernel) (by decide) (Nat.le_of_ble_eq_true rfl) H (fun r h16 hq => ?_)
    clear H
    obtain ⟨z18, rfl, hb17, H⟩ := hq
    refine A_iconst d_MD_turned_81 rfl ?_
    have g19 := H.1
    replace H := H.2
    refine A_iaddv (z := (z18 + 1)) d_MD_turned_82 (w32_to (by omega) (by unfold i32; omega)) ?_
    exact A_iret d_MD_turned_83 (by decide) rfl H
  · replace H := H.2 c
    refine A_aload_n 0 d_MD_turned_37 rfl rfl ?_
    refine A_getAv (z := some 218) T_ok d_MD_turned_38 f_MD_157 (hb_s hb6 sf_170) (hb_m hb6 rfm_68) ?_
    refine A_aload_n 0 d_MD_turned_41 rfl rfl ?_
    refine A_getIv (z := x2) T_ok d_MD_turned_42 f_MD_399 (hb_s hb6 sf_170) ((mm_i eh5 (fun q => absurd q.1 (by decide))).trans ex2.symm) ?_
    refine A_iconst d_MD_turned_45 rfl ?_
    refine A_pc (pc' := 46) rfl ?_
    refine A_isubv (z := (x2 - 1)) d_MD_turned_46 (w32_to (by omega) (by unfold i32; omega)) ?_
    refine A_dup2RI d_MD_turned_47 ?_
    refine A_ialoadv (z := x9) d_MD_turned_48 (hb_s hb6 sf_218) (by omega) (by omega) ex9.symm ?_
    refine A_iconst d_MD_turned_49 rfl ?_
    have g23 := H.1
    replace H := H.2
    refine A_iaddv (z := (x9 + 1)) d_MD_turned_50 (w32_to (by omega) (by unfold i32; omega)) ?_
    refine A_iastoreN d_MD_turned_51 (hb_s hb6 sf_218) g4.1 g4.2 ?_
    refine A_hn (fun h24 eh24 => ?_)
    have hb25 := hb_i hb6 eh24
    replace H := H h24 eh24
    refine A_pc (pc' := 52) rfl ?_
    refine A_aload_n 0 d_MD_turned_52 rfl rfl ?_
    refine A_dupR d_MD_turned_53 ?_
    refine A_getIf T_ok d_MD_turned_54 f_MD_402 (hb_s hb25 sf_170) (fun x26 ex26 lx26 ux26 => ?_)
    replace H := H x26 ex26 lx26 ux26
    refine A_iconst d_MD_turned_57 rfl ?_
    have g27 := H.1
    replace H := H.2
    refine A_iaddv (z := (x26 + 1)) d_MD_turned_58 (w32_to (by omega) (by unfold i32; omega)) ?_
    refine A_putI T_ok d_MD_turned_59 f_MD_402 (hb_s hb25 sf_170) fin_f ?_
    refine A_hn (fun h28 eh28 => ?_)
    have hb29 := hb_i hb25 eh28
    replace H := H h28 eh28
    refine A_pc (pc' := 62) rfl ?_
    refine A_iload_n 1 d_MD_turned_62 rfl rfl ?_
    refine A_iconst d_MD_turned_63 rfl ?_
    have g30 := H.1
    replace H := H.2
    refine A_iaddv (z := (a1 + 1)) d_MD_turned_64 (w32_to (by omega) (by unfold i32; omega)) ?_
    exact A_iret d_MD_turned_65 (by decide) rfl H
theorem c_MD_turned {G : cx_T} {s : Nat} {a1 : Int} {h : ah_T} {Q : Option av_T → ah_T → Prop} (hb0 : hb s h) (H : i32 a1 → B_MD_turned_0 G s a1 h Q ) : con G 1 0 0 m_MD_turned [av_R (some 170), av_I a1] h Q := by
  have hS : isS s := hb0.2.1
  refine con_of (L := [some (av_R (some 170)), some (av_I a1)]) (by decide +kernel) (Nat.le_of_ble_eq_true rfl) rfl ?_
  refine A_locI 1 rfl (fun ra1 => ?_)
  exact b_MD_turned_0   hb0 (H ra1)
def B_MD_scale_0 (G : cx_T) (s : Nat) (a1 : Int) (a2 : Int) (h : ah_T) (Q : Option av_T → ah_T → Prop) : Prop :=
 ∀ x1 : Int, x1 = h.2.2.1 170 77 → -9223372036854775808 ≤ x1 → x1 ≤ 9223372036854775807 → ∀ x2 : Int, x2 = x1 * a1 → ((-9223372036854775808) ≤ x2 ∧ x2 ≤ 9223372036854775807) ∧ ∀ x4 : Int, x4 = h.2.2.1 170 78 → -9223372036854775808 ≤ x4 → x4 ≤ 9223372036854775807 → ∀ x5 : Int, x5 = x4 * a2 → ((-9223372036854775808) ≤ x5 ∧ x5 ≤ 9223372036854775807) ∧ con G 1 0 0 m_MD_fraction [av_R (some 170), av_L x2, av_L x5] h (fun r h7 => r = none ∧ hb s h7 ∧ ∀ x10 : Int, x10 = h7.2.2.1 170 65 → -9223372036854775808 ≤ x10 → x10 ≤ 9223372036854775807 → ∀ h11 : ah_T, h11 = st_l h7 170 77 x10 → ∀ x13 : Int, x13 = h11.2.2.1 170 66 → -9223372036854775808 ≤ x13 → x13 ≤ 9223372036854775807 → ∀ h14 : ah_T, h14 = st_l h11 170 78 x13 → Q none h14)
theorem b_MD_scale_0 {G : cx_T} {s : Nat} {a1 : Int} {a2 : Int} {h : ah_T} {Q : Option av_T → ah_T → Prop} (hb0 : hb s h) (H : B_MD_scale_0 G s a1 a2 h Q ) : aw G (rm_R 2 0 0) m_MD_scale 0 0 0 [some (av_R (some 170)), some (av_I a1), some (av_I a2)] [] h Q := by
  unfold B_MD_scale_0 at H
  have hS : isS s := hb0.2.1
  refine A_aload_n 0 d_MD_scale_0 rfl rfl ?_
  refine A_aload_n 0 d_MD_scale_1 rfl rfl ?_
  refine A_getLf T_ok d_MD_scale_2 f_MD_420 (hb_s hb0 sf_170) (fun x1 ex1 lx1 ux1 => ?_)
  replace H := H x1 ex1 lx1 ux1
  refine A_iload_n 1 d_MD_scale_5 rfl rfl ?_
  refine A_i2l d_MD_scale_6 ?_
  refine A_pc (pc' := 7) rfl ?_
  obtain ⟨x2, ex2⟩ : ∃ z : Int, z = x1 * a1 := ⟨_, rfl⟩
  replace H := H x2 ex2
  have g3 := H.1
  replace H := H.2
  refine A_lmulv (z := x2) d_MD_scale_7 (w64_to ex2.symm (by unfold i64; omega)) ?_
  refine A_aload_n 0 d_MD_scale_8 rfl rfl ?_
  refine A_getLf T_ok d_MD_scale_9 f_MD_423 (hb_s hb0 sf_170) (fun x4 ex4 lx4 ux4 => ?_)
  replace H := H x4 ex4 lx4 ux4
  refine A_iload_n 2 d_MD_scale_12 rfl rfl ?_
  refine A_i2l d_MD_scale_13 ?_
  obtain ⟨x5, ex5⟩ : ∃ z : Int, z = x4 * a2 := ⟨_, rfl⟩
  replace H := H x5 ex5
  have g6 := H.1
  replace H := H.2
  refine A_lmulv (z := x5) d_MD_scale_14 (w64_to ex5.symm (by unfold i64; omega)) ?_
  refine A_pc (pc' := 15) rfl ?_
  refine A_callV2 m_MD_fraction T_ok d_MD_scale_15 l_MD_391 k_MD_fraction (hb_s hb0 sf_170) rfl (by decide +kernel) (by decide) (Nat.le_of_ble_eq_true rfl) H (fun r h7 hq => ?_)
  clear H
  obtain ⟨rfl, hb8, H⟩ := hq
  refine A_aload_n 0 d_MD_scale_18 rfl rfl ?_
  refine A_aload_n 0 d_MD_scale_19 rfl rfl ?_
  refine A_getLf T_ok d_MD_scale_20 f_MD_385 (hb_s hb8 sf_170) (fun x10 ex10 lx10 ux10 => ?_)
  replace H := H x10 ex10 lx10 ux10
  refine A_putL T_ok d_MD_scale_23 f_MD_420 (hb_s hb8 sf_170) fin_f ?_
  refine A_hn (fun h11 eh11 => ?_)
  have hb12 := hb_l hb8 eh11
  replace H := H h11 eh11
  refine A_aload_n 0 d_MD_scale_26 rfl rfl ?_
  refine A_pc (pc' := 27) rfl ?_
  refine A_aload_n 0 d_MD_scale_27 rfl rfl ?_
  refine A_getLf T_ok d_MD_scale_28 f_MD_388 (hb_s hb12 sf_170) (fun x13 ex13 lx13 ux13 => ?_)
  replace H := H x13 ex13 lx13 ux13
  refine A_putL T_ok d_MD_scale_31 f_MD_423 (hb_s hb12 sf_170) fin_f ?_
  refine A_hn (fun h14 eh14 => ?_)
  have hb15 := hb_l hb12 eh14
  replace H := H h14 eh14
  exact A_vret d_MD_scale_34 (by decide) rfl H
theorem c_MD_scale {G : cx_T} {s : Nat} {a1 : Int} {a2 : Int} {h : ah_T} {Q : Option av_T → ah_T → Prop} (hb0 : hb s h) (H : i32 a1 → i32 a2 → B_MD_scale_0 G s a1 a2 h Q ) : con G 2 0 0 m_MD_scale [av_R (some 170), av_I a1, av_I a2] h Q := by
  have hS : isS s := hb0.2.1
  refine con_of (L := [some (av_R (some 170)), some (av_I a1), some (av_I a2)]) (by decide +kernel) (Nat.le_of_ble_eq_true rfl) rfl ?_
  refine A_locI 1 rfl (fun ra1 => ?_)
  refine A_locI 2 rfl (fun ra2 => ?_)
  exact b_MD_scale_0   hb0 (H ra1 ra2)
def B_MD_event_IIV_244 (G : cx_T) (s : Nat) (a1 : Int) (a2 : Int) (h : ah_T) (Q : Option av_T → ah_T → Prop) : Prop :=
 ∀ h1 : ah_T, h1 = st_i h 170 74 1 → Q none h1
theorem b_MD_event_IIV_244 {G : cx_T} {s : Nat} {a1 : Int} {a2 : Int} {h : ah_T} {Q : Option av_T → ah_T → Prop} (hb0 : hb s h) (H : B_MD_event_IIV_244 G s a1 a2 h Q ) : aw G (rm_R 3 0 0) m_MD_event_IIV 0 0 244 [some (av_R (some 170)), none, none, none, none] [] h Q := by
  unfold B_MD_event_IIV_244 at H
  have hS : isS s := hb0.2.1
  refine A_aload_n 0 d_MD_event_IIV_244 rfl rfl ?_
  refine A_iconst d_MD_event_IIV_245 rfl ?_
  refine A_putZ T_ok d_MD_event_IIV_246 f_MD_411 (hb_s hb0 sf_170) fin_f (by decide) ?_
  refine A_hn (fun h1 eh1 => ?_)
  have hb2 := hb_i hb0 eh1
  replace H := H h1 eh1
  exact A_vret d_MD_event_IIV_249 (by decide) rfl H
def B_MD_event_IIV_26 (G : cx_T) (s : Nat) (a1 : Int) (a2 : Int) (v3 : Int) (v4 : Int) (h : ah_T) (Q : Option av_T → ah_T → Prop) (X26 : Int → Int → ah_T → Prop) : Prop :=
 ((4 ≤ v4 → (0 ≤ a2 ∧ a2 < 2100) ∧ ∀ x3 : Int, x3 = h.2.1 207 (a2).toNat → -2147483648 ≤ x3 → x3 ≤ 2147483647 → (0 ≤ v3 ∧ v3 < 2400) ∧ ∀ h6 : ah_T, h6 = st_i h 194 (v3).toNat x3 → ∀ x10 : Int, x10 = h6.2.1 208 (a2).toNat → (x10 = 0 ∨ x10 = 1) → (x10 = 0 ∨ x10 = 1) ∧ ∀ h11 : ah_T, h11 = st_i h6 195 (v3).toNat x10 → ∀ x15 : Int, x15 = h11.2.1 202 (a2).toNat → -2147483648 ≤ x15 → x15 ≤ 2147483647 → ∀ h16 : ah_T, h16 = st_i h11 197 (v3).toNat x15 → ∀ x20 : Int, x20 = h16.2.1 209 (a2).toNat → -2147483648 ≤ x20 → x20 ≤ 2147483647 → ∀ h21 : ah_T, h21 = st_i h16 198 (v3).toNat x20 → ∀ x24 : Int, x24 = h21.2.1 170 73 → -2147483648 ≤ x24 → x24 ≤ 2147483647 → ∀ h25 : ah_T, h25 = st_i h21 196 (v3).toNat x24 → ∀ x28 : Int, x28 = h25.2.2.1 170 75 → -9223372036854775808 ≤ x28 → x28 ≤ 9223372036854775807 → ∀ h29 : ah_T, h29 = st_l h25 187 (v3).toNat x28 → ∀ x32 : Int, x32 = h29.2.2.1 170 76 → -9223372036854775808 ≤ x32 → x32 ≤ 9223372036854775807 → ∀ h33 : ah_T, h33 = st_l h29 188 (v3).toNat x32 → ∀ x37 : Int, x37 = ((Int64.ofInt 2) <<< ((Int32.ofInt x20).toInt64 &&& 63)).toInt → (-9223372036854775808) ≤ x37 → x37 ≤ 9223372036854775807 → ((-9223372036854775808) ≤ (x37 - 1) ∧ (x37 - 1) ≤ 9223372036854775807) ∧ ∀ x39 : Int, x39 = h33.2.2.1 170 77 → -9223372036854775808 ≤ x39 → x39 ≤ 9223372036854775807 → ∀ x40 : Int, x40 = (x37 - 1) * x39 → ((-9223372036854775808) ≤ x40 ∧ x40 ≤ 9223372036854775807) ∧ ∀ x44 : Int, x44 = ((Int64.ofInt 1) <<< ((Int32.ofInt x20).toInt64 &&& 63)).toInt → (-9223372036854775808) ≤ x44 → x44 ≤ 9223372036854775807 → ∀ x45 : Int, x45 = x15 * x44 → ((-9223372036854775808) ≤ x45 ∧ x45 ≤ 9223372036854775807) ∧ ∀ x47 : Int, x47 = h33.2.2.1 170 78 → -9223372036854775808 ≤ x47 → x47 ≤ 9223372036854775807 → ∀ x48 : Int, x48 = x45 * x47 → ((-9223372036854775808) ≤ x48 ∧ x48 ≤ 9223372036854775807) ∧ con G 1 0 0 m_MD_fraction [av_R (some 170), av_L x40, av_L x48] h33 (fun r h50 => r = none ∧ hb s h50 ∧ ∀ x54 : Int, x54 = h50.2.2.1 170 65 → -9223372036854775808 ≤ x54 → x54 ≤ 9223372036854775807 → ∀ h55 : ah_T, h55 = st_l h50 189 (v3).toNat x54 → ∀ x58 : Int, x58 = h55.2.2.1 170 66 → -9223372036854775808 ≤ x58 → x58 ≤ 9223372036854775807 → ∀ h59 : ah_T, h59 = st_l h55 190 (v3).toNat x58 → ∀ x61 : Int, x61 = h59.2.1 170 74 → (x61 = 0 ∨ x61 = 1) → ((x61 = 0 → con G 0 0 0 m_MD_isFar [av_R (some 170), av_L x54, av_L x58] h59 (fun r h64 => ∃ z66 : Int, r = some (av_I z66) ∧ hb s h64 ∧ ((z66 = 0 → ∀ x67 : Int, x67 = h64.2.2.1 170 75 → -9223372036854775808 ≤ x67 → x67 ≤ 9223372036854775807 → ∀ x68 : Int, x68 = h64.2.2.1 170 76 → -9223372036854775808 ≤ x68 → x68 ≤ 9223372036854775807 → ∀ x69 : Int, x69 = h64.2.2.1 170 65 → -9223372036854775808 ≤ x69 → x69 ≤ 9223372036854775807 → ∀ x70 : Int, x70 = h64.2.2.1 170 66 → -9223372036854775808 ≤ x70 → x70 ≤ 9223372036854775807 → con G 2 0 0 m_MD_sum [av_R (some 170), av_L x67, av_L x68, av_L x69, av_L x70] h64 (fun r h71 => r = none ∧ hb s h71 ∧ ∀ x74 : Int, x74 = h71.2.2.1 170 65 → -9223372036854775808 ≤ x74 → x74 ≤ 9223372036854775807 → ∀ h75 : ah_T, h75 = st_l h71 170 75 x74 → ∀ x77 : Int, x77 = h75.2.2.1 170 66 → -9223372036854775808 ≤ x77 → x77 ≤ 9223372036854775807 → ∀ h78 : ah_T, h78 = st_l h75 170 76 x77 → con G 0 0 0 m_MD_isFar [av_R (some 170), av_L x74, av_L x77] h78 (fun r h82 => ∃ z84 : Int, r = some (av_I z84) ∧ hb s h82 ∧ (z84 = 0 ∨ z84 = 1) ∧ ∀ h85 : ah_T, h85 = st_i h82 170 74 z84 → Q none h85))) ∧ (¬ z66 = 0 → B_MD_event_IIV_244 G s a1 a2 h64 Q )))) ∧ (¬ x61 = 0 → B_MD_event_IIV_244 G s a1 a2 h59 Q )))) ∧ (¬ 4 ≤ v4 → ((-2147483648) ≤ (4 * v3) ∧ (4 * v3) ≤ 2147483647) ∧ ((-2147483648) ≤ (4 * v3 + v4) ∧ (4 * v3 + v4) ≤ 2147483647) ∧ ((-2147483648) ≤ (4 * a2) ∧ (4 * a2) ≤ 2147483647) ∧ ((-2147483648) ≤ (4 * a2 + v4) ∧ (4 * a2 + v4) ≤ 2147483647) ∧ (0 ≤ (4 * a2 + v4) ∧ (4 * a2 + v4) < 8400) ∧ ∀ x93 : Int, x93 = h.2.1 205 ((4 * a2 + v4)).toNat → -2147483648 ≤ x93 → x93 ≤ 2147483647 → (0 ≤ (4 * v3 + v4) ∧ (4 * v3 + v4) < 9600) ∧ ∀ h96 : ah_T, h96 = st_i h 192 ((4 * v3 + v4)).toNat x93 → ∀ x100 : Int, x100 = h96.2.1 206 ((4 * a2 + v4)).toNat → -2147483648 ≤ x100 → x100 ≤ 2147483647 → ∀ h101 : ah_T, h101 = st_i h96 193 ((4 * v3 + v4)).toNat x100 → ((-2147483648) ≤ (v4 + 1) ∧ (v4 + 1) ≤ 2147483647) ∧ X26 (v3) ((v4 + 1)) h101))
theorem b_MD_event_IIV_26 {G : cx_T} {s : Nat} {a1 : Int} {a2 : Int} {v3 : Int} {v4 : Int} {h : ah_T} {Q : Option av_T → ah_T → Prop} {X26 : Int → Int → ah_T → Prop} (hX26 : ∀ (v3 : Int) (v4 : Int) (h : ah_T), hb s h → X26 v3 v4 h → aw G (rm_R 3 0 0) m_MD_event_IIV 0 0 26 [some (av_R (some 170)), none, some (av_I a2), some (av_I v3), some (av_I v4)] [] h Q) (hb0 : hb s h) (H : B_MD_event_IIV_26 G s a1 a2 v3 v4 h Q X26) : aw G (rm_R 3 0 0) m_MD_event_IIV 0 0 26 [some (av_R (some 170)), none, some (av_I a2), some (av_I v3), some (av_I v4)] [] h Q := by
  unfold B_MD_event_IIV_26 at H
  have hS : isS s := hb0.2.1
  refine A_iload d_MD_event_IIV_26 rfl ?_
  refine A_iconst d_MD_event_IIV_28 rfl ?_
  refine A_icmp_ge (tgt := 82) d_MD_event_IIV_29 (by decide) (fun c => ?_) (fun c => ?_)
  · replace H := H.1 c
    refine A_aload_n 0 d_MD_event_IIV_82 rfl rfl ?_
    refine A_getAv (z := some 194) T_ok d_MD_event_IIV_83 f_MD_84 (hb_s hb0 sf_170) (hb_m hb0 rfm_36) ?_
    refine A_iload_n 3 d_MD_event_IIV_86 rfl rfl ?_
    refine A_aload_n 0 d_MD_event_IIV_87 rfl rfl ?_
    refine A_getAv (z := some 207) T_ok d_MD_event_IIV_88 f_MD_124 (hb_s hb0 sf_170) (hb_m hb0 rfm_50) ?_
    refine A_pc (pc' := 91) rfl ?_
    refine A_iload_n 2 d_MD_event_IIV_91 rfl rfl ?_
    have g4 := H.1
    replace H := H.2
    refine A_ialoadf d_MD_event_IIV_92 (hb_s hb0 sf_207) g4.1 g4.2 (fun x3 ex3 lx3 ux3 => ?_)
    replace H := H x3 ex3 lx3 ux3
    have g5 := H.1
    replace H := H.2
    refine A_iastoreN d_MD_event_IIV_93 (hb_s hb0 sf_194) g5.1 g5.2 ?_
    refine A_hn (fun h6 eh6 => ?_)
    have hb7 := hb_i hb0 eh6
    replace H := H h6 eh6
    refine A_aload_n 0 d_MD_event_IIV_94 rfl rfl ?_
    refine A_getAv (z := some 195) T_ok d_MD_event_IIV_95 f_MD_87 (hb_s hb7 sf_170) (hb_m hb7 rfm_37) ?_
    refine A_iload_n 3 d_MD_event_IIV_98 rfl rfl ?_
    refine A_pc (pc' := 99) rfl ?_
    refine A_aload_n 0 d_MD_event_IIV_99 rfl rfl ?_
    refine A_getAv (z := some 208) T_ok d_MD_event_IIV_100 f_MD_127 (hb_s hb7 sf_170) (hb_m hb7 rfm_51) ?_
    refine A_iload_n 2 d_MD_event_IIV_103 rfl rfl ?_
    refine A_zaloadn d_MD_event_IIV_104 (hb_s hb7 sf_208) g4.1 g4.2 (fun x10 ex10 bx10 => ?_)
    replace H := H x10 ex10 bx10
    have H1 := H.1
    replace H := H.2
    refine A_zastoreN d_MD_event_IIV_105 (hb_s hb7 sf_195) g5.1 g5.2 H1 ?_
    refine A_hn (fun h11 eh11 => ?_)
    have hb12 := hb_i hb7 eh11
    replace H := H h11 eh11
    refine A_aload_n 0 d_MD_event_IIV_106 rfl rfl ?_
    refine A_pc (pc' := 107) rfl ?_
    refine A_getAv (z := some 197) T_ok d_MD_event_IIV_107 f_MD_94 (hb_s hb12 sf_170) (hb_m hb12 rfm_39) ?_
    refine A_iload_n 3 d_MD_event_IIV_110 rfl rfl ?_
    refine A_aload_n 0 d_MD_event_IIV_111 rfl rfl ?_
    refine A_getAv (z := some 202) T_ok d_MD_event_IIV_112 f_MD_109 (hb_s hb12 sf_170) (hb_m hb12 rfm_45) ?_
    refine A_iload_n 2 d_MD_event_IIV_115 rfl rfl ?_
    refine A_ialoadf d_MD_event_IIV_116 (hb_s hb12 sf_202) g4.1 g4.2 (fun x15 ex15 lx15 ux15 => ?_)
    replace H := H x15 ex15 lx15 ux15
    refine A_pc (pc' := 117) rfl ?_
    refine A_iastoreN d_MD_event_IIV_117 (hb_s hb12 sf_197) g5.1 g5.2 ?_
    refine A_hn (fun h16 eh16 => ?_)
    have hb17 := hb_i hb12 eh16
    replace H := H h16 eh16
    refine A_aload_n 0 d_MD_event_IIV_118 rfl rfl ?_
    refine A_getAv (z := some 198) T_ok d_MD_event_IIV_119 f_MD_97 (hb_s hb17 sf_170) (hb_m hb17 rfm_40) ?_
    refine A_iload_n 3 d_MD_event_IIV_122 rfl rfl ?_
    refine A_aload_n 0 d_MD_event_IIV_123 rfl rfl ?_
    refine A_getAv (z := some 209) T_ok d_MD_event_IIV_124 f_MD_130 (hb_s hb17 sf_170) (hb_m hb17 rfm_52) ?_
    refine A_pc (pc' := 127) rfl ?_
    refine A_iload_n 2 d_MD_event_IIV_127 rfl rfl ?_
    refine A_ialoadf d_MD_event_IIV_128 (hb_s hb17 sf_209) g4.1 g4.2 (fun x20 ex20 lx20 ux20 => ?_)
    replace H := H x20 ex20 lx20 ux20
    refine A_iastoreN d_MD_event_IIV_129 (hb_s hb17 sf_198) g5.1 g5.2 ?_
    refine A_hn (fun h21 eh21 => ?_)
    have hb22 := hb_i hb17 eh21
    replace H := H h21 eh21
    refine A_aload_n 0 d_MD_event_IIV_130 rfl rfl ?_
    refine A_getAv (z := some 196) T_ok d_MD_event_IIV_131 f_MD_91 (hb_s hb22 sf_170) (hb_m hb22 rfm_38) ?_
    refine A_iload_n 3 d_MD_event_IIV_134 rfl rfl ?_
    refine A_pc (pc' := 135) rfl ?_
    refine A_aload_n 0 d_MD_event_IIV_135 rfl rfl ?_
    refine A_getIf T_ok d_MD_event_IIV_136 f_MD_408 (hb_s hb22 sf_170) (fun x24 ex24 lx24 ux24 => ?_)
    replace H := H x24 ex24 lx24 ux24
    refine A_iastoreN d_MD_event_IIV_139 (hb_s hb22 sf_196) g5.1 g5.2 ?_
    refine A_hn (fun h25 eh25 => ?_)
    have hb26 := hb_i hb22 eh25
    replace H := H h25 eh25
    refine A_aload_n 0 d_MD_event_IIV_140 rfl rfl ?_
    refine A_getAv (z := some 187) T_ok d_MD_event_IIV_141 f_MD_63 (hb_s hb26 sf_170) (hb_m hb26 rfm_29) ?_
    refine A_iload_n 3 d_MD_event_IIV_144 rfl rfl ?_
    refine A_pc (pc' := 145) rfl ?_
    refine A_aload_n 0 d_MD_event_IIV_145 rfl rfl ?_
    refine A_getLf T_ok d_MD_event_IIV_146 f_MD_414 (hb_s hb26 sf_170) (fun x28 ex28 lx28 ux28 => ?_)
    replace H := H x28 ex28 lx28 ux28
    refine A_lastoreN d_MD_event_IIV_149 (hb_s hb26 sf_187) g5.1 g5.2 ?_
    refine A_hn (fun h29 eh29 => ?_)
    have hb30 := hb_l hb26 eh29
    replace H := H h29 eh29
    refine A_aload_n 0 d_MD_event_IIV_150 rfl rfl ?_
    refine A_getAv (z := some 188) T_ok d_MD_event_IIV_151 f_MD_66 (hb_s hb30 sf_170) (hb_m hb30 rfm_30) ?_
    refine A_iload_n 3 d_MD_event_IIV_154 rfl rfl ?_
    refine A_pc (pc' := 155) rfl ?_
    refine A_aload_n 0 d_MD_event_IIV_155 rfl rfl ?_
    refine A_getLf T_ok d_MD_event_IIV_156 f_MD_417 (hb_s hb30 sf_170) (fun x32 ex32 lx32 ux32 => ?_)
    replace H := H x32 ex32 lx32 ux32
    refine A_lastoreN d_MD_event_IIV_159 (hb_s hb30 sf_188) g5.1 g5.2 ?_
    refine A_hn (fun h33 eh33 => ?_)
    have hb34 := hb_l hb30 eh33
    replace H := H h33 eh33
    refine A_aload_n 0 d_MD_event_IIV_160 rfl rfl ?_
    refine A_getAv (z := some 209) T_ok d_MD_event_IIV_161 f_MD_130 (hb_s hb34 sf_170) (hb_m hb34 rfm_52) ?_
    refine A_iload_n 2 d_MD_event_IIV_164 rfl rfl ?_
    refine A_pc (pc' := 165) rfl ?_
    refine A_ialoadv (z := x20) d_MD_event_IIV_165 (hb_s hb34 sf_209) (by omega) (by omega) ((mm_lo eh33).trans ((mm_lo eh29).trans ((mm_i eh25 (fun q => absurd q.1 (by decide))).trans ((mm_i eh21 (fun q => absurd q.1 (by decide))).trans ex20.symm)))) ?_
    refine A_istore (L' := [some (av_R (some 170)), none, some (av_I a2), some (av_I v3), some (av_I x20)]) d_MD_event_IIV_166 (Nat.le_of_ble_eq_true rfl) rfl ?_
    refine A_aload_n 0 d_MD_event_IIV_168 rfl rfl ?_
    refine A_ldc2 (z := 2) d_MD_event_IIV_169 cst_MD_452 rfl ?_
    refine A_iload d_MD_event_IIV_172 rfl ?_
    refine A_lshl d_MD_event_IIV_174 ?_
    refine A_nrL (fun x37 ex37 lx37 ux37 => ?_)
    replace H := H x37 ex37 lx37 ux37
    refine A_pc (pc' := 175) rfl ?_
    refine A_lconst_1 d_MD_event_IIV_175 ?_
    have g38 := H.1
    replace H := H.2
    refine A_lsubv (z := (x37 - 1)) d_MD_event_IIV_176 (w64_to (by omega) (by unfold i64; omega)) ?_
    refine A_aload_n 0 d_MD_event_IIV_177 rfl rfl ?_
    refine A_getLf T_ok d_MD_event_IIV_178 f_MD_420 (hb_s hb34 sf_170) (fun x39 ex39 lx39 ux39 => ?_)
    replace H := H x39 ex39 lx39 ux39
    obtain ⟨x40, ex40⟩ : ∃ z : Int, z = (x37 - 1) * x39 := ⟨_, rfl⟩
    replace H := H x40 ex40
    have g41 := H.1
    replace H := H.2
    refine A_lmulv (z := x40) d_MD_event_IIV_181 (w64_to ex40.symm (by unfold i64; omega)) ?_
    refine A_aload_n 0 d_MD_event_IIV_182 rfl rfl ?_
    refine A_pc (pc' := 183) rfl ?_
    refine A_getAv (z := some 202) T_ok d_MD_event_IIV_183 f_MD_109 (hb_s hb34 sf_170) (hb_m hb34 rfm_45) ?_
    refine A_iload_n 2 d_MD_event_IIV_186 rfl rfl ?_
    refine A_ialoadv (z := x15) d_MD_event_IIV_187 (hb_s hb34 sf_202) (by omega) (by omega) ((mm_lo eh33).trans ((mm_lo eh29).trans ((mm_i eh25 (fun q => absurd q.1 (by decide))).trans ((mm_i eh21 (fun q => absurd q.1 (by decide))).trans ((mm_i eh16 (fun q => absurd q.1 (by decide))).trans ex15.symm))))) ?_
    refine A_i2l d_MD_event_IIV_188 ?_
    refine A_lconst_1 d_MD_event_IIV_189 ?_
    refine A_iload d_MD_event_IIV_190 rfl ?_
    refine A_pc (pc' := 192) rfl ?_
    refine A_lshl d_MD_event_IIV_192 ?_
    refine A_nrL (fun x44 ex44 lx44 ux44 => ?_)
    replace H := H x44 ex44 lx44 ux44
    obtain ⟨x45, ex45⟩ : ∃ z : Int, z = x15 * x44 := ⟨_, rfl⟩
    replace H := H x45 ex45
    have g46 := H.1
    replace H := H.2
    refine A_lmulv (z := x45) d_MD_event_IIV_193 (w64_to ex45.symm (by unfold i64; omega)) ?_
    refine A_aload_n 0 d_MD_event_IIV_194 rfl rfl ?_
    refine A_getLf T_ok d_MD_event_IIV_195 f_MD_423 (hb_s hb34 sf_170) (fun x47 ex47 lx47 ux47 => ?_)
    replace H := H x47 ex47 lx47 ux47
    obtain ⟨x48, ex48⟩ : ∃ z : Int, z = x45 * x47 := ⟨_, rfl⟩
    replace H := H x48 ex48
    have g49 := H.1
    replace H := H.2
    refine A_lmulv (z := x48) d_MD_event_IIV_198 (w64_to ex48.symm (by unfold i64; omega)) ?_
    refine A_callV2 m_MD_fraction T_ok d_MD_event_IIV_199 l_MD_391 k_MD_fraction (hb_s hb34 sf_170) rfl (by decide +kernel) (by decide) (Nat.le_of_ble_eq_true rfl) H (fun r h50 hq => ?_)
    clear H
    obtain ⟨rfl, hb51, H⟩ := hq
    refine A_aload_n 0 d_MD_event_IIV_202 rfl rfl ?_
    refine A_getAv (z := some 189) T_ok d_MD_event_IIV_203 f_MD_69 (hb_s hb51 sf_170) (hb_m hb51 rfm_31) ?_
    refine A_iload_n 3 d_MD_event_IIV_206 rfl rfl ?_
    refine A_aload_n 0 d_MD_event_IIV_207 rfl rfl ?_
    refine A_getLf T_ok d_MD_event_IIV_208 f_MD_385 (hb_s hb51 sf_170) (fun x54 ex54 lx54 ux54 => ?_)
    replace H := H x54 ex54 lx54 ux54
    refine A_pc (pc' := 211) rfl ?_
    refine A_lastoreN d_MD_event_IIV_211 (hb_s hb51 sf_189) g5.1 g5.2 ?_
    refine A_hn (fun h55 eh55 => ?_)
    have hb56 := hb_l hb51 eh55
    replace H := H h55 eh55
    refine A_aload_n 0 d_MD_event_IIV_212 rfl rfl ?_
    refine A_getAv (z := some 190) T_ok d_MD_event_IIV_213 f_MD_72 (hb_s hb56 sf_170) (hb_m hb56 rfm_32) ?_
    refine A_iload_n 3 d_MD_event_IIV_216 rfl rfl ?_
    refine A_aload_n 0 d_MD_event_IIV_217 rfl rfl ?_
    refine A_getLf T_ok d_MD_event_IIV_218 f_MD_388 (hb_s hb56 sf_170) (fun x58 ex58 lx58 ux58 => ?_)
    replace H := H x58 ex58 lx58 ux58
    refine A_pc (pc' := 221) rfl ?_
    refine A_lastoreN d_MD_event_IIV_221 (hb_s hb56 sf_190) g5.1 g5.2 ?_
    refine A_hn (fun h59 eh59 => ?_)
    have hb60 := hb_l hb56 eh59
    replace H := H h59 eh59
    refine A_aload_n 0 d_MD_event_IIV_222 rfl rfl ?_
    refine A_getZn T_ok d_MD_event_IIV_223 f_MD_411 (hb_s hb60 sf_170) (fun x61 ex61 bx61 => ?_)
    replace H := H x61 ex61 bx61
    refine A_if_ne (tgt := 244) d_MD_event_IIV_226 (by decide) (fun c => ?_) (fun c => ?_)
    · replace H := H.2 c
      refine A_pc (pc' := 244) rfl ?_
      refine A_free (L' := [some (av_R (some 170)), none, none, none, none]) (And.intro rfl trivial) ?_
      exact b_MD_event_IIV_244    hb60 H
    · replace H := H.1 c
      refine A_aload_n 0 d_MD_event_IIV_229 rfl rfl ?_
      refine A_aload_n 0 d_MD_event_IIV_230 rfl rfl ?_
      refine A_getLv (z := x54) T_ok d_MD_event_IIV_231 f_MD_385 (hb_s hb60 sf_170) ((mm_l eh59 (fun q => absurd q.1 (by decide))).trans ((mm_l eh55 (fun q => absurd q.1 (by decide))).trans ex54.symm)) ?_
      refine A_aload_n 0 d_MD_event_IIV_234 rfl rfl ?_
      refine A_getLv (z := x58) T_ok d_MD_event_IIV_235 f_MD_388 (hb_s hb60 sf_170) ((mm_l eh59 (fun q => absurd q.1 (by decide))).trans ex58.symm) ?_
      refine A_pc (pc' := 238) rfl ?_
      refine A_callV2 m_MD_isFar T_ok d_MD_event_IIV_238 l_MD_454 k_MD_isFar (hb_s hb60 sf_170) rfl (by decide +kernel) (by decide) (Nat.le_of_ble_eq_true rfl) H (fun r h64 hq => ?_)
      clear H
      obtain ⟨z66, rfl, hb65, H⟩ := hq
      refine A_if_eq (tgt := 250) d_MD_event_IIV_241 (by decide) (fun c => ?_) (fun c => ?_)
      · replace H := H.1 c
        refine A_aload_n 0 d_MD_event_IIV_250 rfl rfl ?_
        refine A_aload_n 0 d_MD_event_IIV_251 rfl rfl ?_
        refine A_getLf T_ok d_MD_event_IIV_252 f_MD_414 (hb_s hb65 sf_170) (fun x67 ex67 lx67 ux67 => ?_)
        replace H := H x67 ex67 lx67 ux67
        refine A_aload_n 0 d_MD_event_IIV_255 rfl rfl ?_
        refine A_getLf T_ok d_MD_event_IIV_256 f_MD_417 (hb_s hb65 sf_170) (fun x68 ex68 lx68 ux68 => ?_)
        replace H := H x68 ex68 lx68 ux68
        refine A_pc (pc' := 259) rfl ?_
        refine A_aload_n 0 d_MD_event_IIV_259 rfl rfl ?_
        refine A_getLf T_ok d_MD_event_IIV_260 f_MD_385 (hb_s hb65 sf_170) (fun x69 ex69 lx69 ux69 => ?_)
        replace H := H x69 ex69 lx69 ux69
        refine A_aload_n 0 d_MD_event_IIV_263 rfl rfl ?_
        refine A_getLf T_ok d_MD_event_IIV_264 f_MD_388 (hb_s hb65 sf_170) (fun x70 ex70 lx70 ux70 => ?_)
        replace H := H x70 ex70 lx70 ux70
        refine A_callV4 m_MD_sum T_ok d_MD_event_IIV_267 l_MD_458 k_MD_sum (hb_s hb65 sf_170) rfl (by decide +kernel) (by decide) (Nat.le_of_ble_eq_true rfl) H (fun r h71 hq => ?_)
        clear H
        obtain ⟨rfl, hb72, H⟩ := hq
        refine A_aload_n 0 d_MD_event_IIV_270 rfl rfl ?_
        refine A_aload_n 0 d_MD_event_IIV_271 rfl rfl ?_
        refine A_getLf T_ok d_MD_event_IIV_272 f_MD_385 (hb_s hb72 sf_170) (fun x74 ex74 lx74 ux74 => ?_)
        replace H := H x74 ex74 lx74 ux74
        refine A_putL T_ok d_MD_event_IIV_275 f_MD_414 (hb_s hb72 sf_170) fin_f ?_
        refine A_hn (fun h75 eh75 => ?_)
        have hb76 := hb_l hb72 eh75
        replace H := H h75 eh75
        refine A_aload_n 0 d_MD_event_IIV_278 rfl rfl ?_
        refine A_pc (pc' := 279) rfl ?_
        refine A_aload_n 0 d_MD_event_IIV_279 rfl rfl ?_
        refine A_getLf T_ok d_MD_event_IIV_280 f_MD_388 (hb_s hb76 sf_170) (fun x77 ex77 lx77 ux77 => ?_)
        replace H := H x77 ex77 lx77 ux77
        refine A_putL T_ok d_MD_event_IIV_283 f_MD_417 (hb_s hb76 sf_170) fin_f ?_
        refine A_hn (fun h78 eh78 => ?_)
        have hb79 := hb_l hb76 eh78
        replace H := H h78 eh78
        refine A_aload_n 0 d_MD_event_IIV_286 rfl rfl ?_
        refine A_aload_n 0 d_MD_event_IIV_287 rfl rfl ?_
        refine A_aload_n 0 d_MD_event_IIV_288 rfl rfl ?_
        refine A_pc (pc' := 289) rfl ?_
        refine A_getLv (z := x74) T_ok d_MD_event_IIV_289 f_MD_385 (hb_s hb79 sf_170) ((mm_l eh78 (fun q => absurd q.2 (by decide))).trans ((mm_l eh75 (fun q => absurd q.2 (by decide))).trans ex74.symm)) ?_
        refine A_aload_n 0 d_MD_event_IIV_292 rfl rfl ?_
        refine A_getLv (z := x77) T_ok d_MD_event_IIV_293 f_MD_388 (hb_s hb79 sf_170) ((mm_l eh78 (fun q => absurd q.2 (by decide))).trans ex77.symm) ?_
        refine A_callV2 m_MD_isFar T_ok d_MD_event_IIV_296 l_MD_454 k_MD_isFar (hb_s hb79 sf_170) rfl (by decide +kernel) (by decide) (Nat.le_of_ble_eq_true rfl) H (fun r h82 hq => ?_)
        clear H
        obtain ⟨z84, rfl, hb83, H⟩ := hq
        have H0 := H.1
        replace H := H.2
        refine A_putZ T_ok d_MD_event_IIV_299 f_MD_411 (hb_s hb83 sf_170) fin_f H0 ?_
        refine A_hn (fun h85 eh85 => ?_)
        have hb86 := hb_i hb83 eh85
        replace H := H h85 eh85
        exact A_vret d_MD_event_IIV_302 (by decide) rfl H
      · replace H := H.2 c
        refine A_pc (pc' := 244) rfl ?_
        refine A_free (L' := [some (av_R (some 170)), none, none, none, none]) (And.intro rfl trivial) ?_
        exact b_MD_event_IIV_244    hb65 H
  · replace H := H.2 c
    refine A_aload_n 0 d_MD_event_IIV_32 rfl rfl ?_
    refine A_getAv (z := some 192) T_ok d_MD_event_IIV_33 f_MD_78 (hb_s hb0 sf_170) (hb_m hb0 rfm_34) ?_
    refine A_iconst d_MD_event_IIV_36 rfl ?_
    refine A_iload_n 3 d_MD_event_IIV_37 rfl rfl ?_
    have g88 := H.1
    replace H := H.2
    refine A_imulv (z := (4 * v3)) d_MD_event_IIV_38 (w32_to (by omega) (by unfold i32; omega)) ?_
    refine A_pc (pc' := 39) rfl ?_
    refine A_iload d_MD_event_IIV_39 rfl ?_
    have g89 := H.1
    replace H := H.2
    refine A_iaddv (z := (4 * v3 + v4)) d_MD_event_IIV_41 (w32_to (by omega) (by unfold i32; omega)) ?_
    refine A_aload_n 0 d_MD_event_IIV_42 rfl rfl ?_
    refine A_getAv (z := some 205) T_ok d_MD_event_IIV_43 f_MD_118 (hb_s hb0 sf_170) (hb_m hb0 rfm_48) ?_
    refine A_iconst d_MD_event_IIV_46 rfl ?_
    refine A_iload_n 2 d_MD_event_IIV_47 rfl rfl ?_
    refine A_pc (pc' := 48) rfl ?_
    have g91 := H.1
    replace H := H.2
    refine A_imulv (z := (4 * a2)) d_MD_event_IIV_48 (w32_to (by omega) (by unfold i32; omega)) ?_
    refine A_iload d_MD_event_IIV_49 rfl ?_
    have g92 := H.1
    replace H := H.2
    refine A_iaddv (z := (4 * a2 + v4)) d_MD_event_IIV_51 (w32_to (by omega) (by unfold i32; omega)) ?_
    have g94 := H.1
    replace H := H.2
    refine A_ialoadf d_MD_event_IIV_52 (hb_s hb0 sf_205) g94.1 g94.2 (fun x93 ex93 lx93 ux93 => ?_)
    replace H := H x93 ex93 lx93 ux93
    have g95 := H.1
    replace H := H.2
    refine A_iastoreN d_MD_event_IIV_53 (hb_s hb0 sf_192) g95.1 g95.2 ?_
    refine A_hn (fun h96 eh96 => ?_)
    have hb97 := hb_i hb0 eh96
    replace H := H h96 eh96
    refine A_aload_n 0 d_MD_event_IIV_54 rfl rfl ?_
    refine A_pc (pc' := 55) rfl ?_
    refine A_getAv (z := some 193) T_ok d_MD_event_IIV_55 f_MD_81 (hb_s hb97 sf_170) (hb_m hb97 rfm_35) ?_
    refine A_iconst d_MD_event_IIV_58 rfl ?_
    refine A_iload_n 3 d_MD_event_IIV_59 rfl rfl ?_
    refine A_imulv (z := (4 * v3)) d_MD_event_IIV_60 (w32_to (by omega) (by unfold i32; omega)) ?_
    refine A_iload d_MD_event_IIV_61 rfl ?_
    refine A_iaddv (z := (4 * v3 + v4)) d_MD_event_IIV_63 (w32_to (by omega) (by unfold i32; omega)) ?_
    refine A_pc (pc' := 64) rfl ?_
    refine A_aload_n 0 d_MD_event_IIV_64 rfl rfl ?_
    refine A_getAv (z := some 206) T_ok d_MD_event_IIV_65 f_MD_121 (hb_s hb97 sf_170) (hb_m hb97 rfm_49) ?_
    refine A_iconst d_MD_event_IIV_68 rfl ?_
    refine A_iload_n 2 d_MD_event_IIV_69 rfl rfl ?_
    refine A_imulv (z := (4 * a2)) d_MD_event_IIV_70 (w32_to (by omega) (by unfold i32; omega)) ?_
    refine A_iload d_MD_event_IIV_71 rfl ?_
    refine A_pc (pc' := 73) rfl ?_
    refine A_iaddv (z := (4 * a2 + v4)) d_MD_event_IIV_73 (w32_to (by omega) (by unfold i32; omega)) ?_
    refine A_ialoadf d_MD_event_IIV_74 (hb_s hb97 sf_206) g94.1 g94.2 (fun x100 ex100 lx100 ux100 => ?_)
    replace H := H x100 ex100 lx100 ux100
    refine A_iastoreN d_MD_event_IIV_75 (hb_s hb97 sf_193) g95.1 g95.2 ?_
    refine A_hn (fun h101 eh101 => ?_)
    have hb102 := hb_i hb97 eh101
    replace H := H h101 eh101
    have g103 := H.1
    replace H := H.2
    refine A_iincv (z := (v4 + 1)) (L' := [some (av_R (some 170)), none, some (av_I a2), some (av_I v3), some (av_I (v4 + 1))]) d_MD_event_IIV_76 rfl (w32_to (by omega) (by unfold i32; omega)) rfl ?_
    refine A_goto (tgt := 26) d_MD_event_IIV_79 (by decide) ?_
    refine A_pc (pc' := 26) rfl ?_
    exact hX26 (v3) ((v4 + 1)) h101  hb102 H
theorem lp_MD_event_IIV_26 {G : cx_T} {s : Nat} {a1 : Int} {a2 : Int} {Q : Option av_T → ah_T → Prop} (I : Int → Int → ah_T → Prop) (μ : Int → Int → ah_T → Nat) (hI : ∀ (v3 : Int) (v4 : Int) (h : ah_T), hb s h → I v3 v4 h → B_MD_event_IIV_26 G s a1 a2 v3 v4 h Q (fun v3' v4' h' => I v3' v4' h' ∧ μ v3' v4' h' < μ v3 v4 h)) : ∀ (v3 : Int) (v4 : Int) (h : ah_T), hb s h → I v3 v4 h → aw G (rm_R 3 0 0) m_MD_event_IIV 0 0 26 [some (av_R (some 170)), none, some (av_I a2), some (av_I v3), some (av_I v4)] [] h Q := by
  have key : ∀ (n : Nat) (v3 : Int) (v4 : Int) (h : ah_T), hb s h → I v3 v4 h → μ v3 v4 h < n → aw G (rm_R 3 0 0) m_MD_event_IIV 0 0 26 [some (av_R (some 170)), none, some (av_I a2), some (av_I v3), some (av_I v4)] [] h Q := by
    intro n
    induction n with
    | zero => intro v3 v4 h  hb0 hi hm; omega
    | succ n ih => intro v3 v4 h  hb0 hi hm; exact b_MD_event_IIV_26  (fun v3' v4' h'  hb' hx => ih v3' v4' h'  hb' hx.1 (by have := hx.2; omega))  hb0 (hI v3 v4 h  hb0 hi)
  exact fun v3 v4 h  hb0 hi => key _ v3 v4 h  hb0 hi (Nat.lt_succ_self _)
def B_MD_event_IIV_0 (G : cx_T) (s : Nat) (a1 : Int) (a2 : Int) (h : ah_T) (Q : Option av_T → ah_T → Prop) (X26 : Int → Int → ah_T → Prop) : Prop :=
 ((-2147483648) ≤ (300 * a1) ∧ (300 * a1) ≤ 2147483647) ∧ ∀ x2 : Int, x2 = h.2.1 170 72 → -2147483648 ≤ x2 → x2 ≤ 2147483647 → ((-2147483648) ≤ (300 * a1 + x2) ∧ (300 * a1 + x2) ≤ 2147483647) ∧ (0 ≤ a2 ∧ a2 < 2100) ∧ ∀ x6 : Int, x6 = h.2.1 204 (a2).toNat → -2147483648 ≤ x6 → x6 ≤ 2147483647 → (0 ≤ (300 * a1 + x2) ∧ (300 * a1 + x2) < 2400) ∧ ∀ h9 : ah_T, h9 = st_i h 191 ((300 * a1 + x2)).toNat x6 → X26 ((300 * a1 + x2)) (0) h9
theorem b_MD_event_IIV_0 {G : cx_T} {s : Nat} {a1 : Int} {a2 : Int} {h : ah_T} {Q : Option av_T → ah_T → Prop} {X26 : Int → Int → ah_T → Prop} (hX26 : ∀ (v3 : Int) (v4 : Int) (h : ah_T), hb s h → X26 v3 v4 h → aw G (rm_R 3 0 0) m_MD_event_IIV 0 0 26 [some (av_R (some 170)), none, some (av_I a2), some (av_I v3), some (av_I v4)] [] h Q) (hb0 : hb s h) (H : B_MD_event_IIV_0 G s a1 a2 h Q X26) : aw G (rm_R 3 0 0) m_MD_event_IIV 0 0 0 [some (av_R (some 170)), some (av_I a1), some (av_I a2), none, none] [] h Q := by
  unfold B_MD_event_IIV_0 at H
  have hS : isS s := hb0.2.1
  refine A_sipush d_MD_event_IIV_0 rfl ?_
  refine A_iload_n 1 d_MD_event_IIV_3 rfl rfl ?_
  have g1 := H.1
  replace H := H.2
  refine A_imulv (z := (300 * a1)) d_MD_event_IIV_4 (w32_to (by omega) (by unfold i32; omega)) ?_
  refine A_aload_n 0 d_MD_event_IIV_5 rfl rfl ?_
  refine A_getIf T_ok d_MD_event_IIV_6 f_MD_405 (hb_s hb0 sf_170) (fun x2 ex2 lx2 ux2 => ?_)
  replace H := H x2 ex2 lx2 ux2
  refine A_pc (pc' := 9) rfl ?_
  have g3 := H.1
  replace H := H.2
  refine A_iaddv (z := (300 * a1 + x2)) d_MD_event_IIV_9 (w32_to (by omega) (by unfold i32; omega)) ?_
  refine A_istore_n 3 (L' := [some (av_R (some 170)), some (av_I a1), some (av_I a2), some (av_I (300 * a1 + x2)), none]) d_MD_event_IIV_10 rfl (Nat.le_of_ble_eq_true rfl) rfl ?_
  refine A_aload_n 0 d_MD_event_IIV_11 rfl rfl ?_
  refine A_getAv (z := some 191) T_ok d_MD_event_IIV_12 f_MD_75 (hb_s hb0 sf_170) (hb_m hb0 rfm_33) ?_
  refine A_iload_n 3 d_MD_event_IIV_15 rfl rfl ?_
  refine A_aload_n 0 d_MD_event_IIV_16 rfl rfl ?_
  refine A_pc (pc' := 17) rfl ?_
  refine A_getAv (z := some 204) T_ok d_MD_event_IIV_17 f_MD_115 (hb_s hb0 sf_170) (hb_m hb0 rfm_47) ?_
  refine A_iload_n 2 d_MD_event_IIV_20 rfl rfl ?_
  have g7 := H.1
  replace H := H.2
  refine A_ialoadf d_MD_event_IIV_21 (hb_s hb0 sf_204) g7.1 g7.2 (fun x6 ex6 lx6 ux6 => ?_)
  replace H := H x6 ex6 lx6 ux6
  have g8 := H.1
  replace H := H.2
  refine A_iastoreN d_MD_event_IIV_22 (hb_s hb0 sf_191) g8.1 g8.2 ?_
  refine A_hn (fun h9 eh9 => ?_)
  have hb10 := hb_i hb0 eh9
  replace H := H h9 eh9
  refine A_iconst d_MD_event_IIV_23 rfl ?_
  refine A_istore (L' := [some (av_R (some 170)), some (av_I a1), some (av_I a2), some (av_I (300 * a1 + x2)), some (av_I 0)]) d_MD_event_IIV_24 (Nat.le_of_ble_eq_true rfl) rfl ?_
  refine A_pc (pc' := 26) rfl ?_
  refine A_free (L' := [some (av_R (some 170)), none, some (av_I a2), some (av_I (300 * a1 + x2)), some (av_I 0)]) (And.intro rfl (And.intro rfl (And.intro rfl (And.intro rfl trivial)))) ?_
  exact hX26 ((300 * a1 + x2)) (0) h9  hb10 H
theorem c_MD_event_IIV {G : cx_T} {s : Nat} {a1 : Int} {a2 : Int} {h : ah_T} {Q : Option av_T → ah_T → Prop} {X26 : Int → Int → ah_T → Prop} (hX26 : ∀ (v3 : Int) (v4 : Int) (h : ah_T), hb s h → X26 v3 v4 h → aw G (rm_R 3 0 0) m_MD_event_IIV 0 0 26 [some (av_R (some 170)), none, some (av_I a2), some (av_I v3), some (av_I v4)] [] h Q) (hb0 : hb s h) (H : i32 a1 → i32 a2 → B_MD_event_IIV_0 G s a1 a2 h Q X26) : con G 3 0 0 m_MD_event_IIV [av_R (some 170), av_I a1, av_I a2] h Q := by
  have hS : isS s := hb0.2.1
  refine con_of (L := [some (av_R (some 170)), some (av_I a1), some (av_I a2), none, none]) (by decide +kernel) (Nat.le_of_ble_eq_true rfl) rfl ?_
  refine A_locI 1 rfl (fun ra1 => ?_)
  refine A_locI 2 rfl (fun ra2 => ?_)
  exact b_MD_event_IIV_0  hX26 hb0 (H ra1 ra2)
def B_MD_walk_530 (G : cx_T) (s : Nat) (a1 : Int) (v2 : Int) (v4 : Int) (h : ah_T) (Q : Option av_T → ah_T → Prop) : Prop :=
 ((v4 = 0 → ∀ x1 : Int, x1 = h.2.1 170 74 → (x1 = 0 ∨ x1 = 1) → ((x1 = 0 → ∀ x3 : Int, x3 = h.2.1 170 72 → -2147483648 ≤ x3 → x3 ≤ 2147483647 → (0 ≤ v2 ∧ v2 < 8) ∧ ∀ h5 : ah_T, h5 = st_i h 185 (v2).toNat x3 → ∀ x8 : Int, x8 = h5.2.1 170 73 → -2147483648 ≤ x8 → x8 ≤ 2147483647 → ((-2147483648) ≤ (x8 + 1) ∧ (x8 + 1) ≤ 2147483647) ∧ ∀ h10 : ah_T, h10 = st_i h5 186 (v2).toNat (x8 + 1) → ((-2147483648) ≤ (102 * v2) ∧ (102 * v2) ≤ 2147483647) ∧ ((-2147483648) ≤ (102 * v2 + x8) ∧ (102 * v2 + x8) ≤ 2147483647) ∧ ((-2147483648) ≤ (102 * v2 + x8 + 1) ∧ (102 * v2 + x8 + 1) ≤ 2147483647) ∧ ∀ x17 : Int, x17 = h10.2.2.1 170 75 → -9223372036854775808 ≤ x17 → x17 ≤ 9223372036854775807 → (0 ≤ (102 * v2 + x8 + 1) ∧ (102 * v2 + x8 + 1) < 816) ∧ ∀ h19 : ah_T, h19 = st_l h10 199 ((102 * v2 + x8 + 1)).toNat x17 → ∀ x23 : Int, x23 = h19.2.2.1 170 76 → -9223372036854775808 ≤ x23 → x23 ≤ 9223372036854775807 → ∀ h24 : ah_T, h24 = st_l h19 200 ((102 * v2 + x8 + 1)).toNat x23 → Q (some (av_I 1)) h24) ∧ (¬ x1 = 0 → con G 0 0 0 m_MD_wrong [av_R (some 170), av_I 6, av_I a1] h (fun r h26 => ∃ z28 : Int, r = some (av_I z28) ∧ hb s h26 ∧ (z28 = 0 ∨ z28 = 1) ∧ Q (some (av_I z28)) h26)))) ∧ (¬ v4 = 0 → con G 0 0 0 m_MD_wrong [av_R (some 170), av_I 3, av_I a1] h (fun r h29 => ∃ z31 : Int, r = some (av_I z31) ∧ hb s h29 ∧ (z31 = 0 ∨ z31 = 1) ∧ Q (some (av_I z31)) h29)))
theorem b_MD_walk_530 {G : cx_T} {s : Nat} {a1 : Int} {v2 : Int} {v4 : Int} {h : ah_T} {Q : Option av_T → ah_T → Prop} (hb0 : hb s h) (H : B_MD_walk_530 G s a1 v2 v4 h Q ) : aw G (rm_R 4 0 0) m_MD_walk 0 0 530 [some (av_R (some 170)), some (av_I a1), some (av_I v2), none, some (av_I v4), none, none] [] h Q := by
  unfold B_MD_walk_530 at H
  have hS : isS s := hb0.2.1
  refine A_iload d_MD_walk_530 rfl ?_
  refine A_if_eq (tgt := 542) d_MD_walk_532 (by decide) (fun c => ?_) (fun c => ?_)
  · replace H := H.1 c
    refine A_aload_n 0 d_MD_walk_542 rfl rfl ?_
    refine A_getZn T_ok d_MD_walk_543 f_MD_411 (hb_s hb0 sf_170) (fun x1 ex1 bx1 => ?_)
    replace H := H x1 ex1 bx1
    refine A_if_eq (tgt := 557) d_MD_walk_546 (by decide) (fun c => ?_) (fun c => ?_)
    · replace H := H.1 c
      refine A_aload_n 0 d_MD_walk_557 rfl rfl ?_
      refine A_getAv (z := some 185) T_ok d_MD_walk_558 f_MD_57 (hb_s hb0 sf_170) (hb_m hb0 rfm_27) ?_
      refine A_iload_n 2 d_MD_walk_561 rfl rfl ?_
      refine A_aload_n 0 d_MD_walk_562 rfl rfl ?_
      refine A_getIf T_ok d_MD_walk_563 f_MD_405 (hb_s hb0 sf_170) (fun x3 ex3 lx3 ux3 => ?_)
      replace H := H x3 ex3 lx3 ux3
      refine A_pc (pc' := 566) rfl ?_
      have g4 := H.1
      replace H := H.2
      refine A_iastoreN d_MD_walk_566 (hb_s hb0 sf_185) g4.1 g4.2 ?_
      refine A_hn (fun h5 eh5 => ?_)
      have hb6 := hb_i hb0 eh5
      replace H := H h5 eh5
      refine A_aload_n 0 d_MD_walk_567 rfl rfl ?_
      refine A_getAv (z := some 186) T_ok d_MD_walk_568 f_MD_60 (hb_s hb6 sf_170) (hb_m hb6 rfm_28) ?_
      refine A_iload_n 2 d_MD_walk_571 rfl rfl ?_
      refine A_aload_n 0 d_MD_walk_572 rfl rfl ?_
      refine A_getIf T_ok d_MD_walk_573 f_MD_408 (hb_s hb6 sf_170) (fun x8 ex8 lx8 ux8 => ?_)
      replace H := H x8 ex8 lx8 ux8
      refine A_pc (pc' := 576) rfl ?_
      refine A_iconst d_MD_walk_576 rfl ?_
      have g9 := H.1
      replace H := H.2
      refine A_iaddv (z := (x8 + 1)) d_MD_walk_577 (w32_to (by omega) (by unfold i32; omega)) ?_
      refine A_iastoreN d_MD_walk_578 (hb_s hb6 sf_186) g4.1 g4.2 ?_
      refine A_hn (fun h10 eh10 => ?_)
      have hb11 := hb_i hb6 eh10
      replace H := H h10 eh10
      refine A_aload_n 0 d_MD_walk_579 rfl rfl ?_
      refine A_getAv (z := some 199) T_ok d_MD_walk_580 f_MD_100 (hb_s hb11 sf_170) (hb_m hb11 rfm_41) ?_
      refine A_bipush d_MD_walk_583 rfl ?_
      refine A_pc (pc' := 585) rfl ?_
      refine A_iload_n 2 d_MD_walk_585 rfl rfl ?_
      have g13 := H.1
      replace H := H.2
      refine A_imulv (z := (102 * v2)) d_MD_walk_586 (w32_to (by omega) (by unfold i32; omega)) ?_
      refine A_aload_n 0 d_MD_walk_587 rfl rfl ?_
      refine A_getIv (z := x8) T_ok d_MD_walk_588 f_MD_408 (hb_s hb11 sf_170) ((mm_i eh10 (fun q => absurd q.1 (by decide))).trans ex8.symm) ?_
      have g15 := H.1
      replace H := H.2
      refine A_iaddv (z := (102 * v2 + x8)) d_MD_walk_591 (w32_to (by omega) (by unfold i32; omega)) ?_
      refine A_iconst d_MD_walk_592 rfl ?_
      refine A_pc (pc' := 593) rfl ?_
      have g16 := H.1
      replace H := H.2
      refine A_iaddv (z := (102 * v2 + x8 + 1)) d_MD_walk_593 (w32_to (by omega) (by unfold i32; omega)) ?_
      refine A_aload_n 0 d_MD_walk_594 rfl rfl ?_
      refine A_getLf T_ok d_MD_walk_595 f_MD_414 (hb_s hb11 sf_170) (fun x17 ex17 lx17 ux17 => ?_)
      replace H := H x17 ex17 lx17 ux17
      have g18 := H.1
      replace H := H.2
      refine A_lastoreN d_MD_walk_598 (hb_s hb11 sf_199) g18.1 g18.2 ?_
      refine A_hn (fun h19 eh19 => ?_)
      have hb20 := hb_l hb11 eh19
      replace H := H h19 eh19
      refine A_aload_n 0 d_MD_walk_599 rfl rfl ?_
      refine A_getAv (z := some 200) T_ok d_MD_walk_600 f_MD_103 (hb_s hb20 sf_170) (hb_m hb20 rfm_42) ?_
      refine A_pc (pc' := 603) rfl ?_
      refine A_bipush d_MD_walk_603 rfl ?_
      refine A_iload_n 2 d_MD_walk_605 rfl rfl ?_
      refine A_imulv (z := (102 * v2)) d_MD_walk_606 (w32_to (by omega) (by unfold i32; omega)) ?_
      refine A_aload_n 0 d_MD_walk_607 rfl rfl ?_
      refine A_getIv (z := x8) T_ok d_MD_walk_608 f_MD_408 (hb_s hb20 sf_170) ((mm_lo eh19).trans ((mm_i eh10 (fun q => absurd q.1 (by decide))).trans ex8.symm)) ?_
      refine A_iaddv (z := (102 * v2 + x8)) d_MD_walk_611 (w32_to (by omega) (by unfold i32; omega)) ?_
      refine A_pc (pc' := 612) rfl ?_
      refine A_iconst d_MD_walk_612 rfl ?_
      refine A_iaddv (z := (102 * v2 + x8 + 1)) d_MD_walk_613 (w32_to (by omega) (by unfold i32; omega)) ?_
      refine A_aload_n 0 d_MD_walk_614 rfl rfl ?_
      refine A_getLf T_ok d_MD_walk_615 f_MD_417 (hb_s hb20 sf_170) (fun x23 ex23 lx23 ux23 => ?_)
      replace H := H x23 ex23 lx23 ux23
      refine A_lastoreN d_MD_walk_618 (hb_s hb20 sf_200) g18.1 g18.2 ?_
      refine A_hn (fun h24 eh24 => ?_)
      have hb25 := hb_l hb20 eh24
      replace H := H h24 eh24
      refine A_iconst d_MD_walk_619 rfl ?_
      refine A_pc (pc' := 620) rfl ?_
      exact A_zret d_MD_walk_620 (by decide) rfl (by decide) H
    · replace H := H.2 c
      refine A_aload_n 0 d_MD_walk_549 rfl rfl ?_
      refine A_bipush d_MD_walk_550 rfl ?_
      refine A_iload_n 1 d_MD_walk_552 rfl rfl ?_
      refine A_callV2 m_MD_wrong T_ok d_MD_walk_553 l_MD_245 k_MD_wrong (hb_s hb0 sf_170) rfl (by decide +kernel) (by decide) (Nat.le_of_ble_eq_true rfl) H (fun r h26 hq => ?_)
      clear H
      obtain ⟨z28, rfl, hb27, H⟩ := hq
      exact A_zret d_MD_walk_556 (by decide) rfl H.1 H.2
  · replace H := H.2 c
    refine A_aload_n 0 d_MD_walk_535 rfl rfl ?_
    refine A_iconst d_MD_walk_536 rfl ?_
    refine A_iload_n 1 d_MD_walk_537 rfl rfl ?_
    refine A_callV2 m_MD_wrong T_ok d_MD_walk_538 l_MD_245 k_MD_wrong (hb_s hb0 sf_170) rfl (by decide +kernel) (by decide) (Nat.le_of_ble_eq_true rfl) H (fun r h29 hq => ?_)
    clear H
    obtain ⟨z31, rfl, hb30, H⟩ := hq
    exact A_zret d_MD_walk_541 (by decide) rfl H.1 H.2
def B_MD_walk_525 (G : cx_T) (s : Nat) (a1 : Int) (v2 : Int) (v3 : Int) (t0 : Int) (h : ah_T) (Q : Option av_T → ah_T → Prop) (X79 : Int → Int → Int → ah_T → Prop) : Prop :=
 X79 (v2) (v3) (t0) h
theorem b_MD_walk_525 {G : cx_T} {s : Nat} {a1 : Int} {v2 : Int} {v3 : Int} {t0 : Int} {h : ah_T} {Q : Option av_T → ah_T → Prop} {X79 : Int → Int → Int → ah_T → Prop} (hX79 : ∀ (v2 : Int) (v3 : Int) (v4 : Int) (h : ah_T), hb s h → X79 v2 v3 v4 h → aw G (rm_R 4 0 0) m_MD_walk 0 0 79 [some (av_R (some 170)), some (av_I a1), some (av_I v2), some (av_I v3), some (av_I v4), none, none] [] h Q) (hb0 : hb s h) (H : B_MD_walk_525 G s a1 v2 v3 t0 h Q X79) : aw G (rm_R 4 0 0) m_MD_walk 0 0 525 [some (av_R (some 170)), some (av_I a1), some (av_I v2), some (av_I v3), none, none, none] [av_I t0] h Q := by
  unfold B_MD_walk_525 at H
  have hS : isS s := hb0.2.1
  refine A_istore (L' := [some (av_R (some 170)), some (av_I a1), some (av_I v2), some (av_I v3), some (av_I t0), none, none]) d_MD_walk_525 (Nat.le_of_ble_eq_true rfl) rfl ?_
  refine A_goto (tgt := 79) d_MD_walk_527 (by decide) ?_
  refine A_pc (pc' := 79) rfl ?_
  exact hX79 (v2) (v3) (t0) h  hb0 H
def B_MD_walk_520 (G : cx_T) (s : Nat) (a1 : Int) (v2 : Int) (v3 : Int) (h : ah_T) (Q : Option av_T → ah_T → Prop) (X79 : Int → Int → Int → ah_T → Prop) : Prop :=
 B_MD_walk_525 G s a1 (v2) (v3) (1) h Q X79
theorem b_MD_walk_520 {G : cx_T} {s : Nat} {a1 : Int} {v2 : Int} {v3 : Int} {h : ah_T} {Q : Option av_T → ah_T → Prop} {X79 : Int → Int → Int → ah_T → Prop} (hX79 : ∀ (v2 : Int) (v3 : Int) (v4 : Int) (h : ah_T), hb s h → X79 v2 v3 v4 h → aw G (rm_R 4 0 0) m_MD_walk 0 0 79 [some (av_R (some 170)), some (av_I a1), some (av_I v2), some (av_I v3), some (av_I v4), none, none] [] h Q) (hb0 : hb s h) (H : B_MD_walk_520 G s a1 v2 v3 h Q X79) : aw G (rm_R 4 0 0) m_MD_walk 0 0 520 [some (av_R (some 170)), some (av_I a1), some (av_I v2), some (av_I v3), none, none, none] [] h Q := by
  unfold B_MD_walk_520 at H
  have hS : isS s := hb0.2.1
  refine A_iconst d_MD_walk_520 rfl ?_
  refine A_goto (tgt := 525) d_MD_walk_521 (by decide) ?_
  refine A_pc (pc' := 525) rfl ?_
  exact b_MD_walk_525  hX79  hb0 H
def B_MD_walk_491 (G : cx_T) (s : Nat) (a1 : Int) (v2 : Int) (v3 : Int) (h : ah_T) (Q : Option av_T → ah_T → Prop) (X79 : Int → Int → Int → ah_T → Prop) : Prop :=
 ∀ x1 : Int, x1 = h.2.1 170 72 → -2147483648 ≤ x1 → x1 ≤ 2147483647 → ((300 < x1 → B_MD_walk_520 G s a1 (v2) (v3) h Q X79) ∧ (¬ 300 < x1 → ∀ x2 : Int, x2 = h.2.1 170 73 → -2147483648 ≤ x2 → x2 ≤ 2147483647 → ((100 < x2 → B_MD_walk_520 G s a1 (v2) (v3) h Q X79) ∧ (¬ 100 < x2 → ∀ x3 : Int, x3 = h.2.1 170 71 → -2147483648 ≤ x3 → x3 ≤ 2147483647 → ((x3 ≤ 2000 → B_MD_walk_525 G s a1 (v2) (v3) (0) h Q X79) ∧ (¬ x3 ≤ 2000 → B_MD_walk_520 G s a1 (v2) (v3) h Q X79))))))
theorem b_MD_walk_491 {G : cx_T} {s : Nat} {a1 : Int} {v2 : Int} {v3 : Int} {h : ah_T} {Q : Option av_T → ah_T → Prop} {X79 : Int → Int → Int → ah_T → Prop} (hX79 : ∀ (v2 : Int) (v3 : Int) (v4 : Int) (h : ah_T), hb s h → X79 v2 v3 v4 h → aw G (rm_R 4 0 0) m_MD_walk 0 0 79 [some (av_R (some 170)), some (av_I a1), some (av_I v2), some (av_I v3), some (av_I v4), none, none] [] h Q) (hb0 : hb s h) (H : B_MD_walk_491 G s a1 v2 v3 h Q X79) : aw G (rm_R 4 0 0) m_MD_walk 0 0 491 [some (av_R (some 170)), some (av_I a1), some (av_I v2), some (av_I v3), none, none, none] [] h Q := by
  unfold B_MD_walk_491 at H
  have hS : isS s := hb0.2.1
  refine A_aload_n 0 d_MD_walk_491 rfl rfl ?_
  refine A_getIf T_ok d_MD_walk_492 f_MD_405 (hb_s hb0 sf_170) (fun x1 ex1 lx1 ux1 => ?_)
  replace H := H x1 ex1 lx1 ux1
  refine A_sipush d_MD_walk_495 rfl ?_
  refine A_icmp_gt (tgt := 520) d_MD_walk_498 (by decide) (fun c => ?_) (fun c => ?_)
  · replace H := H.1 c
    refine A_pc (pc' := 520) rfl ?_
    exact b_MD_walk_520  hX79  hb0 H
  · replace H := H.2 c
    refine A_aload_n 0 d_MD_walk_501 rfl rfl ?_
    refine A_getIf T_ok d_MD_walk_502 f_MD_408 (hb_s hb0 sf_170) (fun x2 ex2 lx2 ux2 => ?_)
    replace H := H x2 ex2 lx2 ux2
    refine A_bipush d_MD_walk_505 rfl ?_
    refine A_icmp_gt (tgt := 520) d_MD_walk_507 (by decide) (fun c => ?_) (fun c => ?_)
    · replace H := H.1 c
      refine A_pc (pc' := 520) rfl ?_
      exact b_MD_walk_520  hX79  hb0 H
    · replace H := H.2 c
      refine A_aload_n 0 d_MD_walk_510 rfl rfl ?_
      refine A_getIf T_ok d_MD_walk_511 f_MD_402 (hb_s hb0 sf_170) (fun x3 ex3 lx3 ux3 => ?_)
      replace H := H x3 ex3 lx3 ux3
      refine A_sipush d_MD_walk_514 rfl ?_
      refine A_icmp_le (tgt := 524) d_MD_walk_517 (by decide) (fun c => ?_) (fun c => ?_)
      · replace H := H.1 c
        refine A_iconst d_MD_walk_524 rfl ?_
        refine A_pc (pc' := 525) rfl ?_
        exact b_MD_walk_525  hX79  hb0 H
      · replace H := H.2 c
        refine A_pc (pc' := 520) rfl ?_
        exact b_MD_walk_520  hX79  hb0 H
def B_MD_walk_472 (G : cx_T) (s : Nat) (a1 : Int) (v2 : Int) (v3 : Int) (h : ah_T) (Q : Option av_T → ah_T → Prop) (X79 : Int → Int → Int → ah_T → Prop) : Prop :=
 B_MD_walk_491 G s a1 (v2) (v3) h Q X79
theorem b_MD_walk_472 {G : cx_T} {s : Nat} {a1 : Int} {v2 : Int} {v3 : Int} {h : ah_T} {Q : Option av_T → ah_T → Prop} {X79 : Int → Int → Int → ah_T → Prop} (hX79 : ∀ (v2 : Int) (v3 : Int) (v4 : Int) (h : ah_T), hb s h → X79 v2 v3 v4 h → aw G (rm_R 4 0 0) m_MD_walk 0 0 79 [some (av_R (some 170)), some (av_I a1), some (av_I v2), some (av_I v3), some (av_I v4), none, none] [] h Q) (hb0 : hb s h) (H : B_MD_walk_472 G s a1 v2 v3 h Q X79) : aw G (rm_R 4 0 0) m_MD_walk 0 0 472 [some (av_R (some 170)), some (av_I a1), some (av_I v2), some (av_I v3), none, none, none] [] h Q := by
  unfold B_MD_walk_472 at H
  have hS : isS s := hb0.2.1
  refine A_goto (tgt := 491) d_MD_walk_472 (by decide) ?_
  refine A_pc (pc' := 491) rfl ?_
  exact b_MD_walk_491  hX79  hb0 H
def B_MD_walk_465 (G : cx_T) (s : Nat) (a1 : Int) (v2 : Int) (v6 : Int) (h : ah_T) (Q : Option av_T → ah_T → Prop) (X79 : Int → Int → Int → ah_T → Prop) : Prop :=
 con G 1 0 0 m_MD_turned [av_R (some 170), av_I v6] h (fun r h1 => ∃ z3 : Int, r = some (av_I z3) ∧ hb s h1 ∧ B_MD_walk_472 G s a1 (v2) (z3) h1 Q X79)
theorem b_MD_walk_465 {G : cx_T} {s : Nat} {a1 : Int} {v2 : Int} {v6 : Int} {h : ah_T} {Q : Option av_T → ah_T → Prop} {X79 : Int → Int → Int → ah_T → Prop} (hX79 : ∀ (v2 : Int) (v3 : Int) (v4 : Int) (h : ah_T), hb s h → X79 v2 v3 v4 h → aw G (rm_R 4 0 0) m_MD_walk 0 0 79 [some (av_R (some 170)), some (av_I a1), some (av_I v2), some (av_I v3), some (av_I v4), none, none] [] h Q) (hb0 : hb s h) (H : B_MD_walk_465 G s a1 v2 v6 h Q X79) : aw G (rm_R 4 0 0) m_MD_walk 0 0 465 [some (av_R (some 170)), some (av_I a1), some (av_I v2), none, none, none, some (av_I v6)] [] h Q := by
  unfold B_MD_walk_465 at H
  have hS : isS s := hb0.2.1
  refine A_aload_n 0 d_MD_walk_465 rfl rfl ?_
  refine A_iload d_MD_walk_466 rfl ?_
  refine A_callV1 m_MD_turned T_ok d_MD_walk_468 l_MD_446 k_MD_turned (hb_s hb0 sf_170) rfl (by decide +kernel) (by decide) (Nat.le_of_ble_eq_true rfl) H (fun r h1 hq => ?_)
  clear H
  obtain ⟨z3, rfl, hb2, H⟩ := hq
  refine A_istore_n 3 (L' := [some (av_R (some 170)), some (av_I a1), some (av_I v2), some (av_I z3), none, none, some (av_I v6)]) d_MD_walk_471 rfl (Nat.le_of_ble_eq_true rfl) rfl ?_
  refine A_pc (pc' := 472) rfl ?_
  refine A_free (L' := [some (av_R (some 170)), some (av_I a1), some (av_I v2), some (av_I z3), none, none, none]) (And.intro rfl (And.intro rfl (And.intro rfl (And.intro rfl trivial)))) ?_
  exact b_MD_walk_472  hX79  hb2 H
def B_MD_walk_298 (G : cx_T) (s : Nat) (a1 : Int) (v2 : Int) (v3 : Int) (t1 : Int) (t2 : Int) (h : ah_T) (Q : Option av_T → ah_T → Prop) (X79 : Int → Int → Int → ah_T → Prop) : Prop :=
 (0 ≤ t1 ∧ t1 < 10) ∧ ∀ h2 : ah_T, h2 = st_i h 219 (t1).toNat t2 → ∀ x4 : Int, x4 = h2.2.1 170 70 → -2147483648 ≤ x4 → x4 ≤ 2147483647 → ((-2147483648) ≤ (x4 + 1) ∧ (x4 + 1) ≤ 2147483647) ∧ ∀ h6 : ah_T, h6 = st_i h2 170 70 (x4 + 1) → ∀ x8 : Int, x8 = h6.2.1 170 71 → -2147483648 ≤ x8 → x8 ≤ 2147483647 → ((-2147483648) ≤ (x8 + 1) ∧ (x8 + 1) ≤ 2147483647) ∧ ∀ h10 : ah_T, h10 = st_i h6 170 71 (x8 + 1) → ((-2147483648) ≤ (v3 + 1) ∧ (v3 + 1) ≤ 2147483647) ∧ B_MD_walk_491 G s a1 (v2) ((v3 + 1)) h10 Q X79
theorem b_MD_walk_298 {G : cx_T} {s : Nat} {a1 : Int} {v2 : Int} {v3 : Int} {t1 : Int} {t2 : Int} {h : ah_T} {Q : Option av_T → ah_T → Prop} {X79 : Int → Int → Int → ah_T → Prop} (hX79 : ∀ (v2 : Int) (v3 : Int) (v4 : Int) (h : ah_T), hb s h → X79 v2 v3 v4 h → aw G (rm_R 4 0 0) m_MD_walk 0 0 79 [some (av_R (some 170)), some (av_I a1), some (av_I v2), some (av_I v3), some (av_I v4), none, none] [] h Q) (hb0 : hb s h) (H : B_MD_walk_298 G s a1 v2 v3 t1 t2 h Q X79) : aw G (rm_R 4 0 0) m_MD_walk 0 0 298 [some (av_R (some 170)), some (av_I a1), some (av_I v2), some (av_I v3), none, none, none] [av_I t2, av_I t1, av_R (some 219)] h Q := by
  unfold B_MD_walk_298 at H
  have hS : isS s := hb0.2.1
  have g1 := H.1
  replace H := H.2
  refine A_iastoreN d_MD_walk_298 (hb_s hb0 sf_219) g1.1 g1.2 ?_
  refine A_hn (fun h2 eh2 => ?_)
  have hb3 := hb_i hb0 eh2
  replace H := H h2 eh2
  refine A_aload_n 0 d_MD_walk_299 rfl rfl ?_
  refine A_dupR d_MD_walk_300 ?_
  refine A_getIf T_ok d_MD_walk_301 f_MD_399 (hb_s hb3 sf_170) (fun x4 ex4 lx4 ux4 => ?_)
  replace H := H x4 ex4 lx4 ux4
  refine A_iconst d_MD_walk_304 rfl ?_
  refine A_pc (pc' := 305) rfl ?_
  have g5 := H.1
  replace H := H.2
  refine A_iaddv (z := (x4 + 1)) d_MD_walk_305 (w32_to (by omega) (by unfold i32; omega)) ?_
  refine A_putI T_ok d_MD_walk_306 f_MD_399 (hb_s hb3 sf_170) fin_f ?_
  refine A_hn (fun h6 eh6 => ?_)
  have hb7 := hb_i hb3 eh6
  replace H := H h6 eh6
  refine A_aload_n 0 d_MD_walk_309 rfl rfl ?_
  refine A_dupR d_MD_walk_310 ?_
  refine A_getIf T_ok d_MD_walk_311 f_MD_402 (hb_s hb7 sf_170) (fun x8 ex8 lx8 ux8 => ?_)
  replace H := H x8 ex8 lx8 ux8
  refine A_iconst d_MD_walk_314 rfl ?_
  refine A_pc (pc' := 315) rfl ?_
  have g9 := H.1
  replace H := H.2
  refine A_iaddv (z := (x8 + 1)) d_MD_walk_315 (w32_to (by omega) (by unfold i32; omega)) ?_
  refine A_putI T_ok d_MD_walk_316 f_MD_402 (hb_s hb7 sf_170) fin_f ?_
  refine A_hn (fun h10 eh10 => ?_)
  have hb11 := hb_i hb7 eh10
  replace H := H h10 eh10
  have g12 := H.1
  replace H := H.2
  refine A_iincv (z := (v3 + 1)) (L' := [some (av_R (some 170)), some (av_I a1), some (av_I v2), some (av_I (v3 + 1)), none, none, none]) d_MD_walk_319 rfl (w32_to (by omega) (by unfold i32; omega)) rfl ?_
  refine A_goto (tgt := 491) d_MD_walk_322 (by decide) ?_
  refine A_pc (pc' := 491) rfl ?_
  exact b_MD_walk_491  hX79  hb11 H
def B_MD_walk_231 (G : cx_T) (s : Nat) (a1 : Int) (v2 : Int) (v3 : Int) (h : ah_T) (Q : Option av_T → ah_T → Prop) (X79 : Int → Int → Int → ah_T → Prop) : Prop :=
 ((-2147483648) ≤ (v3 + 1) ∧ (v3 + 1) ≤ 2147483647) ∧ B_MD_walk_491 G s a1 (v2) ((v3 + 1)) h Q X79
theorem b_MD_walk_231 {G : cx_T} {s : Nat} {a1 : Int} {v2 : Int} {v3 : Int} {h : ah_T} {Q : Option av_T → ah_T → Prop} {X79 : Int → Int → Int → ah_T → Prop} (hX79 : ∀ (v2 : Int) (v3 : Int) (v4 : Int) (h : ah_T), hb s h → X79 v2 v3 v4 h → aw G (rm_R 4 0 0) m_MD_walk 0 0 79 [some (av_R (some 170)), some (av_I a1), some (av_I v2), some (av_I v3), some (av_I v4), none, none] [] h Q) (hb0 : hb s h) (H : B_MD_walk_231 G s a1 v2 v3 h Q X79) : aw G (rm_R 4 0 0) m_MD_walk 0 0 231 [some (av_R (some 170)), some (av_I a1), some (av_I v2), some (av_I v3), none, none, none] [] h Q := by
  unfold B_MD_walk_231 at H
  have hS : isS s := hb0.2.1
  have g1 := H.1
  replace H := H.2
  refine A_iincv (z := (v3 + 1)) (L' := [some (av_R (some 170)), some (av_I a1), some (av_I v2), some (av_I (v3 + 1)), none, none, none]) d_MD_walk_231 rfl (w32_to (by omega) (by unfold i32; omega)) rfl ?_
  refine A_goto (tgt := 491) d_MD_walk_234 (by decide) ?_
  refine A_pc (pc' := 491) rfl ?_
  exact b_MD_walk_491  hX79  hb0 H
def B_MD_walk_154 (G : cx_T) (s : Nat) (a1 : Int) (v2 : Int) (v3 : Int) (h : ah_T) (Q : Option av_T → ah_T → Prop) (X79 : Int → Int → Int → ah_T → Prop) : Prop :=
 ∀ x1 : Int, x1 = h.2.1 170 72 → -2147483648 ≤ x1 → x1 ≤ 2147483647 → ((-2147483648) ≤ (x1 + 1) ∧ (x1 + 1) ≤ 2147483647) ∧ ∀ h3 : ah_T, h3 = st_i h 170 72 (x1 + 1) → ((-2147483648) ≤ (v3 + 1) ∧ (v3 + 1) ≤ 2147483647) ∧ B_MD_walk_491 G s a1 (v2) ((v3 + 1)) h3 Q X79
theorem b_MD_walk_154 {G : cx_T} {s : Nat} {a1 : Int} {v2 : Int} {v3 : Int} {h : ah_T} {Q : Option av_T → ah_T → Prop} {X79 : Int → Int → Int → ah_T → Prop} (hX79 : ∀ (v2 : Int) (v3 : Int) (v4 : Int) (h : ah_T), hb s h → X79 v2 v3 v4 h → aw G (rm_R 4 0 0) m_MD_walk 0 0 79 [some (av_R (some 170)), some (av_I a1), some (av_I v2), some (av_I v3), some (av_I v4), none, none] [] h Q) (hb0 : hb s h) (H : B_MD_walk_154 G s a1 v2 v3 h Q X79) : aw G (rm_R 4 0 0) m_MD_walk 0 0 154 [some (av_R (some 170)), some (av_I a1), some (av_I v2), some (av_I v3), none, none, none] [] h Q := by
  unfold B_MD_walk_154 at H
  have hS : isS s := hb0.2.1
  refine A_aload_n 0 d_MD_walk_154 rfl rfl ?_
  refine A_dupR d_MD_walk_155 ?_
  refine A_getIf T_ok d_MD_walk_156 f_MD_405 (hb_s hb0 sf_170) (fun x1 ex1 lx1 ux1 => ?_)
  replace H := H x1 ex1 lx1 ux1
  refine A_iconst d_MD_walk_159 rfl ?_
  have g2 := H.1
  replace H := H.2
  refine A_iaddv (z := (x1 + 1)) d_MD_walk_160 (w32_to (by omega) (by unfold i32; omega)) ?_
  refine A_pc (pc' := 161) rfl ?_
  refine A_putI T_ok d_MD_walk_161 f_MD_405 (hb_s hb0 sf_170) fin_f ?_
  refine A_hn (fun h3 eh3 => ?_)
  have hb4 := hb_i hb0 eh3
  replace H := H h3 eh3
  have g5 := H.1
  replace H := H.2
  refine A_iincv (z := (v3 + 1)) (L' := [some (av_R (some 170)), some (av_I a1), some (av_I v2), some (av_I (v3 + 1)), none, none, none]) d_MD_walk_164 rfl (w32_to (by omega) (by unfold i32; omega)) rfl ?_
  refine A_goto (tgt := 491) d_MD_walk_167 (by decide) ?_
  refine A_pc (pc' := 491) rfl ?_
  exact b_MD_walk_491  hX79  hb4 H
def B_MD_walk_133 (G : cx_T) (s : Nat) (a1 : Int) (v2 : Int) (v3 : Int) (v5 : Int) (h : ah_T) (Q : Option av_T → ah_T → Prop) (X79 : Int → Int → Int → ah_T → Prop) : Prop :=
 ((v5 = 0 → ∀ x93 : Int, x93 = h.2.1 170 72 → -2147483648 ≤ x93 → x93 ≤ 2147483647 → ((300 ≤ x93 → B_MD_walk_154 G s a1 (v2) (v3) h Q X79) ∧ (¬ 300 ≤ x93 → con G 3 0 0 m_MD_event_IIV [av_R (some 170), av_I v2, av_I v3] h (fun r h94 => r = none ∧ hb s h94 ∧ B_MD_walk_154 G s a1 (v2) (v3) h94 Q X79)))) ∧ (¬ v5 = 0 → ((v5 = 1 → ∀ x75 : Int, x75 = h.2.1 170 73 → -2147483648 ≤ x75 → x75 ≤ 2147483647 → ((-2147483648) ≤ (x75 + 1) ∧ (x75 + 1) ≤ 2147483647) ∧ ∀ h77 : ah_T, h77 = st_i h 170 73 (x75 + 1) → ((100 < (x75 + 1) → B_MD_walk_231 G s a1 (v2) (v3) h77 Q X79) ∧ (¬ 100 < (x75 + 1) → ((-2147483648) ≤ (102 * v2) ∧ (102 * v2) ≤ 2147483647) ∧ ((-2147483648) ≤ (102 * v2 + x75 + 1) ∧ (102 * v2 + x75 + 1) ≤ 2147483647) ∧ ∀ x84 : Int, x84 = h77.2.2.1 170 75 → -9223372036854775808 ≤ x84 → x84 ≤ 9223372036854775807 → (0 ≤ (102 * v2 + x75 + 1) ∧ (102 * v2 + x75 + 1) < 816) ∧ ∀ h86 : ah_T, h86 = st_l h77 199 ((102 * v2 + x75 + 1)).toNat x84 → ∀ x90 : Int, x90 = h86.2.2.1 170 76 → -9223372036854775808 ≤ x90 → x90 ≤ 9223372036854775807 → ∀ h91 : ah_T, h91 = st_l h86 200 ((102 * v2 + x75 + 1)).toNat x90 → B_MD_walk_231 G s a1 (v2) (v3) h91 Q X79))) ∧ (¬ v5 = 1 → ((v5 = 2 → ∀ x55 : Int, x55 = h.2.1 170 70 → -2147483648 ≤ x55 → x55 ≤ 2147483647 → (0 ≤ x55 ∧ x55 < 10) ∧ ∀ h57 : ah_T, h57 = st_i h 217 (x55).toNat v3 → ∀ h61 : ah_T, h61 = st_i h57 220 (x55).toNat 0 → ∀ h65 : ah_T, h65 = st_i h61 218 (x55).toNat 1 → con G 0 0 0 m_MD_colons [av_R (some 170), av_I v3] h65 (fun r h69 => ∃ z71 : Int, r = some (av_I z71) ∧ hb s h69 ∧ ((z71 = 0 → B_MD_walk_298 G s a1 (v2) (v3) (x55) (2) h69 Q X79) ∧ (¬ z71 = 0 → con G 0 0 0 m_MD_colons [av_R (some 170), av_I v3] h69 (fun r h72 => ∃ z74 : Int, r = some (av_I z74) ∧ hb s h72 ∧ B_MD_walk_298 G s a1 (v2) (v3) (x55) (z74) h72 Q X79))))) ∧ (¬ v5 = 2 → ((v5 = 5 → (0 ≤ v3 ∧ v3 < 2100) ∧ ∀ x46 : Int, x46 = h.2.1 203 (v3).toNat → -2147483648 ≤ x46 → x46 ≤ 2147483647 → ∀ x49 : Int, x49 = h.2.1 202 (v3).toNat → -2147483648 ≤ x49 → x49 ≤ 2147483647 → con G 2 0 0 m_MD_scale [av_R (some 170), av_I x46, av_I x49] h (fun r h50 => r = none ∧ hb s h50 ∧ ((-2147483648) ≤ (v3 + 1) ∧ (v3 + 1) ≤ 2147483647) ∧ B_MD_walk_491 G s a1 (v2) ((v3 + 1)) h50 Q X79)) ∧ (¬ v5 = 5 → ((v5 = 6 → con G 0 0 0 m_MD_opening [av_R (some 170), av_I v3] h (fun r h33 => ∃ z35 : Int, r = some (av_I z35) ∧ hb s h33 ∧ (0 ≤ z35 ∧ z35 < 2100) ∧ ∀ x37 : Int, x37 = h33.2.1 202 (z35).toNat → -2147483648 ≤ x37 → x37 ≤ 2147483647 → ∀ x40 : Int, x40 = h33.2.1 203 (z35).toNat → -2147483648 ≤ x40 → x40 ≤ 2147483647 → con G 2 0 0 m_MD_scale [av_R (some 170), av_I x37, av_I x40] h33 (fun r h41 => r = none ∧ hb s h41 ∧ ((-2147483648) ≤ (v3 + 1) ∧ (v3 + 1) ≤ 2147483647) ∧ B_MD_walk_491 G s a1 (v2) ((v3 + 1)) h41 Q X79))) ∧ (¬ v5 = 6 → ((v5 = 3 → ∀ x10 : Int, x10 = h.2.1 170 70 → -2147483648 ≤ x10 → x10 ≤ 2147483647 → ((-2147483648) ≤ (x10 - 1) ∧ (x10 - 1) ≤ 2147483647) ∧ (0 ≤ (x10 - 1) ∧ (x10 - 1) < 10) ∧ ∀ x12 : Int, x12 = h.2.1 217 ((x10 - 1)).toNat → -2147483648 ≤ x12 → x12 ≤ 2147483647 → ((-2147483648) ≤ (v3 + 1) ∧ (v3 + 1) ≤ 2147483647) ∧ con G 0 0 0 m_MD_behindColon [av_R (some 170), av_I x12, av_I 1] h (fun r h15 => ∃ z17 : Int, r = some (av_I z17) ∧ hb s h15 ∧ (((v3 + 1) = z17 → con G 0 0 0 m_MD_isIn [av_R (some 170), av_I x12] h15 (fun r h18 => ∃ z20 : Int, r = some (av_I z20) ∧ hb s h18 ∧ ((z20 = 0 → ∀ x22 : Int, x22 = h18.2.1 170 70 → -2147483648 ≤ x22 → x22 ≤ 2147483647 → ((-2147483648) ≤ (x22 - 1) ∧ (x22 - 1) ≤ 2147483647) ∧ (0 ≤ (x22 - 1) ∧ (x22 - 1) < 10) ∧ ∀ h25 : ah_T, h25 = st_i h18 220 ((x22 - 1)).toNat 1 → ∀ x29 : Int, x29 = h25.2.1 218 ((x22 - 1)).toNat → -2147483648 ≤ x29 → x29 ≤ 2147483647 → con G 0 0 0 m_MD_behindColon [av_R (some 170), av_I x12, av_I x29] h25 (fun r h30 => ∃ z32 : Int, r = some (av_I z32) ∧ hb s h30 ∧ B_MD_walk_472 G s a1 (v2) (z32) h30 Q X79)) ∧ (¬ z20 = 0 → B_MD_walk_465 G s a1 (v2) (x12) h18 Q X79)))) ∧ (¬ (v3 + 1) = z17 → B_MD_walk_465 G s a1 (v2) (x12) h15 Q X79)))) ∧ (¬ v5 = 3 → ∀ x2 : Int, x2 = h.2.1 170 70 → -2147483648 ≤ x2 → x2 ≤ 2147483647 → ((-2147483648) ≤ (x2 - 1) ∧ (x2 - 1) ≤ 2147483647) ∧ (0 ≤ (x2 - 1) ∧ (x2 - 1) < 10) ∧ ∀ x4 : Int, x4 = h.2.1 217 ((x2 - 1)).toNat → -2147483648 ≤ x4 → x4 ≤ 2147483647 → con G 1 0 0 m_MD_turned [av_R (some 170), av_I x4] h (fun r h6 => ∃ z8 : Int, r = some (av_I z8) ∧ hb s h6 ∧ B_MD_walk_491 G s a1 (v2) (z8) h6 Q X79)))))))))))))
theorem b_MD_walk_133 {G : cx_T} {s : Nat} {a1 : Int} {v2 : Int} {v3 : Int} {v5 : Int} {h : ah_T} {Q : Option av_T → ah_T → Prop} {X79 : Int → Int → Int → ah_T → Prop} (hX79 : ∀ (v2 : Int) (v3 : Int) (v4 : Int) (h : ah_T), hb s h → X79 v2 v3 v4 h → aw G (rm_R 4 0 0) m_MD_walk 0 0 79 [some (av_R (some 170)), some (av_I a1), some (av_I v2), some (av_I v3), some (av_I v4), none, none] [] h Q) (hb0 : hb s h) (H : B_MD_walk_133 G s a1 v2 v3 v5 h Q X79) : aw G (rm_R 4 0 0) m_MD_walk 0 0 133 [some (av_R (some 170)), some (av_I a1), some (av_I v2), some (av_I v3), none, some (av_I v5), none] [] h Q := by
  unfold B_MD_walk_133 at H
  have hS : isS s := hb0.2.1
  refine A_iload d_MD_walk_133 rfl ?_
  refine A_if_ne (tgt := 170) d_MD_walk_135 (by decide) (fun c => ?_) (fun c => ?_)
  · replace H := H.2 c
    refine A_iload d_MD_walk_170 rfl ?_
    refine A_iconst d_MD_walk_172 rfl ?_
    refine A_icmp_ne (tgt := 237) d_MD_walk_173 (by decide) (fun c => ?_) (fun c => ?_)
    · replace H := H.2 c
      refine A_iload d_MD_walk_237 rfl ?_
      refine A_iconst d_MD_walk_239 rfl ?_
      refine A_icmp_ne (tgt := 325) d_MD_walk_240 (by decide) (fun c => ?_) (fun c => ?_)
      · replace H := H.2 c
        refine A_iload d_MD_walk_325 rfl ?_
        refine A_iconst d_MD_walk_327 rfl ?_
        refine A_icmp_ne (tgt := 353) d_MD_walk_328 (by decide) (fun c => ?_) (fun c => ?_)
        · replace H := H.2 c
          refine A_iload d_MD_walk_353 rfl ?_
          refine A_bipush d_MD_walk_355 rfl ?_
          refine A_icmp_ne (tgt := 391) d_MD_walk_357 (by decide) (fun c => ?_) (fun c => ?_)
          · replace H := H.2 c
            refine A_iload d_MD_walk_391 rfl ?_
            refine A_iconst d_MD_walk_393 rfl ?_
            refine A_icmp_ne (tgt := 475) d_MD_walk_394 (by decide) (fun c => ?_) (fun c => ?_)
            · replace H := H.2 c
              refine A_aload_n 0 d_MD_walk_475 rfl rfl ?_
              refine A_aload_n 0 d_MD_walk_476 rfl rfl ?_
              refine A_getAv (z := some 217) T_ok d_MD_walk_477 f_MD_154 (hb_s hb0 sf_170) (hb_m hb0 rfm_67) ?_
              refine A_aload_n 0 d_MD_walk_480 rfl rfl ?_
              refine A_getIf T_ok d_MD_walk_481 f_MD_399 (hb_s hb0 sf_170) (fun x2 ex2 lx2 ux2 => ?_)
              replace H := H x2 ex2 lx2 ux2
              refine A_pc (pc' := 484) rfl ?_
              refine A_iconst d_MD_walk_484 rfl ?_
              have g3 := H.1
              replace H := H.2
              refine A_isubv (z := (x2 - 1)) d_MD_walk_485 (w32_to (by omega) (by unfold i32; omega)) ?_
              have g5 := H.1
              replace H := H.2
              refine A_ialoadf d_MD_walk_486 (hb_s hb0 sf_217) g5.1 g5.2 (fun x4 ex4 lx4 ux4 => ?_)
              replace H := H x4 ex4 lx4 ux4
              refine A_callV1 m_MD_turned T_ok d_MD_walk_487 l_MD_446 k_MD_turned (hb_s hb0 sf_170) rfl (by decide +kernel) (by decide) (Nat.le_of_ble_eq_true rfl) H (fun r h6 hq => ?_)
              clear H
              obtain ⟨z8, rfl, hb7, H⟩ := hq
              refine A_istore_n 3 (L' := [some (av_R (some 170)), some (av_I a1), some (av_I v2), some (av_I z8), none, some (av_I v5), none]) d_MD_walk_490 rfl (Nat.le_of_ble_eq_true rfl) rfl ?_
              refine A_pc (pc' := 491) rfl ?_
              refine A_free (L' := [some (av_R (some 170)), some (av_I a1), some (av_I v2), some (av_I z8), none, none, none]) (And.intro rfl (And.intro rfl (And.intro rfl (And.intro rfl trivial)))) ?_
              exact b_MD_walk_491  hX79  hb7 H
            · replace H := H.1 c
              refine A_aload_n 0 d_MD_walk_397 rfl rfl ?_
              refine A_getAv (z := some 217) T_ok d_MD_walk_398 f_MD_154 (hb_s hb0 sf_170) (hb_m hb0 rfm_67) ?_
              refine A_aload_n 0 d_MD_walk_401 rfl rfl ?_
              refine A_getIf T_ok d_MD_walk_402 f_MD_399 (hb_s hb0 sf_170) (fun x10 ex10 lx10 ux10 => ?_)
              replace H := H x10 ex10 lx10 ux10
              refine A_iconst d_MD_walk_405 rfl ?_
              refine A_pc (pc' := 406) rfl ?_
              have g11 := H.1
              replace H := H.2
              refine A_isubv (z := (x10 - 1)) d_MD_walk_406 (w32_to (by omega) (by unfold i32; omega)) ?_
              have g13 := H.1
              replace H := H.2
              refine A_ialoadf d_MD_walk_407 (hb_s hb0 sf_217) g13.1 g13.2 (fun x12 ex12 lx12 ux12 => ?_)
              replace H := H x12 ex12 lx12 ux12
              refine A_istore (L' := [some (av_R (some 170)), some (av_I a1), some (av_I v2), some (av_I v3), none, some (av_I v5), some (av_I x12)]) d_MD_walk_408 (Nat.le_of_ble_eq_true rfl) rfl ?_
              refine A_iload_n 3 d_MD_walk_410 rfl rfl ?_
              refine A_iconst d_MD_walk_411 rfl ?_
              have g14 := H.1
              replace H := H.2
              refine A_iaddv (z := (v3 + 1)) d_MD_walk_412 (w32_to (by omega) (by unfold i32; omega)) ?_
              refine A_pc (pc' := 413) rfl ?_
              refine A_aload_n 0 d_MD_walk_413 rfl rfl ?_
              refine A_iload d_MD_walk_414 rfl ?_
              refine A_iconst d_MD_walk_416 rfl ?_
              refine A_callV2 m_MD_behindColon T_ok d_MD_walk_417 l_MD_439 k_MD_behindColon (hb_s hb0 sf_170) rfl (by decide +kernel) (by decide) (Nat.le_of_ble_eq_true rfl) H (fun r h15 hq => ?_)
              clear H
              obtain ⟨z17, rfl, hb16, H⟩ := hq
              refine A_icmp_ne (tgt := 465) d_MD_walk_420 (by decide) (fun c => ?_) (fun c => ?_)
              · replace H := H.2 c
                refine A_pc (pc' := 465) rfl ?_
                refine A_free (L' := [some (av_R (some 170)), some (av_I a1), some (av_I v2), none, none, none, some (av_I x12)]) (And.intro rfl (And.intro rfl (And.intro rfl (And.intro rfl trivial)))) ?_
                exact b_MD_walk_465  hX79  hb16 H
              · replace H := H.1 c
                refine A_aload_n 0 d_MD_walk_423 rfl rfl ?_
                refine A_iload d_MD_walk_424 rfl ?_
                refine A_callV1 m_MD_isIn T_ok d_MD_walk_426 l_MD_443 k_MD_isIn (hb_s hb16 sf_170) rfl (by decide +kernel) (by decide) (Nat.le_of_ble_eq_true rfl) H (fun r h18 hq => ?_)
                clear H
                obtain ⟨z20, rfl, hb19, H⟩ := hq
                refine A_if_ne (tgt := 465) d_MD_walk_429 (by decide) (fun c => ?_) (fun c => ?_)
                · replace H := H.2 c
                  refine A_pc (pc' := 465) rfl ?_
                  refine A_free (L' := [some (av_R (some 170)), some (av_I a1), some (av_I v2), none, none, none, some (av_I x12)]) (And.intro rfl (And.intro rfl (And.intro rfl (And.intro rfl trivial)))) ?_
                  exact b_MD_walk_465  hX79  hb19 H
                · replace H := H.1 c
                  refine A_aload_n 0 d_MD_walk_432 rfl rfl ?_
                  refine A_getAv (z := some 220) T_ok d_MD_walk_433 f_MD_163 (hb_s hb19 sf_170) (hb_m hb19 rfm_79) ?_
                  refine A_aload_n 0 d_MD_walk_436 rfl rfl ?_
                  refine A_getIf T_ok d_MD_walk_437 f_MD_399 (hb_s hb19 sf_170) (fun x22 ex22 lx22 ux22 => ?_)
                  replace H := H x22 ex22 lx22 ux22
                  refine A_iconst d_MD_walk_440 rfl ?_
                  refine A_pc (pc' := 441) rfl ?_
                  have g23 := H.1
                  replace H := H.2
                  refine A_isubv (z := (x22 - 1)) d_MD_walk_441 (w32_to (by omega) (by unfold i32; omega)) ?_
                  refine A_iconst d_MD_walk_442 rfl ?_
                  have g24 := H.1
                  replace H := H.2
                  refine A_zastoreN d_MD_walk_443 (hb_s hb19 sf_220) g24.1 g24.2 (by decide) ?_
                  refine A_hn (fun h25 eh25 => ?_)
                  have hb26 := hb_i hb19 eh25
                  replace H := H h25 eh25
                  refine A_aload_n 0 d_MD_walk_444 rfl rfl ?_
                  refine A_iload d_MD_walk_445 rfl ?_
                  refine A_aload_n 0 d_MD_walk_447 rfl rfl ?_
                  refine A_pc (pc' := 448) rfl ?_
                  refine A_getAv (z := some 218) T_ok d_MD_walk_448 f_MD_157 (hb_s hb26 sf_170) (hb_m hb26 rfm_68) ?_
                  refine A_aload_n 0 d_MD_walk_451 rfl rfl ?_
                  refine A_getIv (z := x22) T_ok d_MD_walk_452 f_MD_399 (hb_s hb26 sf_170) ((mm_i eh25 (fun q => absurd q.1 (by decide))).trans ex22.symm) ?_
                  refine A_iconst d_MD_walk_455 rfl ?_
                  refine A_isubv (z := (x22 - 1)) d_MD_walk_456 (w32_to (by omega) (by unfold i32; omega)) ?_
                  refine A_ialoadf d_MD_walk_457 (hb_s hb26 sf_218) g24.1 g24.2 (fun x29 ex29 lx29 ux29 => ?_)
                  replace H := H x29 ex29 lx29 ux29
                  refine A_pc (pc' := 458) rfl ?_
                  refine A_callV2 m_MD_behindColon T_ok d_MD_walk_458 l_MD_439 k_MD_behindColon (hb_s hb26 sf_170) rfl (by decide +kernel) (by decide) (Nat.le_of_ble_eq_true rfl) H (fun r h30 hq => ?_)
                  clear H
                  obtain ⟨z32, rfl, hb31, H⟩ := hq
                  refine A_istore_n 3 (L' := [some (av_R (some 170)), some (av_I a1), some (av_I v2), some (av_I z32), none, some (av_I v5), some (av_I x12)]) d_MD_walk_461 rfl (Nat.le_of_ble_eq_true rfl) rfl ?_
                  refine A_goto (tgt := 472) d_MD_walk_462 (by decide) ?_
                  refine A_pc (pc' := 472) rfl ?_
                  refine A_free (L' := [some (av_R (some 170)), some (av_I a1), some (av_I v2), some (av_I z32), none, none, none]) (And.intro rfl (And.intro rfl (And.intro rfl (And.intro rfl trivial)))) ?_
                  exact b_MD_walk_472  hX79  hb31 H
          · replace H := H.1 c
            refine A_aload_n 0 d_MD_walk_360 rfl rfl ?_
            refine A_iload_n 3 d_MD_walk_361 rfl rfl ?_
            refine A_callV1 m_MD_opening T_ok d_MD_walk_362 l_MD_436 k_MD_opening (hb_s hb0 sf_170) rfl (by decide +kernel) (by decide) (Nat.le_of_ble_eq_true rfl) H (fun r h33 hq => ?_)
            clear H
            obtain ⟨z35, rfl, hb34, H⟩ := hq
            refine A_istore (L' := [some (av_R (some 170)), some (av_I a1), some (av_I v2), some (av_I v3), none, some (av_I v5), some (av_I z35)]) d_MD_walk_365 (Nat.le_of_ble_eq_true rfl) rfl ?_
            refine A_aload_n 0 d_MD_walk_367 rfl rfl ?_
            refine A_aload_n 0 d_MD_walk_368 rfl rfl ?_
            refine A_getAv (z := some 202) T_ok d_MD_walk_369 f_MD_109 (hb_s hb34 sf_170) (hb_m hb34 rfm_45) ?_
            refine A_iload d_MD_walk_372 rfl ?_
            refine A_pc (pc' := 374) rfl ?_
            have g38 := H.1
            replace H := H.2
            refine A_ialoadf d_MD_walk_374 (hb_s hb34 sf_202) g38.1 g38.2 (fun x37 ex37 lx37 ux37 => ?_)
            replace H := H x37 ex37 lx37 ux37
            refine A_aload_n 0 d_MD_walk_375 rfl rfl ?_
            refine A_getAv (z := some 203) T_ok d_MD_walk_376 f_MD_112 (hb_s hb34 sf_170) (hb_m hb34 rfm_46) ?_
            refine A_iload d_MD_walk_379 rfl ?_
            refine A_ialoadf d_MD_walk_381 (hb_s hb34 sf_203) g38.1 g38.2 (fun x40 ex40 lx40 ux40 => ?_)
            replace H := H x40 ex40 lx40 ux40
            refine A_callV2 m_MD_scale T_ok d_MD_walk_382 l_MD_433 k_MD_scale (hb_s hb34 sf_170) rfl (by decide +kernel) (by decide) (Nat.le_of_ble_eq_true rfl) H (fun r h41 hq => ?_)
            clear H
            obtain ⟨rfl, hb42, H⟩ := hq
            have g44 := H.1
            replace H := H.2
            refine A_iincv (z := (v3 + 1)) (L' := [some (av_R (some 170)), some (av_I a1), some (av_I v2), some (av_I (v3 + 1)), none, some (av_I v5), some (av_I z35)]) d_MD_walk_385 rfl (w32_to (by omega) (by unfold i32; omega)) rfl ?_
            refine A_goto (tgt := 491) d_MD_walk_388 (by decide) ?_
            refine A_pc (pc' := 491) rfl ?_
            refine A_free (L' := [some (av_R (some 170)), some (av_I a1), some (av_I v2), some (av_I (v3 + 1)), none, none, none]) (And.intro rfl (And.intro rfl (And.intro rfl (And.intro rfl trivial)))) ?_
            exact b_MD_walk_491  hX79  hb42 H
        · replace H := H.1 c
          refine A_aload_n 0 d_MD_walk_331 rfl rfl ?_
          refine A_aload_n 0 d_MD_walk_332 rfl rfl ?_
          refine A_getAv (z := some 203) T_ok d_MD_walk_333 f_MD_112 (hb_s hb0 sf_170) (hb_m hb0 rfm_46) ?_
          refine A_iload_n 3 d_MD_walk_336 rfl rfl ?_
          have g47 := H.1
          replace H := H.2
          refine A_ialoadf d_MD_walk_337 (hb_s hb0 sf_203) g47.1 g47.2 (fun x46 ex46 lx46 ux46 => ?_)
          replace H := H x46 ex46 lx46 ux46
          refine A_pc (pc' := 338) rfl ?_
          refine A_aload_n 0 d_MD_walk_338 rfl rfl ?_
          refine A_getAv (z := some 202) T_ok d_MD_walk_339 f_MD_109 (hb_s hb0 sf_170) (hb_m hb0 rfm_45) ?_
          refine A_iload_n 3 d_MD_walk_342 rfl rfl ?_
          refine A_ialoadf d_MD_walk_343 (hb_s hb0 sf_202) g47.1 g47.2 (fun x49 ex49 lx49 ux49 => ?_)
          replace H := H x49 ex49 lx49 ux49
          refine A_callV2 m_MD_scale T_ok d_MD_walk_344 l_MD_433 k_MD_scale (hb_s hb0 sf_170) rfl (by decide +kernel) (by decide) (Nat.le_of_ble_eq_true rfl) H (fun r h50 hq => ?_)
          clear H
          obtain ⟨rfl, hb51, H⟩ := hq
          have g53 := H.1
          replace H := H.2
          refine A_iincv (z := (v3 + 1)) (L' := [some (av_R (some 170)), some (av_I a1), some (av_I v2), some (av_I (v3 + 1)), none, some (av_I v5), none]) d_MD_walk_347 rfl (w32_to (by omega) (by unfold i32; omega)) rfl ?_
          refine A_goto (tgt := 491) d_MD_walk_350 (by decide) ?_
          refine A_pc (pc' := 491) rfl ?_
          refine A_free (L' := [some (av_R (some 170)), some (av_I a1), some (av_I v2), some (av_I (v3 + 1)), none, none, none]) (And.intro rfl (And.intro rfl (And.intro rfl (And.intro rfl trivial)))) ?_
          exact b_MD_walk_491  hX79  hb51 H
      · replace H := H.1 c
        refine A_aload_n 0 d_MD_walk_243 rfl rfl ?_
        refine A_getAv (z := some 217) T_ok d_MD_walk_244 f_MD_154 (hb_s hb0 sf_170) (hb_m hb0 rfm_67) ?_
        refine A_aload_n 0 d_MD_walk_247 rfl rfl ?_
        refine A_getIf T_ok d_MD_walk_248 f_MD_399 (hb_s hb0 sf_170) (fun x55 ex55 lx55 ux55 => ?_)
        replace H := H x55 ex55 lx55 ux55
        refine A_iload_n 3 d_MD_walk_251 rfl rfl ?_
        refine A_pc (pc' := 252) rfl ?_
        have g56 := H.1
        replace H := H.2
        refine A_iastoreN d_MD_walk_252 (hb_s hb0 sf_217) g56.1 g56.2 ?_
        refine A_hn (fun h57 eh57 => ?_)
        have hb58 := hb_i hb0 eh57
        replace H := H h57 eh57
        refine A_aload_n 0 d_MD_walk_253 rfl rfl ?_
        refine A_getAv (z := some 220) T_ok d_MD_walk_254 f_MD_163 (hb_s hb58 sf_170) (hb_m hb58 rfm_79) ?_
        refine A_aload_n 0 d_MD_walk_257 rfl rfl ?_
        refine A_getIv (z := x55) T_ok d_MD_walk_258 f_MD_399 (hb_s hb58 sf_170) ((mm_i eh57 (fun q => absurd q.1 (by decide))).trans ex55.symm) ?_
        refine A_iconst d_MD_walk_261 rfl ?_
        refine A_pc (pc' := 262) rfl ?_
        refine A_zastoreN d_MD_walk_262 (hb_s hb58 sf_220) g56.1 g56.2 (by decide) ?_
        refine A_hn (fun h61 eh61 => ?_)
        have hb62 := hb_i hb58 eh61
        replace H := H h61 eh61
        refine A_aload_n 0 d_MD_walk_263 rfl rfl ?_
        refine A_getAv (z := some 218) T_ok d_MD_walk_264 f_MD_157 (hb_s hb62 sf_170) (hb_m hb62 rfm_68) ?_
        refine A_aload_n 0 d_MD_walk_267 rfl rfl ?_
        refine A_getIv (z := x55) T_ok d_MD_walk_268 f_MD_399 (hb_s hb62 sf_170) ((mm_i eh61 (fun q => absurd q.1 (by decide))).trans ((mm_i eh57 (fun q => absurd q.1 (by decide))).trans ex55.symm)) ?_
        refine A_iconst d_MD_walk_271 rfl ?_
        refine A_pc (pc' := 272) rfl ?_
        refine A_iastoreN d_MD_walk_272 (hb_s hb62 sf_218) g56.1 g56.2 ?_
        refine A_hn (fun h65 eh65 => ?_)
        have hb66 := hb_i hb62 eh65
        replace H := H h65 eh65
        refine A_aload_n 0 d_MD_walk_273 rfl rfl ?_
        refine A_getAv (z := some 219) T_ok d_MD_walk_274 f_MD_160 (hb_s hb66 sf_170) (hb_m hb66 rfm_69) ?_
        refine A_aload_n 0 d_MD_walk_277 rfl rfl ?_
        refine A_getIv (z := x55) T_ok d_MD_walk_278 f_MD_399 (hb_s hb66 sf_170) ((mm_i eh65 (fun q => absurd q.1 (by decide))).trans ((mm_i eh61 (fun q => absurd q.1 (by decide))).trans ((mm_i eh57 (fun q => absurd q.1 (by decide))).trans ex55.symm))) ?_
        refine A_aload_n 0 d_MD_walk_281 rfl rfl ?_
        refine A_pc (pc' := 282) rfl ?_
        refine A_iload_n 3 d_MD_walk_282 rfl rfl ?_
        refine A_callV1 m_MD_colons T_ok d_MD_walk_283 l_MD_430 k_MD_colons (hb_s hb66 sf_170) rfl (by decide +kernel) (by decide) (Nat.le_of_ble_eq_true rfl) H (fun r h69 hq => ?_)
        clear H
        obtain ⟨z71, rfl, hb70, H⟩ := hq
        refine A_if_ne (tgt := 293) d_MD_walk_286 (by decide) (fun c => ?_) (fun c => ?_)
        · replace H := H.2 c
          refine A_aload_n 0 d_MD_walk_293 rfl rfl ?_
          refine A_iload_n 3 d_MD_walk_294 rfl rfl ?_
          refine A_callV1 m_MD_colons T_ok d_MD_walk_295 l_MD_430 k_MD_colons (hb_s hb70 sf_170) rfl (by decide +kernel) (by decide) (Nat.le_of_ble_eq_true rfl) H (fun r h72 hq => ?_)
          clear H
          obtain ⟨z74, rfl, hb73, H⟩ := hq
          refine A_pc (pc' := 298) rfl ?_
          refine A_free (L' := [some (av_R (some 170)), some (av_I a1), some (av_I v2), some (av_I v3), none, none, none]) (And.intro rfl (And.intro rfl (And.intro rfl (And.intro rfl trivial)))) ?_
          exact b_MD_walk_298  hX79  hb73 H
        · replace H := H.1 c
          refine A_iconst d_MD_walk_289 rfl ?_
          refine A_goto (tgt := 298) d_MD_walk_290 (by decide) ?_
          refine A_pc (pc' := 298) rfl ?_
          refine A_free (L' := [some (av_R (some 170)), some (av_I a1), some (av_I v2), some (av_I v3), none, none, none]) (And.intro rfl (And.intro rfl (And.intro rfl (And.intro rfl trivial)))) ?_
          exact b_MD_walk_298  hX79  hb70 H
    · replace H := H.1 c
      refine A_aload_n 0 d_MD_walk_176 rfl rfl ?_
      refine A_dupR d_MD_walk_177 ?_
      refine A_getIf T_ok d_MD_walk_178 f_MD_408 (hb_s hb0 sf_170) (fun x75 ex75 lx75 ux75 => ?_)
      replace H := H x75 ex75 lx75 ux75
      refine A_iconst d_MD_walk_181 rfl ?_
      have g76 := H.1
      replace H := H.2
      refine A_iaddv (z := (x75 + 1)) d_MD_walk_182 (w32_to (by omega) (by unfold i32; omega)) ?_
      refine A_pc (pc' := 183) rfl ?_
      refine A_putI T_ok d_MD_walk_183 f_MD_408 (hb_s hb0 sf_170) fin_f ?_
      refine A_hn (fun h77 eh77 => ?_)
      have hb78 := hb_i hb0 eh77
      replace H := H h77 eh77
      refine A_aload_n 0 d_MD_walk_186 rfl rfl ?_
      refine A_getIv (z := (x75 + 1)) T_ok d_MD_walk_187 f_MD_408 (hb_s hb78 sf_170) (mv_i eh77) ?_
      refine A_bipush d_MD_walk_190 rfl ?_
      refine A_icmp_gt (tgt := 231) d_MD_walk_192 (by decide) (fun c => ?_) (fun c => ?_)
      · replace H := H.1 c
        refine A_pc (pc' := 231) rfl ?_
        refine A_free (L' := [some (av_R (some 170)), some (av_I a1), some (av_I v2), some (av_I v3), none, none, none]) (And.intro rfl (And.intro rfl (And.intro rfl (And.intro rfl trivial)))) ?_
        exact b_MD_walk_231  hX79  hb78 H
      · replace H := H.2 c
        refine A_aload_n 0 d_MD_walk_195 rfl rfl ?_
        refine A_getAv (z := some 199) T_ok d_MD_walk_196 f_MD_100 (hb_s hb78 sf_170) (hb_m hb78 rfm_41) ?_
        refine A_bipush d_MD_walk_199 rfl ?_
        refine A_iload_n 2 d_MD_walk_201 rfl rfl ?_
        have g81 := H.1
        replace H := H.2
        refine A_imulv (z := (102 * v2)) d_MD_walk_202 (w32_to (by omega) (by unfold i32; omega)) ?_
        refine A_pc (pc' := 203) rfl ?_
        refine A_aload_n 0 d_MD_walk_203 rfl rfl ?_
        refine A_getIv (z := (x75 + 1)) T_ok d_MD_walk_204 f_MD_408 (hb_s hb78 sf_170) (mv_i eh77) ?_
        have g83 := H.1
        replace H := H.2
        refine A_iaddv (z := (102 * v2 + x75 + 1)) d_MD_walk_207 (w32_to (by omega) (by unfold i32; omega)) ?_
        refine A_aload_n 0 d_MD_walk_208 rfl rfl ?_
        refine A_getLf T_ok d_MD_walk_209 f_MD_414 (hb_s hb78 sf_170) (fun x84 ex84 lx84 ux84 => ?_)
        replace H := H x84 ex84 lx84 ux84
        have g85 := H.1
        replace H := H.2
        refine A_lastoreN d_MD_walk_212 (hb_s hb78 sf_199) g85.1 g85.2 ?_
        refine A_hn (fun h86 eh86 => ?_)
        have hb87 := hb_l hb78 eh86
        replace H := H h86 eh86
        refine A_pc (pc' := 213) rfl ?_
        refine A_aload_n 0 d_MD_walk_213 rfl rfl ?_
        refine A_getAv (z := some 200) T_ok d_MD_walk_214 f_MD_103 (hb_s hb87 sf_170) (hb_m hb87 rfm_42) ?_
        refine A_bipush d_MD_walk_217 rfl ?_
        refine A_iload_n 2 d_MD_walk_219 rfl rfl ?_
        refine A_imulv (z := (102 * v2)) d_MD_walk_220 (w32_to (by omega) (by unfold i32; omega)) ?_
        refine A_aload_n 0 d_MD_walk_221 rfl rfl ?_
        refine A_pc (pc' := 222) rfl ?_
        refine A_getIv (z := (x75 + 1)) T_ok d_MD_walk_222 f_MD_408 (hb_s hb87 sf_170) ((mm_lo eh86).trans (mv_i eh77)) ?_
        refine A_iaddv (z := (102 * v2 + x75 + 1)) d_MD_walk_225 (w32_to (by omega) (by unfold i32; omega)) ?_
        refine A_aload_n 0 d_MD_walk_226 rfl rfl ?_
        refine A_getLf T_ok d_MD_walk_227 f_MD_417 (hb_s hb87 sf_170) (fun x90 ex90 lx90 ux90 => ?_)
        replace H := H x90 ex90 lx90 ux90
        refine A_lastoreN d_MD_walk_230 (hb_s hb87 sf_200) g85.1 g85.2 ?_
        refine A_hn (fun h91 eh91 => ?_)
        have hb92 := hb_l hb87 eh91
        replace H := H h91 eh91
        refine A_pc (pc' := 231) rfl ?_
        refine A_free (L' := [some (av_R (some 170)), some (av_I a1), some (av_I v2), some (av_I v3), none, none, none]) (And.intro rfl (And.intro rfl (And.intro rfl (And.intro rfl trivial)))) ?_
        exact b_MD_walk_231  hX79  hb92 H
  · replace H := H.1 c
    refine A_aload_n 0 d_MD_walk_138 rfl rfl ?_
    refine A_getIf T_ok d_MD_walk_139 f_MD_405 (hb_s hb0 sf_170) (fun x93 ex93 lx93 ux93 => ?_)
    replace H := H x93 ex93 lx93 ux93
    refine A_sipush d_MD_walk_142 rfl ?_
    refine A_icmp_ge (tgt := 154) d_MD_walk_145 (by decide) (fun c => ?_) (fun c => ?_)
    · replace H := H.1 c
      refine A_pc (pc' := 154) rfl ?_
      refine A_free (L' := [some (av_R (some 170)), some (av_I a1), some (av_I v2), some (av_I v3), none, none, none]) (And.intro rfl (And.intro rfl (And.intro rfl (And.intro rfl trivial)))) ?_
      exact b_MD_walk_154  hX79  hb0 H
    · replace H := H.2 c
      refine A_aload_n 0 d_MD_walk_148 rfl rfl ?_
      refine A_iload_n 2 d_MD_walk_149 rfl rfl ?_
      refine A_iload_n 3 d_MD_walk_150 rfl rfl ?_
      refine A_callV2 m_MD_event_IIV T_ok d_MD_walk_151 l_MD_426 k_MD_event_IIV (hb_s hb0 sf_170) rfl (by decide +kernel) (by decide) (Nat.le_of_ble_eq_true rfl) H (fun r h94 hq => ?_)
      clear H
      obtain ⟨rfl, hb95, H⟩ := hq
      refine A_pc (pc' := 154) rfl ?_
      refine A_free (L' := [some (av_R (some 170)), some (av_I a1), some (av_I v2), some (av_I v3), none, none, none]) (And.intro rfl (And.intro rfl (And.intro rfl (And.intro rfl trivial)))) ?_
      exact b_MD_walk_154  hX79  hb95 H
def B_MD_walk_123 (G : cx_T) (s : Nat) (a1 : Int) (v2 : Int) (v3 : Int) (v5 : Int) (h : ah_T) (Q : Option av_T → ah_T → Prop) (X79 : Int → Int → Int → ah_T → Prop) : Prop :=
 ∀ x1 : Int, x1 = h.2.1 170 71 → -2147483648 ≤ x1 → x1 ≤ 2147483647 → ((-2147483648) ≤ (x1 + 1) ∧ (x1 + 1) ≤ 2147483647) ∧ ∀ h3 : ah_T, h3 = st_i h 170 71 (x1 + 1) → B_MD_walk_133 G s a1 (v2) (v3) (v5) h3 Q X79
theorem b_MD_walk_123 {G : cx_T} {s : Nat} {a1 : Int} {v2 : Int} {v3 : Int} {v5 : Int} {h : ah_T} {Q : Option av_T → ah_T → Prop} {X79 : Int → Int → Int → ah_T → Prop} (hX79 : ∀ (v2 : Int) (v3 : Int) (v4 : Int) (h : ah_T), hb s h → X79 v2 v3 v4 h → aw G (rm_R 4 0 0) m_MD_walk 0 0 79 [some (av_R (some 170)), some (av_I a1), some (av_I v2), some (av_I v3), some (av_I v4), none, none] [] h Q) (hb0 : hb s h) (H : B_MD_walk_123 G s a1 v2 v3 v5 h Q X79) : aw G (rm_R 4 0 0) m_MD_walk 0 0 123 [some (av_R (some 170)), some (av_I a1), some (av_I v2), some (av_I v3), none, some (av_I v5), none] [] h Q := by
  unfold B_MD_walk_123 at H
  have hS : isS s := hb0.2.1
  refine A_aload_n 0 d_MD_walk_123 rfl rfl ?_
  refine A_dupR d_MD_walk_124 ?_
  refine A_getIf T_ok d_MD_walk_125 f_MD_402 (hb_s hb0 sf_170) (fun x1 ex1 lx1 ux1 => ?_)
  replace H := H x1 ex1 lx1 ux1
  refine A_iconst d_MD_walk_128 rfl ?_
  have g2 := H.1
  replace H := H.2
  refine A_iaddv (z := (x1 + 1)) d_MD_walk_129 (w32_to (by omega) (by unfold i32; omega)) ?_
  refine A_pc (pc' := 130) rfl ?_
  refine A_putI T_ok d_MD_walk_130 f_MD_402 (hb_s hb0 sf_170) fin_f ?_
  refine A_hn (fun h3 eh3 => ?_)
  have hb4 := hb_i hb0 eh3
  replace H := H h3 eh3
  refine A_pc (pc' := 133) rfl ?_
  exact b_MD_walk_133  hX79  hb4 H
def B_MD_walk_79 (G : cx_T) (s : Nat) (a1 : Int) (v2 : Int) (v3 : Int) (v4 : Int) (h : ah_T) (Q : Option av_T → ah_T → Prop) (X79 : Int → Int → Int → ah_T → Prop) : Prop :=
 ∀ x1 : Int, x1 = h.2.1 170 43 → -2147483648 ≤ x1 → x1 ≤ 2147483647 → ((x1 ≤ v3 → B_MD_walk_530 G s a1 (v2) (v4) h Q ) ∧ (¬ x1 ≤ v3 → ((v4 = 0 → (0 ≤ v3 ∧ v3 < 2100) ∧ ∀ x3 : Int, x3 = h.2.1 201 (v3).toNat → -2147483648 ≤ x3 → x3 ≤ 2147483647 → ((x3 = 0 → B_MD_walk_123 G s a1 (v2) (v3) (x3) h Q X79) ∧ (¬ x3 = 0 → ((x3 = 1 → B_MD_walk_123 G s a1 (v2) (v3) (x3) h Q X79) ∧ (¬ x3 = 1 → ((x3 = 2 → B_MD_walk_123 G s a1 (v2) (v3) (x3) h Q X79) ∧ (¬ x3 = 2 → ((x3 = 5 → B_MD_walk_123 G s a1 (v2) (v3) (x3) h Q X79) ∧ (¬ x3 = 5 → B_MD_walk_133 G s a1 (v2) (v3) (x3) h Q X79))))))))) ∧ (¬ v4 = 0 → B_MD_walk_530 G s a1 (v2) (v4) h Q ))))
theorem b_MD_walk_79 {G : cx_T} {s : Nat} {a1 : Int} {v2 : Int} {v3 : Int} {v4 : Int} {h : ah_T} {Q : Option av_T → ah_T → Prop} {X79 : Int → Int → Int → ah_T → Prop} (hX79 : ∀ (v2 : Int) (v3 : Int) (v4 : Int) (h : ah_T), hb s h → X79 v2 v3 v4 h → aw G (rm_R 4 0 0) m_MD_walk 0 0 79 [some (av_R (some 170)), some (av_I a1), some (av_I v2), some (av_I v3), some (av_I v4), none, none] [] h Q) (hb0 : hb s h) (H : B_MD_walk_79 G s a1 v2 v3 v4 h Q X79) : aw G (rm_R 4 0 0) m_MD_walk 0 0 79 [some (av_R (some 170)), some (av_I a1), some (av_I v2), some (av_I v3), some (av_I v4), none, none] [] h Q := by
  unfold B_MD_walk_79 at H
  have hS : isS s := hb0.2.1
  refine A_iload_n 3 d_MD_walk_79 rfl rfl ?_
  refine A_aload_n 0 d_MD_walk_80 rfl rfl ?_
  refine A_getIf T_ok d_MD_walk_81 f_MD_354 (hb_s hb0 sf_170) (fun x1 ex1 lx1 ux1 => ?_)
  replace H := H x1 ex1 lx1 ux1
  refine A_icmp_ge (tgt := 530) d_MD_walk_84 (by decide) (fun c => ?_) (fun c => ?_)
  · replace H := H.1 c
    refine A_pc (pc' := 530) rfl ?_
    refine A_free (L' := [some (av_R (some 170)), some (av_I a1), some (av_I v2), none, some (av_I v4), none, none]) (And.intro rfl (And.intro rfl (And.intro rfl (And.intro rfl trivial)))) ?_
    exact b_MD_walk_530    hb0 H
  · replace H := H.2 c
    refine A_iload d_MD_walk_87 rfl ?_
    refine A_if_ne (tgt := 530) d_MD_walk_89 (by decide) (fun c => ?_) (fun c => ?_)
    · replace H := H.2 c
      refine A_pc (pc' := 530) rfl ?_
      refine A_free (L' := [some (av_R (some 170)), some (av_I a1), some (av_I v2), none, some (av_I v4), none, none]) (And.intro rfl (And.intro rfl (And.intro rfl (And.intro rfl trivial)))) ?_
      exact b_MD_walk_530    hb0 H
    · replace H := H.1 c
      refine A_aload_n 0 d_MD_walk_92 rfl rfl ?_
      refine A_getAv (z := some 201) T_ok d_MD_walk_93 f_MD_106 (hb_s hb0 sf_170) (hb_m hb0 rfm_44) ?_
      refine A_iload_n 3 d_MD_walk_96 rfl rfl ?_
      have g4 := H.1
      replace H := H.2
      refine A_ialoadf d_MD_walk_97 (hb_s hb0 sf_201) g4.1 g4.2 (fun x3 ex3 lx3 ux3 => ?_)
      replace H := H x3 ex3 lx3 ux3
      refine A_istore (L' := [some (av_R (some 170)), some (av_I a1), some (av_I v2), some (av_I v3), some (av_I v4), some (av_I x3), none]) d_MD_walk_98 (Nat.le_of_ble_eq_true rfl) rfl ?_
      refine A_pc (pc' := 100) rfl ?_
      refine A_iload d_MD_walk_100 rfl ?_
      refine A_if_eq (tgt := 123) d_MD_walk_102 (by decide) (fun c => ?_) (fun c => ?_)
      · replace H := H.1 c
        refine A_pc (pc' := 123) rfl ?_
        refine A_free (L' := [some (av_R (some 170)), some (av_I a1), some (av_I v2), some (av_I v3), none, some (av_I x3), none]) (And.intro rfl (And.intro rfl (And.intro rfl (And.intro rfl (And.intro rfl trivial))))) ?_
        exact b_MD_walk_123  hX79  hb0 H
      · replace H := H.2 c
        refine A_iload d_MD_walk_105 rfl ?_
        refine A_iconst d_MD_walk_107 rfl ?_
        refine A_icmp_eq (tgt := 123) d_MD_walk_108 (by decide) (fun c => ?_) (fun c => ?_)
        · replace H := H.1 c
          refine A_pc (pc' := 123) rfl ?_
          refine A_free (L' := [some (av_R (some 170)), some (av_I a1), some (av_I v2), some (av_I v3), none, some (av_I x3), none]) (And.intro rfl (And.intro rfl (And.intro rfl (And.intro rfl (And.intro rfl trivial))))) ?_
          exact b_MD_walk_123  hX79  hb0 H
        · replace H := H.2 c
          refine A_iload d_MD_walk_111 rfl ?_
          refine A_iconst d_MD_walk_113 rfl ?_
          refine A_icmp_eq (tgt := 123) d_MD_walk_114 (by decide) (fun c => ?_) (fun c => ?_)
          · replace H := H.1 c
            refine A_pc (pc' := 123) rfl ?_
            refine A_free (L' := [some (av_R (some 170)), some (av_I a1), some (av_I v2), some (av_I v3), none, some (av_I x3), none]) (And.intro rfl (And.intro rfl (And.intro rfl (And.intro rfl (And.intro rfl trivial))))) ?_
            exact b_MD_walk_123  hX79  hb0 H
          · replace H := H.2 c
            refine A_iload d_MD_walk_117 rfl ?_
            refine A_iconst d_MD_walk_119 rfl ?_
            refine A_icmp_ne (tgt := 133) d_MD_walk_120 (by decide) (fun c => ?_) (fun c => ?_)
            · replace H := H.2 c
              refine A_pc (pc' := 133) rfl ?_
              refine A_free (L' := [some (av_R (some 170)), some (av_I a1), some (av_I v2), some (av_I v3), none, some (av_I x3), none]) (And.intro rfl (And.intro rfl (And.intro rfl (And.intro rfl (And.intro rfl trivial))))) ?_
              exact b_MD_walk_133  hX79  hb0 H
            · replace H := H.1 c
              refine A_pc (pc' := 123) rfl ?_
              refine A_free (L' := [some (av_R (some 170)), some (av_I a1), some (av_I v2), some (av_I v3), none, some (av_I x3), none]) (And.intro rfl (And.intro rfl (And.intro rfl (And.intro rfl (And.intro rfl trivial))))) ?_
              exact b_MD_walk_123  hX79  hb0 H
theorem lp_MD_walk_79 {G : cx_T} {s : Nat} {a1 : Int} {Q : Option av_T → ah_T → Prop} (I : Int → Int → Int → ah_T → Prop) (μ : Int → Int → Int → ah_T → Nat) (hI : ∀ (v2 : Int) (v3 : Int) (v4 : Int) (h : ah_T), hb s h → I v2 v3 v4 h → B_MD_walk_79 G s a1 v2 v3 v4 h Q (fun v2' v3' v4' h' => I v2' v3' v4' h' ∧ μ v2' v3' v4' h' < μ v2 v3 v4 h)) : ∀ (v2 : Int) (v3 : Int) (v4 : Int) (h : ah_T), hb s h → I v2 v3 v4 h → aw G (rm_R 4 0 0) m_MD_walk 0 0 79 [some (av_R (some 170)), some (av_I a1), some (av_I v2), some (av_I v3), some (av_I v4), none, none] [] h Q := by
  have key : ∀ (n : Nat) (v2 : Int) (v3 : Int) (v4 : Int) (h : ah_T), hb s h → I v2 v3 v4 h → μ v2 v3 v4 h < n → aw G (rm_R 4 0 0) m_MD_walk 0 0 79 [some (av_R (some 170)), some (av_I a1), some (av_I v2), some (av_I v3), some (av_I v4), none, none] [] h Q := by
    intro n
    induction n with
    | zero => intro v2 v3 v4 h  hb0 hi hm; omega
    | succ n ih => intro v2 v3 v4 h  hb0 hi hm; exact b_MD_walk_79  (fun v2' v3' v4' h'  hb' hx => ih v2' v3' v4' h'  hb' hx.1 (by have := hx.2; omega))  hb0 (hI v2 v3 v4 h  hb0 hi)
  exact fun v2 v3 v4 h  hb0 hi => key _ v2 v3 v4 h  hb0 hi (Nat.lt_succ_self _)
def B_MD_walk_0 (G : cx_T) (s : Nat) (a1 : Int) (h : ah_T) (Q : Option av_T → ah_T → Prop) (X79 : Int → Int → Int → ah_T → Prop) : Prop :=
 ∀ x2 : Int, x2 = h.2.1 172 1 → -2147483648 ≤ x2 → x2 ≤ 2147483647 → ((-2147483648) ≤ (x2 + 4) ∧ (x2 + 4) ≤ 2147483647) ∧ ∀ h4 : ah_T, h4 = st_i h 170 70 0 → ∀ h6 : ah_T, h6 = st_i h4 170 71 0 → ∀ h8 : ah_T, h8 = st_i h6 170 72 0 → ∀ h10 : ah_T, h10 = st_i h8 170 73 0 → ∀ h12 : ah_T, h12 = st_i h10 170 74 0 → ∀ h14 : ah_T, h14 = st_l h12 170 75 0 → ∀ h16 : ah_T, h16 = st_l h14 170 76 1 → ∀ h18 : ah_T, h18 = st_l h16 170 77 1 → ∀ h20 : ah_T, h20 = st_l h18 170 78 1 → ((-2147483648) ≤ (102 * x2 + 408) ∧ (102 * x2 + 408) ≤ 2147483647) ∧ (0 ≤ (102 * x2 + 408) ∧ (102 * x2 + 408) < 816) ∧ ∀ h25 : ah_T, h25 = st_l h20 199 ((102 * x2 + 408)).toNat 0 → ∀ h28 : ah_T, h28 = st_l h25 200 ((102 * x2 + 408)).toNat 1 → X79 ((x2 + 4)) (0) (0) h28
theorem b_MD_walk_0 {G : cx_T} {s : Nat} {a1 : Int} {h : ah_T} {Q : Option av_T → ah_T → Prop} {X79 : Int → Int → Int → ah_T → Prop} (hX79 : ∀ (v2 : Int) (v3 : Int) (v4 : Int) (h : ah_T), hb s h → X79 v2 v3 v4 h → aw G (rm_R 4 0 0) m_MD_walk 0 0 79 [some (av_R (some 170)), some (av_I a1), some (av_I v2), some (av_I v3), some (av_I v4), none, none] [] h Q) (hb0 : hb s h) (H : B_MD_walk_0 G s a1 h Q X79) : aw G (rm_R 4 0 0) m_MD_walk 0 0 0 [some (av_R (some 170)), some (av_I a1), none, none, none, none, none] [] h Q := by
  unfold B_MD_walk_0 at H
  have hS : isS s := hb0.2.1
  refine A_iconst d_MD_walk_0 rfl ?_
  refine A_aload_n 0 d_MD_walk_1 rfl rfl ?_
  refine A_getAv (z := some 172) T_ok d_MD_walk_2 f_MD_17 (hb_s hb0 sf_170) (hb_m hb0 rfm_14) ?_
  refine A_iconst d_MD_walk_5 rfl ?_
  refine A_ialoadf d_MD_walk_6 (hb_s hb0 sf_172) (by decide) (by decide) (fun x2 ex2 lx2 ux2 => ?_)
  replace H := H x2 ex2 lx2 ux2
  refine A_pc (pc' := 7) rfl ?_
  have g3 := H.1
  replace H := H.2
  refine A_iaddv (z := (x2 + 4)) d_MD_walk_7 (w32_to (by omega) (by unfold i32; omega)) ?_
  refine A_istore_n 2 (L' := [some (av_R (some 170)), some (av_I a1), some (av_I (x2 + 4)), none, none, none, none]) d_MD_walk_8 rfl (Nat.le_of_ble_eq_true rfl) rfl ?_
  refine A_aload_n 0 d_MD_walk_9 rfl rfl ?_
  refine A_iconst d_MD_walk_10 rfl ?_
  refine A_putI T_ok d_MD_walk_11 f_MD_399 (hb_s hb0 sf_170) fin_f ?_
  refine A_hn (fun h4 eh4 => ?_)
  have hb5 := hb_i hb0 eh4
  replace H := H h4 eh4
  refine A_aload_n 0 d_MD_walk_14 rfl rfl ?_
  refine A_pc (pc' := 15) rfl ?_
  refine A_iconst d_MD_walk_15 rfl ?_
  refine A_putI T_ok d_MD_walk_16 f_MD_402 (hb_s hb5 sf_170) fin_f ?_
  refine A_hn (fun h6 eh6 => ?_)
  have hb7 := hb_i hb5 eh6
  replace H := H h6 eh6
  refine A_aload_n 0 d_MD_walk_19 rfl rfl ?_
  refine A_iconst d_MD_walk_20 rfl ?_
  refine A_putI T_ok d_MD_walk_21 f_MD_405 (hb_s hb7 sf_170) fin_f ?_
  refine A_hn (fun h8 eh8 => ?_)
  have hb9 := hb_i hb7 eh8
  replace H := H h8 eh8
  refine A_aload_n 0 d_MD_walk_24 rfl rfl ?_
  refine A_pc (pc' := 25) rfl ?_
  refine A_iconst d_MD_walk_25 rfl ?_
  refine A_putI T_ok d_MD_walk_26 f_MD_408 (hb_s hb9 sf_170) fin_f ?_
  refine A_hn (fun h10 eh10 => ?_)
  have hb11 := hb_i hb9 eh10
  replace H := H h10 eh10
  refine A_aload_n 0 d_MD_walk_29 rfl rfl ?_
  refine A_iconst d_MD_walk_30 rfl ?_
  refine A_putZ T_ok d_MD_walk_31 f_MD_411 (hb_s hb11 sf_170) fin_f (by decide) ?_
  refine A_hn (fun h12 eh12 => ?_)
  have hb13 := hb_i hb11 eh12
  replace H := H h12 eh12
  refine A_aload_n 0 d_MD_walk_34 rfl rfl ?_
  refine A_pc (pc' := 35) rfl ?_
  refine A_lconst_0 d_MD_walk_35 ?_
  refine A_putL T_ok d_MD_walk_36 f_MD_414 (hb_s hb13 sf_170) fin_f ?_
  refine A_hn (fun h14 eh14 => ?_)
  have hb15 := hb_l hb13 eh14
  replace H := H h14 eh14
  refine A_aload_n 0 d_MD_walk_39 rfl rfl ?_
  refine A_lconst_1 d_MD_walk_40 ?_
  refine A_putL T_ok d_MD_walk_41 f_MD_417 (hb_s hb15 sf_170) fin_f ?_
  refine A_hn (fun h16 eh16 => ?_)
  have hb17 := hb_l hb15 eh16
  replace H := H h16 eh16
  refine A_aload_n 0 d_MD_walk_44 rfl rfl ?_
  refine A_pc (pc' := 45) rfl ?_
  refine A_lconst_1 d_MD_walk_45 ?_
  refine A_putL T_ok d_MD_walk_46 f_MD_420 (hb_s hb17 sf_170) fin_f ?_
  refine A_hn (fun h18 eh18 => ?_)
  have hb19 := hb_l hb17 eh18
  replace H := H h18 eh18
  refine A_aload_n 0 d_MD_walk_49 rfl rfl ?_
  refine A_lconst_1 d_MD_walk_50 ?_
  refine A_putL T_ok d_MD_walk_51 f_MD_423 (hb_s hb19 sf_170) fin_f ?_
  refine A_hn (fun h20 eh20 => ?_)
  have hb21 := hb_l hb19 eh20
  replace H := H h20 eh20
  refine A_aload_n 0 d_MD_walk_54 rfl rfl ?_
  refine A_pc (pc' := 55) rfl ?_
  refine A_getAv (z := some 199) T_ok d_MD_walk_55 f_MD_100 (hb_s hb21 sf_170) (hb_m hb21 rfm_41) ?_
  refine A_bipush d_MD_walk_58 rfl ?_
  refine A_iload_n 2 d_MD_walk_60 rfl rfl ?_
  have g23 := H.1
  replace H := H.2
  refine A_imulv (z := (102 * x2 + 408)) d_MD_walk_61 (w32_to (by omega) (by unfold i32; omega)) ?_
  refine A_lconst_0 d_MD_walk_62 ?_
  have g24 := H.1
  replace H := H.2
  refine A_lastoreN d_MD_walk_63 (hb_s hb21 sf_199) g24.1 g24.2 ?_
  refine A_hn (fun h25 eh25 => ?_)
  have hb26 := hb_l hb21 eh25
  replace H := H h25 eh25
  refine A_pc (pc' := 64) rfl ?_
  refine A_aload_n 0 d_MD_walk_64 rfl rfl ?_
  refine A_getAv (z := some 200) T_ok d_MD_walk_65 f_MD_103 (hb_s hb26 sf_170) (hb_m hb26 rfm_42) ?_
  refine A_bipush d_MD_walk_68 rfl ?_
  refine A_iload_n 2 d_MD_walk_70 rfl rfl ?_
  refine A_imulv (z := (102 * x2 + 408)) d_MD_walk_71 (w32_to (by omega) (by unfold i32; omega)) ?_
  refine A_lconst_1 d_MD_walk_72 ?_
  refine A_pc (pc' := 73) rfl ?_
  refine A_lastoreN d_MD_walk_73 (hb_s hb26 sf_200) g24.1 g24.2 ?_
  refine A_hn (fun h28 eh28 => ?_)
  have hb29 := hb_l hb26 eh28
  replace H := H h28 eh28
  refine A_iconst d_MD_walk_74 rfl ?_
  refine A_istore_n 3 (L' := [some (av_R (some 170)), some (av_I a1), some (av_I (x2 + 4)), some (av_I 0), none, none, none]) d_MD_walk_75 rfl (Nat.le_of_ble_eq_true rfl) rfl ?_
  refine A_iconst d_MD_walk_76 rfl ?_
  refine A_istore (L' := [some (av_R (some 170)), some (av_I a1), some (av_I (x2 + 4)), some (av_I 0), some (av_I 0), none, none]) d_MD_walk_77 (Nat.le_of_ble_eq_true rfl) rfl ?_
  refine A_pc (pc' := 79) rfl ?_
  exact hX79 ((x2 + 4)) (0) (0) h28  hb29 H
theorem c_MD_walk {G : cx_T} {s : Nat} {a1 : Int} {h : ah_T} {Q : Option av_T → ah_T → Prop} {X79 : Int → Int → Int → ah_T → Prop} (hX79 : ∀ (v2 : Int) (v3 : Int) (v4 : Int) (h : ah_T), hb s h → X79 v2 v3 v4 h → aw G (rm_R 4 0 0) m_MD_walk 0 0 79 [some (av_R (some 170)), some (av_I a1), some (av_I v2), some (av_I v3), some (av_I v4), none, none] [] h Q) (hb0 : hb s h) (H : i32 a1 → B_MD_walk_0 G s a1 h Q X79) : con G 4 0 0 m_MD_walk [av_R (some 170), av_I a1] h Q := by
  have hS : isS s := hb0.2.1
  refine con_of (L := [some (av_R (some 170)), some (av_I a1), none, none, none, none, none]) (by decide +kernel) (Nat.le_of_ble_eq_true rfl) rfl ?_
  refine A_locI 1 rfl (fun ra1 => ?_)
  exact b_MD_walk_0  hX79 hb0 (H ra1)
def B_MD_keepEvent_62 (G : cx_T) (s : Nat) (a1 : Int) (a2 : Int) (v3 : Int) (h : ah_T) (Q : Option av_T → ah_T → Prop) (X62 : Int → ah_T → Prop) : Prop :=
 ((4 ≤ v3 → (0 ≤ a2 ∧ a2 < 2400) ∧ ∀ x3 : Int, x3 = h.2.1 194 (a2).toNat → -2147483648 ≤ x3 → x3 ≤ 2147483647 → (0 ≤ a1 ∧ a1 < 2400) ∧ ∀ h6 : ah_T, h6 = st_i h 194 (a1).toNat x3 → ∀ x10 : Int, x10 = h6.2.1 195 (a2).toNat → (x10 = 0 ∨ x10 = 1) → (x10 = 0 ∨ x10 = 1) ∧ ∀ h11 : ah_T, h11 = st_i h6 195 (a1).toNat x10 → ∀ x15 : Int, x15 = h11.2.1 196 (a2).toNat → -2147483648 ≤ x15 → x15 ≤ 2147483647 → ∀ h16 : ah_T, h16 = st_i h11 196 (a1).toNat x15 → ∀ x20 : Int, x20 = h16.2.1 197 (a2).toNat → -2147483648 ≤ x20 → x20 ≤ 2147483647 → ∀ h21 : ah_T, h21 = st_i h16 197 (a1).toNat x20 → ∀ x25 : Int, x25 = h21.2.1 198 (a2).toNat → -2147483648 ≤ x25 → x25 ≤ 2147483647 → ∀ h26 : ah_T, h26 = st_i h21 198 (a1).toNat x25 → Q none h26) ∧ (¬ 4 ≤ v3 → ((-2147483648) ≤ (4 * a1) ∧ (4 * a1) ≤ 2147483647) ∧ ((-2147483648) ≤ (4 * a1 + v3) ∧ (4 * a1 + v3) ≤ 2147483647) ∧ ((-2147483648) ≤ (4 * a2) ∧ (4 * a2) ≤ 2147483647) ∧ ((-2147483648) ≤ (4 * a2 + v3) ∧ (4 * a2 + v3) ≤ 2147483647) ∧ (0 ≤ (4 * a2 + v3) ∧ (4 * a2 + v3) < 9600) ∧ ∀ x34 : Int, x34 = h.2.1 192 ((4 * a2 + v3)).toNat → -2147483648 ≤ x34 → x34 ≤ 2147483647 → (0 ≤ (4 * a1 + v3) ∧ (4 * a1 + v3) < 9600) ∧ ∀ h37 : ah_T, h37 = st_i h 192 ((4 * a1 + v3)).toNat x34 → ∀ x41 : Int, x41 = h37.2.1 193 ((4 * a2 + v3)).toNat → -2147483648 ≤ x41 → x41 ≤ 2147483647 → ∀ h42 : ah_T, h42 = st_i h37 193 ((4 * a1 + v3)).toNat x41 → ((-2147483648) ≤ (v3 + 1) ∧ (v3 + 1) ≤ 2147483647) ∧ X62 ((v3 + 1)) h42))
theorem b_MD_keepEvent_62 {G : cx_T} {s : Nat} {a1 : Int} {a2 : Int} {v3 : Int} {h : ah_T} {Q : Option av_T → ah_T → Prop} {X62 : Int → ah_T → Prop} (hX62 : ∀ (v3 : Int) (h : ah_T), hb s h → X62 v3 h → aw G (rm_R 0 0 0) m_MD_keepEvent 0 0 62 [some (av_R (some 170)), some (av_I a1), some (av_I a2), some (av_I v3)] [] h Q) (hb0 : hb s h) (H : B_MD_keepEvent_62 G s a1 a2 v3 h Q X62) : aw G (rm_R 0 0 0) m_MD_keepEvent 0 0 62 [some (av_R (some 170)), some (av_I a1), some (av_I a2), some (av_I v3)] [] h Q := by
  unfold B_MD_keepEvent_62 at H
  have hS : isS s := hb0.2.1
  refine A_iload_n 3 d_MD_keepEvent_62 rfl rfl ?_
  refine A_iconst d_MD_keepEvent_63 rfl ?_
  refine A_icmp_ge (tgt := 113) d_MD_keepEvent_64 (by decide) (fun c => ?_) (fun c => ?_)
  · replace H := H.1 c
    refine A_aload_n 0 d_MD_keepEvent_113 rfl rfl ?_
    refine A_getAv (z := some 194) T_ok d_MD_keepEvent_114 f_MD_84 (hb_s hb0 sf_170) (hb_m hb0 rfm_36) ?_
    refine A_iload_n 1 d_MD_keepEvent_117 rfl rfl ?_
    refine A_aload_n 0 d_MD_keepEvent_118 rfl rfl ?_
    refine A_getAv (z := some 194) T_ok d_MD_keepEvent_119 f_MD_84 (hb_s hb0 sf_170) (hb_m hb0 rfm_36) ?_
    refine A_pc (pc' := 122) rfl ?_
    refine A_iload_n 2 d_MD_keepEvent_122 rfl rfl ?_
    have g4 := H.1
    replace H := H.2
    refine A_ialoadf d_MD_keepEvent_123 (hb_s hb0 sf_194) g4.1 g4.2 (fun x3 ex3 lx3 ux3 => ?_)
    replace H := H x3 ex3 lx3 ux3
    have g5 := H.1
    replace H := H.2
    refine A_iastoreN d_MD_keepEvent_124 (hb_s hb0 sf_194) g5.1 g5.2 ?_
    refine A_hn (fun h6 eh6 => ?_)
    have hb7 := hb_i hb0 eh6
    replace H := H h6 eh6
    refine A_aload_n 0 d_MD_keepEvent_125 rfl rfl ?_
    refine A_getAv (z := some 195) T_ok d_MD_keepEvent_126 f_MD_87 (hb_s hb7 sf_170) (hb_m hb7 rfm_37) ?_
    refine A_iload_n 1 d_MD_keepEvent_129 rfl rfl ?_
    refine A_pc (pc' := 130) rfl ?_
    refine A_aload_n 0 d_MD_keepEvent_130 rfl rfl ?_
    refine A_getAv (z := some 195) T_ok d_MD_keepEvent_131 f_MD_87 (hb_s hb7 sf_170) (hb_m hb7 rfm_37) ?_
    refine A_iload_n 2 d_MD_keepEvent_134 rfl rfl ?_
    refine A_zaloadn d_MD_keepEvent_135 (hb_s hb7 sf_195) g4.1 g4.2 (fun x10 ex10 bx10 => ?_)
    replace H := H x10 ex10 bx10
    have H1 := H.1
    replace H := H.2
    refine A_zastoreN d_MD_keepEvent_136 (hb_s hb7 sf_195) g5.1 g5.2 H1 ?_
    refine A_hn (fun h11 eh11 => ?_)
    have hb12 := hb_i hb7 eh11
    replace H := H h11 eh11
    refine A_aload_n 0 d_MD_keepEvent_137 rfl rfl ?_
    refine A_pc (pc' := 138) rfl ?_
    refine A_getAv (z := some 196) T_ok d_MD_keepEvent_138 f_MD_91 (hb_s hb12 sf_170) (hb_m hb12 rfm_38) ?_
    refine A_iload_n 1 d_MD_keepEvent_141 rfl rfl ?_
    refine A_aload_n 0 d_MD_keepEvent_142 rfl rfl ?_
    refine A_getAv (z := some 196) T_ok d_MD_keepEvent_143 f_MD_91 (hb_s hb12 sf_170) (hb_m hb12 rfm_38) ?_
    refine A_iload_n 2 d_MD_keepEvent_146 rfl rfl ?_
    refine A_ialoadf d_MD_keepEvent_147 (hb_s hb12 sf_196) g4.1 g4.2 (fun x15 ex15 lx15 ux15 => ?_)
    replace H := H x15 ex15 lx15 ux15
    refine A_pc (pc' := 148) rfl ?_
    refine A_iastoreN d_MD_keepEvent_148 (hb_s hb12 sf_196) g5.1 g5.2 ?_
    refine A_hn (fun h16 eh16 => ?_)
    have hb17 := hb_i hb12 eh16
    replace H := H h16 eh16
    refine A_aload_n 0 d_MD_keepEvent_149 rfl rfl ?_
    refine A_getAv (z := some 197) T_ok d_MD_keepEvent_150 f_MD_94 (hb_s hb17 sf_170) (hb_m hb17 rfm_39) ?_
    refine A_iload_n 1 d_MD_keepEvent_153 rfl rfl ?_
    refine A_aload_n 0 d_MD_keepEvent_154 rfl rfl ?_
    refine A_getAv (z := some 197) T_ok d_MD_keepEvent_155 f_MD_94 (hb_s hb17 sf_170) (hb_m hb17 rfm_39) ?_
    refine A_pc (pc' := 158) rfl ?_
    refine A_iload_n 2 d_MD_keepEvent_158 rfl rfl ?_
    refine A_ialoadf d_MD_keepEvent_159 (hb_s hb17 sf_197) g4.1 g4.2 (fun x20 ex20 lx20 ux20 => ?_)
    replace H := H x20 ex20 lx20 ux20
    refine A_iastoreN d_MD_keepEvent_160 (hb_s hb17 sf_197) g5.1 g5.2 ?_
    refine A_hn (fun h21 eh21 => ?_)
    have hb22 := hb_i hb17 eh21
    replace H := H h21 eh21
    refine A_aload_n 0 d_MD_keepEvent_161 rfl rfl ?_
    refine A_getAv (z := some 198) T_ok d_MD_keepEvent_162 f_MD_97 (hb_s hb22 sf_170) (hb_m hb22 rfm_40) ?_
    refine A_iload_n 1 d_MD_keepEvent_165 rfl rfl ?_
    refine A_pc (pc' := 166) rfl ?_
    refine A_aload_n 0 d_MD_keepEvent_166 rfl rfl ?_
    refine A_getAv (z := some 198) T_ok d_MD_keepEvent_167 f_MD_97 (hb_s hb22 sf_170) (hb_m hb22 rfm_40) ?_
    refine A_iload_n 2 d_MD_keepEvent_170 rfl rfl ?_
    refine A_ialoadf d_MD_keepEvent_171 (hb_s hb22 sf_198) g4.1 g4.2 (fun x25 ex25 lx25 ux25 => ?_)
    replace H := H x25 ex25 lx25 ux25
    refine A_iastoreN d_MD_keepEvent_172 (hb_s hb22 sf_198) g5.1 g5.2 ?_
    refine A_hn (fun h26 eh26 => ?_)
    have hb27 := hb_i hb22 eh26
    replace H := H h26 eh26
    exact A_vret d_MD_keepEvent_173 (by decide) rfl H
  · replace H := H.2 c
    refine A_aload_n 0 d_MD_keepEvent_67 rfl rfl ?_
    refine A_getAv (z := some 192) T_ok d_MD_keepEvent_68 f_MD_78 (hb_s hb0 sf_170) (hb_m hb0 rfm_34) ?_
    refine A_iconst d_MD_keepEvent_71 rfl ?_
    refine A_iload_n 1 d_MD_keepEvent_72 rfl rfl ?_
    have g29 := H.1
    replace H := H.2
    refine A_imulv (z := (4 * a1)) d_MD_keepEvent_73 (w32_to (by omega) (by unfold i32; omega)) ?_
    refine A_pc (pc' := 74) rfl ?_
    refine A_iload_n 3 d_MD_keepEvent_74 rfl rfl ?_
    have g30 := H.1
    replace H := H.2
    refine A_iaddv (z := (4 * a1 + v3)) d_MD_keepEvent_75 (w32_to (by omega) (by unfold i32; omega)) ?_
    refine A_aload_n 0 d_MD_keepEvent_76 rfl rfl ?_
    refine A_getAv (z := some 192) T_ok d_MD_keepEvent_77 f_MD_78 (hb_s hb0 sf_170) (hb_m hb0 rfm_34) ?_
    refine A_iconst d_MD_keepEvent_80 rfl ?_
    refine A_iload_n 2 d_MD_keepEvent_81 rfl rfl ?_
    refine A_pc (pc' := 82) rfl ?_
    have g32 := H.1
    replace H := H.2
    refine A_imulv (z := (4 * a2)) d_MD_keepEvent_82 (w32_to (by omega) (by unfold i32; omega)) ?_
    refine A_iload_n 3 d_MD_keepEvent_83 rfl rfl ?_
    have g33 := H.1
    replace H := H.2
    refine A_iaddv (z := (4 * a2 + v3)) d_MD_keepEvent_84 (w32_to (by omega) (by unfold i32; omega)) ?_
    have g35 := H.1
    replace H := H.2
    refine A_ialoadf d_MD_keepEvent_85 (hb_s hb0 sf_192) g35.1 g35.2 (fun x34 ex34 lx34 ux34 => ?_)
    replace H := H x34 ex34 lx34 ux34
    have g36 := H.1
    replace H := H.2
    refine A_iastoreN d_MD_keepEvent_86 (hb_s hb0 sf_192) g36.1 g36.2 ?_
    refine A_hn (fun h37 eh37 => ?_)
    have hb38 := hb_i hb0 eh37
    replace H := H h37 eh37
    refine A_aload_n 0 d_MD_keepEvent_87 rfl rfl ?_
    refine A_pc (pc' := 88) rfl ?_
    refine A_getAv (z := some 193) T_ok d_MD_keepEvent_88 f_MD_81 (hb_s hb38 sf_170) (hb_m hb38 rfm_35) ?_
    refine A_iconst d_MD_keepEvent_91 rfl ?_
    refine A_iload_n 1 d_MD_keepEvent_92 rfl rfl ?_
    refine A_imulv (z := (4 * a1)) d_MD_keepEvent_93 (w32_to (by omega) (by unfold i32; omega)) ?_
    refine A_iload_n 3 d_MD_keepEvent_94 rfl rfl ?_
    refine A_iaddv (z := (4 * a1 + v3)) d_MD_keepEvent_95 (w32_to (by omega) (by unfold i32; omega)) ?_
    refine A_pc (pc' := 96) rfl ?_
    refine A_aload_n 0 d_MD_keepEvent_96 rfl rfl ?_
    refine A_getAv (z := some 193) T_ok d_MD_keepEvent_97 f_MD_81 (hb_s hb38 sf_170) (hb_m hb38 rfm_35) ?_
    refine A_iconst d_MD_keepEvent_100 rfl ?_
    refine A_iload_n 2 d_MD_keepEvent_101 rfl rfl ?_
    refine A_imulv (z := (4 * a2)) d_MD_keepEvent_102 (w32_to (by omega) (by unfold i32; omega)) ?_
    refine A_iload_n 3 d_MD_keepEvent_103 rfl rfl ?_
    refine A_pc (pc' := 104) rfl ?_
    refine A_iaddv (z := (4 * a2 + v3)) d_MD_keepEvent_104 (w32_to (by omega) (by unfold i32; omega)) ?_
    refine A_ialoadf d_MD_keepEvent_105 (hb_s hb38 sf_193) g35.1 g35.2 (fun x41 ex41 lx41 ux41 => ?_)
    replace H := H x41 ex41 lx41 ux41
    refine A_iastoreN d_MD_keepEvent_106 (hb_s hb38 sf_193) g36.1 g36.2 ?_
    refine A_hn (fun h42 eh42 => ?_)
    have hb43 := hb_i hb38 eh42
    replace H := H h42 eh42
    have g44 := H.1
    replace H := H.2
    refine A_iincv (z := (v3 + 1)) (L' := [some (av_R (some 170)), some (av_I a1), some (av_I a2), some (av_I (v3 + 1))]) d_MD_keepEvent_107 rfl (w32_to (by omega) (by unfold i32; omega)) rfl ?_
    refine A_goto (tgt := 62) d_MD_keepEvent_110 (by decide) ?_
    refine A_pc (pc' := 62) rfl ?_
    exact hX62 ((v3 + 1)) h42  hb43 H
theorem lp_MD_keepEvent_62 {G : cx_T} {s : Nat} {a1 : Int} {a2 : Int} {Q : Option av_T → ah_T → Prop} (I : Int → ah_T → Prop) (μ : Int → ah_T → Nat) (hI : ∀ (v3 : Int) (h : ah_T), hb s h → I v3 h → B_MD_keepEvent_62 G s a1 a2 v3 h Q (fun v3' h' => I v3' h' ∧ μ v3' h' < μ v3 h)) : ∀ (v3 : Int) (h : ah_T), hb s h → I v3 h → aw G (rm_R 0 0 0) m_MD_keepEvent 0 0 62 [some (av_R (some 170)), some (av_I a1), some (av_I a2), some (av_I v3)] [] h Q := by
  have key : ∀ (n : Nat) (v3 : Int) (h : ah_T), hb s h → I v3 h → μ v3 h < n → aw G (rm_R 0 0 0) m_MD_keepEvent 0 0 62 [some (av_R (some 170)), some (av_I a1), some (av_I a2), some (av_I v3)] [] h Q := by
    intro n
    induction n with
    | zero => intro v3 h  hb0 hi hm; omega
    | succ n ih => intro v3 h  hb0 hi hm; exact b_MD_keepEvent_62  (fun v3' h'  hb' hx => ih v3' h'  hb' hx.1 (by have := hx.2; omega))  hb0 (hI v3 h  hb0 hi)
  exact fun v3 h  hb0 hi => key _ v3 h  hb0 hi (Nat.lt_succ_self _)
def B_MD_keepEvent_0 (G : cx_T) (s : Nat) (a1 : Int) (a2 : Int) (h : ah_T) (Q : Option av_T → ah_T → Prop) (X62 : Int → ah_T → Prop) : Prop :=
 (0 ≤ a2 ∧ a2 < 2400) ∧ ∀ x3 : Int, x3 = h.2.2.1 187 (a2).toNat → -9223372036854775808 ≤ x3 → x3 ≤ 9223372036854775807 → (0 ≤ a1 ∧ a1 < 2400) ∧ ∀ h6 : ah_T, h6 = st_l h 187 (a1).toNat x3 → ∀ x10 : Int, x10 = h6.2.2.1 188 (a2).toNat → -9223372036854775808 ≤ x10 → x10 ≤ 9223372036854775807 → ∀ h11 : ah_T, h11 = st_l h6 188 (a1).toNat x10 → ∀ x15 : Int, x15 = h11.2.2.1 189 (a2).toNat → -9223372036854775808 ≤ x15 → x15 ≤ 9223372036854775807 → ∀ h16 : ah_T, h16 = st_l h11 189 (a1).toNat x15 → ∀ x20 : Int, x20 = h16.2.2.1 190 (a2).toNat → -9223372036854775808 ≤ x20 → x20 ≤ 9223372036854775807 → ∀ h21 : ah_T, h21 = st_l h16 190 (a1).toNat x20 → ∀ x25 : Int, x25 = h21.2.1 191 (a2).toNat → -2147483648 ≤ x25 → x25 ≤ 2147483647 → ∀ h26 : ah_T, h26 = st_i h21 191 (a1).toNat x25 → X62 (0) h26
theorem b_MD_keepEvent_0 {G : cx_T} {s : Nat} {a1 : Int} {a2 : Int} {h : ah_T} {Q : Option av_T → ah_T → Prop} {X62 : Int → ah_T → Prop} (hX62 : ∀ (v3 : Int) (h : ah_T), hb s h → X62 v3 h → aw G (rm_R 0 0 0) m_MD_keepEvent 0 0 62 [some (av_R (some 170)), some (av_I a1), some (av_I a2), some (av_I v3)] [] h Q) (hb0 : hb s h) (H : B_MD_keepEvent_0 G s a1 a2 h Q X62) : aw G (rm_R 0 0 0) m_MD_keepEvent 0 0 0 [some (av_R (some 170)), some (av_I a1), some (av_I a2), none] [] h Q := by
  unfold B_MD_keepEvent_0 at H
  have hS : isS s := hb0.2.1
  refine A_aload_n 0 d_MD_keepEvent_0 rfl rfl ?_
  refine A_getAv (z := some 187) T_ok d_MD_keepEvent_1 f_MD_63 (hb_s hb0 sf_170) (hb_m hb0 rfm_29) ?_
  refine A_iload_n 1 d_MD_keepEvent_4 rfl rfl ?_
  refine A_aload_n 0 d_MD_keepEvent_5 rfl rfl ?_
  refine A_getAv (z := some 187) T_ok d_MD_keepEvent_6 f_MD_63 (hb_s hb0 sf_170) (hb_m hb0 rfm_29) ?_
  refine A_pc (pc' := 9) rfl ?_
  refine A_iload_n 2 d_MD_keepEvent_9 rfl rfl ?_
  have g4 := H.1
  replace H := H.2
  refine A_laloadf d_MD_keepEvent_10 (hb_s hb0 sf_187) g4.1 g4.2 (fun x3 ex3 lx3 ux3 => ?_)
  replace H := H x3 ex3 lx3 ux3
  have g5 := H.1
  replace H := H.2
  refine A_lastoreN d_MD_keepEvent_11 (hb_s hb0 sf_187) g5.1 g5.2 ?_
  refine A_hn (fun h6 eh6 => ?_)
  have hb7 := hb_l hb0 eh6
  replace H := H h6 eh6
  refine A_aload_n 0 d_MD_keepEvent_12 rfl rfl ?_
  refine A_getAv (z := some 188) T_ok d_MD_keepEvent_13 f_MD_66 (hb_s hb7 sf_170) (hb_m hb7 rfm_30) ?_
  refine A_iload_n 1 d_MD_keepEvent_16 rfl rfl ?_
  refine A_pc (pc' := 17) rfl ?_
  refine A_aload_n 0 d_MD_keepEvent_17 rfl rfl ?_
  refine A_getAv (z := some 188) T_ok d_MD_keepEvent_18 f_MD_66 (hb_s hb7 sf_170) (hb_m hb7 rfm_30) ?_
  refine A_iload_n 2 d_MD_keepEvent_21 rfl rfl ?_
  refine A_laloadf d_MD_keepEvent_22 (hb_s hb7 sf_188) g4.1 g4.2 (fun x10 ex10 lx10 ux10 => ?_)
  replace H := H x10 ex10 lx10 ux10
  refine A_lastoreN d_MD_keepEvent_23 (hb_s hb7 sf_188) g5.1 g5.2 ?_
  refine A_hn (fun h11 eh11 => ?_)
  have hb12 := hb_l hb7 eh11
  replace H := H h11 eh11
  refine A_aload_n 0 d_MD_keepEvent_24 rfl rfl ?_
  refine A_pc (pc' := 25) rfl ?_
  refine A_getAv (z := some 189) T_ok d_MD_keepEvent_25 f_MD_69 (hb_s hb12 sf_170) (hb_m hb12 rfm_31) ?_
  refine A_iload_n 1 d_MD_keepEvent_28 rfl rfl ?_
  refine A_aload_n 0 d_MD_keepEvent_29 rfl rfl ?_
  refine A_getAv (z := some 189) T_ok d_MD_keepEvent_30 f_MD_69 (hb_s hb12 sf_170) (hb_m hb12 rfm_31) ?_
  refine A_iload_n 2 d_MD_keepEvent_33 rfl rfl ?_
  refine A_laloadf d_MD_keepEvent_34 (hb_s hb12 sf_189) g4.1 g4.2 (fun x15 ex15 lx15 ux15 => ?_)
  replace H := H x15 ex15 lx15 ux15
  refine A_pc (pc' := 35) rfl ?_
  refine A_lastoreN d_MD_keepEvent_35 (hb_s hb12 sf_189) g5.1 g5.2 ?_
  refine A_hn (fun h16 eh16 => ?_)
  have hb17 := hb_l hb12 eh16
  replace H := H h16 eh16
  refine A_aload_n 0 d_MD_keepEvent_36 rfl rfl ?_
  refine A_getAv (z := some 190) T_ok d_MD_keepEvent_37 f_MD_72 (hb_s hb17 sf_170) (hb_m hb17 rfm_32) ?_
  refine A_iload_n 1 d_MD_keepEvent_40 rfl rfl ?_
  refine A_aload_n 0 d_MD_keepEvent_41 rfl rfl ?_
  refine A_getAv (z := some 190) T_ok d_MD_keepEvent_42 f_MD_72 (hb_s hb17 sf_170) (hb_m hb17 rfm_32) ?_
  refine A_pc (pc' := 45) rfl ?_
  refine A_iload_n 2 d_MD_keepEvent_45 rfl rfl ?_
  refine A_laloadf d_MD_keepEvent_46 (hb_s hb17 sf_190) g4.1 g4.2 (fun x20 ex20 lx20 ux20 => ?_)
  replace H := H x20 ex20 lx20 ux20
  refine A_lastoreN d_MD_keepEvent_47 (hb_s hb17 sf_190) g5.1 g5.2 ?_
  refine A_hn (fun h21 eh21 => ?_)
  have hb22 := hb_l hb17 eh21
  replace H := H h21 eh21
  refine A_aload_n 0 d_MD_keepEvent_48 rfl rfl ?_
  refine A_getAv (z := some 191) T_ok d_MD_keepEvent_49 f_MD_75 (hb_s hb22 sf_170) (hb_m hb22 rfm_33) ?_
  refine A_iload_n 1 d_MD_keepEvent_52 rfl rfl ?_
  refine A_pc (pc' := 53) rfl ?_
  refine A_aload_n 0 d_MD_keepEvent_53 rfl rfl ?_
  refine A_getAv (z := some 191) T_ok d_MD_keepEvent_54 f_MD_75 (hb_s hb22 sf_170) (hb_m hb22 rfm_33) ?_
  refine A_iload_n 2 d_MD_keepEvent_57 rfl rfl ?_
  refine A_ialoadf d_MD_keepEvent_58 (hb_s hb22 sf_191) g4.1 g4.2 (fun x25 ex25 lx25 ux25 => ?_)
  replace H := H x25 ex25 lx25 ux25
  refine A_iastoreN d_MD_keepEvent_59 (hb_s hb22 sf_191) g5.1 g5.2 ?_
  refine A_hn (fun h26 eh26 => ?_)
  have hb27 := hb_i hb22 eh26
  replace H := H h26 eh26
  refine A_iconst d_MD_keepEvent_60 rfl ?_
  refine A_pc (pc' := 61) rfl ?_
  refine A_istore_n 3 (L' := [some (av_R (some 170)), some (av_I a1), some (av_I a2), some (av_I 0)]) d_MD_keepEvent_61 rfl (Nat.le_of_ble_eq_true rfl) rfl ?_
  refine A_pc (pc' := 62) rfl ?_
  exact hX62 (0) h26  hb27 H
theorem c_MD_keepEvent {G : cx_T} {s : Nat} {a1 : Int} {a2 : Int} {h : ah_T} {Q : Option av_T → ah_T → Prop} {X62 : Int → ah_T → Prop} (hX62 : ∀ (v3 : Int) (h : ah_T), hb s h → X62 v3 h → aw G (rm_R 0 0 0) m_MD_keepEvent 0 0 62 [some (av_R (some 170)), some (av_I a1), some (av_I a2), some (av_I v3)] [] h Q) (hb0 : hb s h) (H : i32 a1 → i32 a2 → B_MD_keepEvent_0 G s a1 a2 h Q X62) : con G 0 0 0 m_MD_keepEvent [av_R (some 170), av_I a1, av_I a2] h Q := by
  have hS : isS s := hb0.2.1
  refine con_of (L := [some (av_R (some 170)), some (av_I a1), some (av_I a2), none]) (by decide +kernel) (Nat.le_of_ble_eq_true rfl) rfl ?_
  refine A_locI 1 rfl (fun ra1 => ?_)
  refine A_locI 2 rfl (fun ra2 => ?_)
  exact b_MD_keepEvent_0  hX62 hb0 (H ra1 ra2)
def B_MD_keep_305 (G : cx_T) (s : Nat) (v1 : Int) (v2 : Int) (h : ah_T) (Q : Option av_T → ah_T → Prop) (X203 : Int → ah_T → Prop) (X305 : Int → Int → ah_T → Prop) : Prop :=
 (0 ≤ v1 ∧ v1 < 8) ∧ ∀ x2 : Int, x2 = h.2.1 185 (v1).toNat → -2147483648 ≤ x2 → x2 ≤ 2147483647 → ((x2 ≤ v2 → ((-2147483648) ≤ (v1 + 1) ∧ (v1 + 1) ≤ 2147483647) ∧ X203 ((v1 + 1)) h) ∧ (¬ x2 ≤ v2 → ((-2147483648) ≤ (300 * v1) ∧ (300 * v1) ≤ 2147483647) ∧ ((-2147483648) ≤ (300 * v1 + v2) ∧ (300 * v1 + v2) ≤ 2147483647) ∧ ((-2147483648) ≤ (v1 + 4) ∧ (v1 + 4) ≤ 2147483647) ∧ ((-2147483648) ≤ (300 * v1 + 1200) ∧ (300 * v1 + 1200) ≤ 2147483647) ∧ ((-2147483648) ≤ (300 * v1 + v2 + 1200) ∧ (300 * v1 + v2 + 1200) ≤ 2147483647) ∧ con G 0 0 0 m_MD_keepEvent [av_R (some 170), av_I (300 * v1 + v2), av_I (300 * v1 + v2 + 1200)] h (fun r h10 => r = none ∧ hb s h10 ∧ ((-2147483648) ≤ (v2 + 1) ∧ (v2 + 1) ≤ 2147483647) ∧ X305 (v1) ((v2 + 1)) h10)))
theorem b_MD_keep_305 {G : cx_T} {s : Nat} {v1 : Int} {v2 : Int} {h : ah_T} {Q : Option av_T → ah_T → Prop} {X203 : Int → ah_T → Prop} {X305 : Int → Int → ah_T → Prop} (hX203 : ∀ (v1 : Int) (h : ah_T), hb s h → X203 v1 h → aw G (rm_R 1 0 0) m_MD_keep 0 0 203 [some (av_R (some 170)), some (av_I v1), none] [] h Q) (hX305 : ∀ (v1 : Int) (v2 : Int) (h : ah_T), hb s h → X305 v1 v2 h → aw G (rm_R 1 0 0) m_MD_keep 0 0 305 [some (av_R (some 170)), some (av_I v1), some (av_I v2)] [] h Q) (hb0 : hb s h) (H : B_MD_keep_305 G s v1 v2 h Q X203 X305) : aw G (rm_R 1 0 0) m_MD_keep 0 0 305 [some (av_R (some 170)), some (av_I v1), some (av_I v2)] [] h Q := by
  unfold B_MD_keep_305 at H
  have hS : isS s := hb0.2.1
  refine A_iload_n 2 d_MD_keep_305 rfl rfl ?_
  refine A_aload_n 0 d_MD_keep_306 rfl rfl ?_
  refine A_getAv (z := some 185) T_ok d_MD_keep_307 f_MD_57 (hb_s hb0 sf_170) (hb_m hb0 rfm_27) ?_
  refine A_iload_n 1 d_MD_keep_310 rfl rfl ?_
  have g3 := H.1
  replace H := H.2
  refine A_ialoadf d_MD_keep_311 (hb_s hb0 sf_185) g3.1 g3.2 (fun x2 ex2 lx2 ux2 => ?_)
  replace H := H x2 ex2 lx2 ux2
  refine A_pc (pc' := 312) rfl ?_
  refine A_icmp_ge (tgt := 341) d_MD_keep_312 (by decide) (fun c => ?_) (fun c => ?_)
  · replace H := H.1 c
    have g4 := H.1
    replace H := H.2
    refine A_iincv (z := (v1 + 1)) (L' := [some (av_R (some 170)), some (av_I (v1 + 1)), some (av_I v2)]) d_MD_keep_341 rfl (w32_to (by omega) (by unfold i32; omega)) rfl ?_
    refine A_goto (tgt := 203) d_MD_keep_344 (by decide) ?_
    refine A_pc (pc' := 203) rfl ?_
    refine A_free (L' := [some (av_R (some 170)), some (av_I (v1 + 1)), none]) (And.intro rfl (And.intro rfl trivial)) ?_
    exact hX203 ((v1 + 1)) h  hb0 H
  · replace H := H.2 c
    refine A_aload_n 0 d_MD_keep_315 rfl rfl ?_
    refine A_sipush d_MD_keep_316 rfl ?_
    refine A_iload_n 1 d_MD_keep_319 rfl rfl ?_
    have g5 := H.1
    replace H := H.2
    refine A_imulv (z := (300 * v1)) d_MD_keep_320 (w32_to (by omega) (by unfold i32; omega)) ?_
    refine A_iload_n 2 d_MD_keep_321 rfl rfl ?_
    refine A_pc (pc' := 322) rfl ?_
    have g6 := H.1
    replace H := H.2
    refine A_iaddv (z := (300 * v1 + v2)) d_MD_keep_322 (w32_to (by omega) (by unfold i32; omega)) ?_
    refine A_sipush d_MD_keep_323 rfl ?_
    refine A_iconst d_MD_keep_326 rfl ?_
    refine A_iload_n 1 d_MD_keep_327 rfl rfl ?_
    have g7 := H.1
    replace H := H.2
    refine A_iaddv (z := (v1 + 4)) d_MD_keep_328 (w32_to (by omega) (by unfold i32; omega)) ?_
    have g8 := H.1
    replace H := H.2
    refine A_imulv (z := (300 * v1 + 1200)) d_MD_keep_329 (w32_to (by omega) (by unfold i32; omega)) ?_
    refine A_pc (pc' := 330) rfl ?_
    refine A_iload_n 2 d_MD_keep_330 rfl rfl ?_
    have g9 := H.1
    replace H := H.2
    refine A_iaddv (z := (300 * v1 + v2 + 1200)) d_MD_keep_331 (w32_to (by omega) (by unfold i32; omega)) ?_
    refine A_callV2 m_MD_keepEvent T_ok d_MD_keep_332 l_MD_462 k_MD_keepEvent (hb_s hb0 sf_170) rfl (by decide +kernel) (by decide) (Nat.le_of_ble_eq_true rfl) H (fun r h10 hq => ?_)
    clear H
    obtain ⟨rfl, hb11, H⟩ := hq
    have g13 := H.1
    replace H := H.2
    refine A_iincv (z := (v2 + 1)) (L' := [some (av_R (some 170)), some (av_I v1), some (av_I (v2 + 1))]) d_MD_keep_335 rfl (w32_to (by omega) (by unfold i32; omega)) rfl ?_
    refine A_goto (tgt := 305) d_MD_keep_338 (by decide) ?_
    refine A_pc (pc' := 305) rfl ?_
    exact hX305 (v1) ((v2 + 1)) h10  hb11 H
theorem lp_MD_keep_305 {G : cx_T} {s : Nat} {Q : Option av_T → ah_T → Prop} {X203 : Int → ah_T → Prop} (hX203 : ∀ (v1 : Int) (h : ah_T), hb s h → X203 v1 h → aw G (rm_R 1 0 0) m_MD_keep 0 0 203 [some (av_R (some 170)), some (av_I v1), none] [] h Q) (I : Int → Int → ah_T → Prop) (μ : Int → Int → ah_T → Nat) (hI : ∀ (v1 : Int) (v2 : Int) (h : ah_T), hb s h → I v1 v2 h → B_MD_keep_305 G s v1 v2 h Q X203 (fun v1' v2' h' => I v1' v2' h' ∧ μ v1' v2' h' < μ v1 v2 h)) : ∀ (v1 : Int) (v2 : Int) (h : ah_T), hb s h → I v1 v2 h → aw G (rm_R 1 0 0) m_MD_keep 0 0 305 [some (av_R (some 170)), some (av_I v1), some (av_I v2)] [] h Q := by
  have key : ∀ (n : Nat) (v1 : Int) (v2 : Int) (h : ah_T), hb s h → I v1 v2 h → μ v1 v2 h < n → aw G (rm_R 1 0 0) m_MD_keep 0 0 305 [some (av_R (some 170)), some (av_I v1), some (av_I v2)] [] h Q := by
    intro n
    induction n with
    | zero => intro v1 v2 h  hb0 hi hm; omega
    | succ n ih => intro v1 v2 h  hb0 hi hm; exact b_MD_keep_305  hX203 (fun v1' v2' h'  hb' hx => ih v1' v2' h'  hb' hx.1 (by have := hx.2; omega))  hb0 (hI v1 v2 h  hb0 hi)
  exact fun v1 v2 h  hb0 hi => key _ v1 v2 h  hb0 hi (Nat.lt_succ_self _)
def B_MD_keep_243 (G : cx_T) (s : Nat) (v1 : Int) (v2 : Int) (h : ah_T) (Q : Option av_T → ah_T → Prop) (X243 : Int → Int → ah_T → Prop) (X305 : Int → Int → ah_T → Prop) : Prop :=
 ((102 ≤ v2 → X305 (v1) (0) h) ∧ (¬ 102 ≤ v2 → ((-2147483648) ≤ (102 * v1) ∧ (102 * v1) ≤ 2147483647) ∧ ((-2147483648) ≤ (102 * v1 + v2) ∧ (102 * v1 + v2) ≤ 2147483647) ∧ ((-2147483648) ≤ (v1 + 4) ∧ (v1 + 4) ≤ 2147483647) ∧ ((-2147483648) ≤ (102 * v1 + 408) ∧ (102 * v1 + 408) ≤ 2147483647) ∧ ((-2147483648) ≤ (102 * v1 + v2 + 408) ∧ (102 * v1 + v2 + 408) ≤ 2147483647) ∧ (0 ≤ (102 * v1 + v2 + 408) ∧ (102 * v1 + v2 + 408) < 816) ∧ ∀ x8 : Int, x8 = h.2.2.1 199 ((102 * v1 + v2 + 408)).toNat → -9223372036854775808 ≤ x8 → x8 ≤ 9223372036854775807 → (0 ≤ (102 * v1 + v2) ∧ (102 * v1 + v2) < 816) ∧ ∀ h11 : ah_T, h11 = st_l h 199 ((102 * v1 + v2)).toNat x8 → ∀ x15 : Int, x15 = h11.2.2.1 200 ((102 * v1 + v2 + 408)).toNat → -9223372036854775808 ≤ x15 → x15 ≤ 9223372036854775807 → ∀ h16 : ah_T, h16 = st_l h11 200 ((102 * v1 + v2)).toNat x15 → ((-2147483648) ≤ (v2 + 1) ∧ (v2 + 1) ≤ 2147483647) ∧ X243 (v1) ((v2 + 1)) h16))
theorem b_MD_keep_243 {G : cx_T} {s : Nat} {v1 : Int} {v2 : Int} {h : ah_T} {Q : Option av_T → ah_T → Prop} {X243 : Int → Int → ah_T → Prop} {X305 : Int → Int → ah_T → Prop} (hX243 : ∀ (v1 : Int) (v2 : Int) (h : ah_T), hb s h → X243 v1 v2 h → aw G (rm_R 1 0 0) m_MD_keep 0 0 243 [some (av_R (some 170)), some (av_I v1), some (av_I v2)] [] h Q) (hX305 : ∀ (v1 : Int) (v2 : Int) (h : ah_T), hb s h → X305 v1 v2 h → aw G (rm_R 1 0 0) m_MD_keep 0 0 305 [some (av_R (some 170)), some (av_I v1), some (av_I v2)] [] h Q) (hb0 : hb s h) (H : B_MD_keep_243 G s v1 v2 h Q X243 X305) : aw G (rm_R 1 0 0) m_MD_keep 0 0 243 [some (av_R (some 170)), some (av_I v1), some (av_I v2)] [] h Q := by
  unfold B_MD_keep_243 at H
  have hS : isS s := hb0.2.1
  refine A_iload_n 2 d_MD_keep_243 rfl rfl ?_
  refine A_bipush d_MD_keep_244 rfl ?_
  refine A_icmp_ge (tgt := 303) d_MD_keep_246 (by decide) (fun c => ?_) (fun c => ?_)
  · replace H := H.1 c
    refine A_iconst d_MD_keep_303 rfl ?_
    refine A_istore_n 2 (L' := [some (av_R (some 170)), some (av_I v1), some (av_I 0)]) d_MD_keep_304 rfl (Nat.le_of_ble_eq_true rfl) rfl ?_
    refine A_pc (pc' := 305) rfl ?_
    exact hX305 (v1) (0) h  hb0 H
  · replace H := H.2 c
    refine A_aload_n 0 d_MD_keep_249 rfl rfl ?_
    refine A_getAv (z := some 199) T_ok d_MD_keep_250 f_MD_100 (hb_s hb0 sf_170) (hb_m hb0 rfm_41) ?_
    refine A_bipush d_MD_keep_253 rfl ?_
    refine A_iload_n 1 d_MD_keep_255 rfl rfl ?_
    have g2 := H.1
    replace H := H.2
    refine A_imulv (z := (102 * v1)) d_MD_keep_256 (w32_to (by omega) (by unfold i32; omega)) ?_
    refine A_pc (pc' := 257) rfl ?_
    refine A_iload_n 2 d_MD_keep_257 rfl rfl ?_
    have g3 := H.1
    replace H := H.2
    refine A_iaddv (z := (102 * v1 + v2)) d_MD_keep_258 (w32_to (by omega) (by unfold i32; omega)) ?_
    refine A_aload_n 0 d_MD_keep_259 rfl rfl ?_
    refine A_getAv (z := some 199) T_ok d_MD_keep_260 f_MD_100 (hb_s hb0 sf_170) (hb_m hb0 rfm_41) ?_
    refine A_bipush d_MD_keep_263 rfl ?_
    refine A_iconst d_MD_keep_265 rfl ?_
    refine A_pc (pc' := 266) rfl ?_
    refine A_iload_n 1 d_MD_keep_266 rfl rfl ?_
    have g5 := H.1
    replace H := H.2
    refine A_iaddv (z := (v1 + 4)) d_MD_keep_267 (w32_to (by omega) (by unfold i32; omega)) ?_
    have g6 := H.1
    replace H := H.2
    refine A_imulv (z := (102 * v1 + 408)) d_MD_keep_268 (w32_to (by omega) (by unfold i32; omega)) ?_
    refine A_iload_n 2 d_MD_keep_269 rfl rfl ?_
    have g7 := H.1
    replace H := H.2
    refine A_iaddv (z := (102 * v1 + v2 + 408)) d_MD_keep_270 (w32_to (by omega) (by unfold i32; omega)) ?_
    have g9 := H.1
    replace H := H.2
    refine A_laloadf d_MD_keep_271 (hb_s hb0 sf_199) g9.1 g9.2 (fun x8 ex8 lx8 ux8 => ?_)
    replace H := H x8 ex8 lx8 ux8
    refine A_pc (pc' := 272) rfl ?_
    have g10 := H.1
    replace H := H.2
    refine A_lastoreN d_MD_keep_272 (hb_s hb0 sf_199) g10.1 g10.2 ?_
    refine A_hn (fun h11 eh11 => ?_)
    have hb12 := hb_l hb0 eh11
    replace H := H h11 eh11
    refine A_aload_n 0 d_MD_keep_273 rfl rfl ?_
    refine A_getAv (z := some 200) T_ok d_MD_keep_274 f_MD_103 (hb_s hb12 sf_170) (hb_m hb12 rfm_42) ?_
    refine A_bipush d_MD_keep_277 rfl ?_
    refine A_iload_n 1 d_MD_keep_279 rfl rfl ?_
    refine A_imulv (z := (102 * v1)) d_MD_keep_280 (w32_to (by omega) (by unfold i32; omega)) ?_
    refine A_pc (pc' := 281) rfl ?_
    refine A_iload_n 2 d_MD_keep_281 rfl rfl ?_
    refine A_iaddv (z := (102 * v1 + v2)) d_MD_keep_282 (w32_to (by omega) (by unfold i32; omega)) ?_
    refine A_aload_n 0 d_MD_keep_283 rfl rfl ?_
    refine A_getAv (z := some 200) T_ok d_MD_keep_284 f_MD_103 (hb_s hb12 sf_170) (hb_m hb12 rfm_42) ?_
    refine A_bipush d_MD_keep_287 rfl ?_
    refine A_iconst d_MD_keep_289 rfl ?_
    refine A_pc (pc' := 290) rfl ?_
    refine A_iload_n 1 d_MD_keep_290 rfl rfl ?_
    refine A_iaddv (z := (v1 + 4)) d_MD_keep_291 (w32_to (by omega) (by unfold i32; omega)) ?_
    refine A_imulv (z := (102 * v1 + 408)) d_MD_keep_292 (w32_to (by omega) (by unfold i32; omega)) ?_
    refine A_iload_n 2 d_MD_keep_293 rfl rfl ?_
    refine A_iaddv (z := (102 * v1 + v2 + 408)) d_MD_keep_294 (w32_to (by omega) (by unfold i32; omega)) ?_
    refine A_laloadf d_MD_keep_295 (hb_s hb12 sf_200) g9.1 g9.2 (fun x15 ex15 lx15 ux15 => ?_)
    replace H := H x15 ex15 lx15 ux15
    refine A_pc (pc' := 296) rfl ?_
    refine A_lastoreN d_MD_keep_296 (hb_s hb12 sf_200) g10.1 g10.2 ?_
    refine A_hn (fun h16 eh16 => ?_)
    have hb17 := hb_l hb12 eh16
    replace H := H h16 eh16
    have g18 := H.1
    replace H := H.2
    refine A_iincv (z := (v2 + 1)) (L' := [some (av_R (some 170)), some (av_I v1), some (av_I (v2 + 1))]) d_MD_keep_297 rfl (w32_to (by omega) (by unfold i32; omega)) rfl ?_
    refine A_goto (tgt := 243) d_MD_keep_300 (by decide) ?_
    refine A_pc (pc' := 243) rfl ?_
    exact hX243 (v1) ((v2 + 1)) h16  hb17 H
theorem lp_MD_keep_243 {G : cx_T} {s : Nat} {Q : Option av_T → ah_T → Prop} {X305 : Int → Int → ah_T → Prop} (hX305 : ∀ (v1 : Int) (v2 : Int) (h : ah_T), hb s h → X305 v1 v2 h → aw G (rm_R 1 0 0) m_MD_keep 0 0 305 [some (av_R (some 170)), some (av_I v1), some (av_I v2)] [] h Q) (I : Int → Int → ah_T → Prop) (μ : Int → Int → ah_T → Nat) (hI : ∀ (v1 : Int) (v2 : Int) (h : ah_T), hb s h → I v1 v2 h → B_MD_keep_243 G s v1 v2 h Q (fun v1' v2' h' => I v1' v2' h' ∧ μ v1' v2' h' < μ v1 v2 h) X305) : ∀ (v1 : Int) (v2 : Int) (h : ah_T), hb s h → I v1 v2 h → aw G (rm_R 1 0 0) m_MD_keep 0 0 243 [some (av_R (some 170)), some (av_I v1), some (av_I v2)] [] h Q := by
  have key : ∀ (n : Nat) (v1 : Int) (v2 : Int) (h : ah_T), hb s h → I v1 v2 h → μ v1 v2 h < n → aw G (rm_R 1 0 0) m_MD_keep 0 0 243 [some (av_R (some 170)), some (av_I v1), some (av_I v2)] [] h Q := by
    intro n
    induction n with
    | zero => intro v1 v2 h  hb0 hi hm; omega
    | succ n ih => intro v1 v2 h  hb0 hi hm; exact b_MD_keep_243  (fun v1' v2' h'  hb' hx => ih v1' v2' h'  hb' hx.1 (by have := hx.2; omega)) hX305  hb0 (hI v1 v2 h  hb0 hi)
  exact fun v1 v2 h  hb0 hi => key _ v1 v2 h  hb0 hi (Nat.lt_succ_self _)
def B_MD_keep_203 (G : cx_T) (s : Nat) (v1 : Int) (h : ah_T) (Q : Option av_T → ah_T → Prop) (X243 : Int → Int → ah_T → Prop) : Prop :=
 ∀ x2 : Int, x2 = h.2.1 172 0 → -2147483648 ≤ x2 → x2 ≤ 2147483647 → ((x2 ≤ v1 → Q none h) ∧ (¬ x2 ≤ v1 → ((-2147483648) ≤ (v1 + 4) ∧ (v1 + 4) ≤ 2147483647) ∧ (0 ≤ (v1 + 4) ∧ (v1 + 4) < 8) ∧ ∀ x6 : Int, x6 = h.2.1 185 ((v1 + 4)).toNat → -2147483648 ≤ x6 → x6 ≤ 2147483647 → (0 ≤ v1 ∧ v1 < 8) ∧ ∀ h9 : ah_T, h9 = st_i h 185 (v1).toNat x6 → ∀ x13 : Int, x13 = h9.2.1 186 ((v1 + 4)).toNat → -2147483648 ≤ x13 → x13 ≤ 2147483647 → ∀ h14 : ah_T, h14 = st_i h9 186 (v1).toNat x13 → X243 (v1) (0) h14))
theorem b_MD_keep_203 {G : cx_T} {s : Nat} {v1 : Int} {h : ah_T} {Q : Option av_T → ah_T → Prop} {X243 : Int → Int → ah_T → Prop} (hX243 : ∀ (v1 : Int) (v2 : Int) (h : ah_T), hb s h → X243 v1 v2 h → aw G (rm_R 1 0 0) m_MD_keep 0 0 243 [some (av_R (some 170)), some (av_I v1), some (av_I v2)] [] h Q) (hb0 : hb s h) (H : B_MD_keep_203 G s v1 h Q X243) : aw G (rm_R 1 0 0) m_MD_keep 0 0 203 [some (av_R (some 170)), some (av_I v1), none] [] h Q := by
  unfold B_MD_keep_203 at H
  have hS : isS s := hb0.2.1
  refine A_iload_n 1 d_MD_keep_203 rfl rfl ?_
  refine A_aload_n 0 d_MD_keep_204 rfl rfl ?_
  refine A_getAv (z := some 172) T_ok d_MD_keep_205 f_MD_17 (hb_s hb0 sf_170) (hb_m hb0 rfm_14) ?_
  refine A_iconst d_MD_keep_208 rfl ?_
  refine A_ialoadf d_MD_keep_209 (hb_s hb0 sf_172) (by decide) (by decide) (fun x2 ex2 lx2 ux2 => ?_)
  replace H := H x2 ex2 lx2 ux2
  refine A_pc (pc' := 210) rfl ?_
  refine A_icmp_ge (tgt := 347) d_MD_keep_210 (by decide) (fun c => ?_) (fun c => ?_)
  · replace H := H.1 c
    exact A_vret d_MD_keep_347 (by decide) rfl H
  · replace H := H.2 c
    refine A_aload_n 0 d_MD_keep_213 rfl rfl ?_
    refine A_getAv (z := some 185) T_ok d_MD_keep_214 f_MD_57 (hb_s hb0 sf_170) (hb_m hb0 rfm_27) ?_
    refine A_iload_n 1 d_MD_keep_217 rfl rfl ?_
    refine A_aload_n 0 d_MD_keep_218 rfl rfl ?_
    refine A_getAv (z := some 185) T_ok d_MD_keep_219 f_MD_57 (hb_s hb0 sf_170) (hb_m hb0 rfm_27) ?_
    refine A_pc (pc' := 222) rfl ?_
    refine A_iconst d_MD_keep_222 rfl ?_
    refine A_iload_n 1 d_MD_keep_223 rfl rfl ?_
    have g5 := H.1
    replace H := H.2
    refine A_iaddv (z := (v1 + 4)) d_MD_keep_224 (w32_to (by omega) (by unfold i32; omega)) ?_
    have g7 := H.1
    replace H := H.2
    refine A_ialoadf d_MD_keep_225 (hb_s hb0 sf_185) g7.1 g7.2 (fun x6 ex6 lx6 ux6 => ?_)
    replace H := H x6 ex6 lx6 ux6
    have g8 := H.1
    replace H := H.2
    refine A_iastoreN d_MD_keep_226 (hb_s hb0 sf_185) g8.1 g8.2 ?_
    refine A_hn (fun h9 eh9 => ?_)
    have hb10 := hb_i hb0 eh9
    replace H := H h9 eh9
    refine A_aload_n 0 d_MD_keep_227 rfl rfl ?_
    refine A_pc (pc' := 228) rfl ?_
    refine A_getAv (z := some 186) T_ok d_MD_keep_228 f_MD_60 (hb_s hb10 sf_170) (hb_m hb10 rfm_28) ?_
    refine A_iload_n 1 d_MD_keep_231 rfl rfl ?_
    refine A_aload_n 0 d_MD_keep_232 rfl rfl ?_
    refine A_getAv (z := some 186) T_ok d_MD_keep_233 f_MD_60 (hb_s hb10 sf_170) (hb_m hb10 rfm_28) ?_
    refine A_iconst d_MD_keep_236 rfl ?_
    refine A_iload_n 1 d_MD_keep_237 rfl rfl ?_
    refine A_pc (pc' := 238) rfl ?_
    refine A_iaddv (z := (v1 + 4)) d_MD_keep_238 (w32_to (by omega) (by unfold i32; omega)) ?_
    refine A_ialoadf d_MD_keep_239 (hb_s hb10 sf_186) g7.1 g7.2 (fun x13 ex13 lx13 ux13 => ?_)
    replace H := H x13 ex13 lx13 ux13
    refine A_iastoreN d_MD_keep_240 (hb_s hb10 sf_186) g8.1 g8.2 ?_
    refine A_hn (fun h14 eh14 => ?_)
    have hb15 := hb_i hb10 eh14
    replace H := H h14 eh14
    refine A_iconst d_MD_keep_241 rfl ?_
    refine A_istore_n 2 (L' := [some (av_R (some 170)), some (av_I v1), some (av_I 0)]) d_MD_keep_242 rfl (Nat.le_of_ble_eq_true rfl) rfl ?_
    refine A_pc (pc' := 243) rfl ?_
    exact hX243 (v1) (0) h14  hb15 H
theorem lp_MD_keep_203 {G : cx_T} {s : Nat} {Q : Option av_T → ah_T → Prop} {X243 : Int → Int → ah_T → Prop} (hX243 : ∀ (v1 : Int) (v2 : Int) (h : ah_T), hb s h → X243 v1 v2 h → aw G (rm_R 1 0 0) m_MD_keep 0 0 243 [some (av_R (some 170)), some (av_I v1), some (av_I v2)] [] h Q) (I : Int → ah_T → Prop) (μ : Int → ah_T → Nat) (hI : ∀ (v1 : Int) (h : ah_T), hb s h → I v1 h → B_MD_keep_203 G s v1 h Q X243) : ∀ (v1 : Int) (h : ah_T), hb s h → I v1 h → aw G (rm_R 1 0 0) m_MD_keep 0 0 203 [some (av_R (some 170)), some (av_I v1), none] [] h Q := by
  have key : ∀ (n : Nat) (v1 : Int) (h : ah_T), hb s h → I v1 h → μ v1 h < n → aw G (rm_R 1 0 0) m_MD_keep 0 0 203 [some (av_R (some 170)), some (av_I v1), none] [] h Q := by
    intro n
    induction n with
    | zero => intro v1 h  hb0 hi hm; omega
    | succ n ih => intro v1 h  hb0 hi hm; exact b_MD_keep_203  hX243  hb0 (hI v1 h  hb0 hi)
  exact fun v1 h  hb0 hi => key _ v1 h  hb0 hi (Nat.lt_succ_self _)
def B_MD_keep_162 (G : cx_T) (s : Nat) (v1 : Int) (h : ah_T) (Q : Option av_T → ah_T → Prop) (X162 : Int → ah_T → Prop) (X203 : Int → ah_T → Prop) : Prop :=
 ((12 ≤ v1 → ∀ x3 : Int, x3 = h.2.1 183 1 → -2147483648 ≤ x3 → x3 ≤ 2147483647 → ∀ h4 : ah_T, h4 = st_i h 183 0 x3 → X203 (0) h4) ∧ (¬ 12 ≤ v1 → ((-2147483648) ≤ (v1 + 12) ∧ (v1 + 12) ≤ 2147483647) ∧ (0 ≤ (v1 + 12) ∧ (v1 + 12) < 24) ∧ ∀ x9 : Int, x9 = h.2.1 182 ((v1 + 12)).toNat → -2147483648 ≤ x9 → x9 ≤ 2147483647 → (0 ≤ v1 ∧ v1 < 24) ∧ ∀ h12 : ah_T, h12 = st_i h 182 (v1).toNat x9 → ((-2147483648) ≤ (v1 + 1) ∧ (v1 + 1) ≤ 2147483647) ∧ X162 ((v1 + 1)) h12))
theorem b_MD_keep_162 {G : cx_T} {s : Nat} {v1 : Int} {h : ah_T} {Q : Option av_T → ah_T → Prop} {X162 : Int → ah_T → Prop} {X203 : Int → ah_T → Prop} (hX162 : ∀ (v1 : Int) (h : ah_T), hb s h → X162 v1 h → aw G (rm_R 1 0 0) m_MD_keep 0 0 162 [some (av_R (some 170)), some (av_I v1), none] [] h Q) (hX203 : ∀ (v1 : Int) (h : ah_T), hb s h → X203 v1 h → aw G (rm_R 1 0 0) m_MD_keep 0 0 203 [some (av_R (some 170)), some (av_I v1), none] [] h Q) (hb0 : hb s h) (H : B_MD_keep_162 G s v1 h Q X162 X203) : aw G (rm_R 1 0 0) m_MD_keep 0 0 162 [some (av_R (some 170)), some (av_I v1), none] [] h Q := by
  unfold B_MD_keep_162 at H
  have hS : isS s := hb0.2.1
  refine A_iload_n 1 d_MD_keep_162 rfl rfl ?_
  refine A_bipush d_MD_keep_163 rfl ?_
  refine A_icmp_ge (tgt := 189) d_MD_keep_165 (by decide) (fun c => ?_) (fun c => ?_)
  · replace H := H.1 c
    refine A_aload_n 0 d_MD_keep_189 rfl rfl ?_
    refine A_getAv (z := some 183) T_ok d_MD_keep_190 f_MD_50 (hb_s hb0 sf_170) (hb_m hb0 rfm_25) ?_
    refine A_iconst d_MD_keep_193 rfl ?_
    refine A_aload_n 0 d_MD_keep_194 rfl rfl ?_
    refine A_getAv (z := some 183) T_ok d_MD_keep_195 f_MD_50 (hb_s hb0 sf_170) (hb_m hb0 rfm_25) ?_
    refine A_pc (pc' := 198) rfl ?_
    refine A_iconst d_MD_keep_198 rfl ?_
    refine A_ialoadf d_MD_keep_199 (hb_s hb0 sf_183) (by decide) (by decide) (fun x3 ex3 lx3 ux3 => ?_)
    replace H := H x3 ex3 lx3 ux3
    refine A_iastoreN d_MD_keep_200 (hb_s hb0 sf_183) (by decide) (by decide) ?_
    refine A_hn (fun h4 eh4 => ?_)
    have hb5 := hb_i hb0 eh4
    replace H := H h4 eh4
    refine A_iconst d_MD_keep_201 rfl ?_
    refine A_istore_n 1 (L' := [some (av_R (some 170)), some (av_I 0), none]) d_MD_keep_202 rfl (Nat.le_of_ble_eq_true rfl) rfl ?_
    refine A_pc (pc' := 203) rfl ?_
    exact hX203 (0) h4  hb5 H
  · replace H := H.2 c
    refine A_aload_n 0 d_MD_keep_168 rfl rfl ?_
    refine A_getAv (z := some 182) T_ok d_MD_keep_169 f_MD_47 (hb_s hb0 sf_170) (hb_m hb0 rfm_24) ?_
    refine A_iload_n 1 d_MD_keep_172 rfl rfl ?_
    refine A_aload_n 0 d_MD_keep_173 rfl rfl ?_
    refine A_getAv (z := some 182) T_ok d_MD_keep_174 f_MD_47 (hb_s hb0 sf_170) (hb_m hb0 rfm_24) ?_
    refine A_pc (pc' := 177) rfl ?_
    refine A_bipush d_MD_keep_177 rfl ?_
    refine A_iload_n 1 d_MD_keep_179 rfl rfl ?_
    have g8 := H.1
    replace H := H.2
    refine A_iaddv (z := (v1 + 12)) d_MD_keep_180 (w32_to (by omega) (by unfold i32; omega)) ?_
    have g10 := H.1
    replace H := H.2
    refine A_ialoadf d_MD_keep_181 (hb_s hb0 sf_182) g10.1 g10.2 (fun x9 ex9 lx9 ux9 => ?_)
    replace H := H x9 ex9 lx9 ux9
    have g11 := H.1
    replace H := H.2
    refine A_iastoreN d_MD_keep_182 (hb_s hb0 sf_182) g11.1 g11.2 ?_
    refine A_hn (fun h12 eh12 => ?_)
    have hb13 := hb_i hb0 eh12
    replace H := H h12 eh12
    have g14 := H.1
    replace H := H.2
    refine A_iincv (z := (v1 + 1)) (L' := [some (av_R (some 170)), some (av_I (v1 + 1)), none]) d_MD_keep_183 rfl (w32_to (by omega) (by unfold i32; omega)) rfl ?_
    refine A_pc (pc' := 186) rfl ?_
    refine A_goto (tgt := 162) d_MD_keep_186 (by decide) ?_
    refine A_pc (pc' := 162) rfl ?_
    exact hX162 ((v1 + 1)) h12  hb13 H
theorem lp_MD_keep_162 {G : cx_T} {s : Nat} {Q : Option av_T → ah_T → Prop} {X203 : Int → ah_T → Prop} (hX203 : ∀ (v1 : Int) (h : ah_T), hb s h → X203 v1 h → aw G (rm_R 1 0 0) m_MD_keep 0 0 203 [some (av_R (some 170)), some (av_I v1), none] [] h Q) (I : Int → ah_T → Prop) (μ : Int → ah_T → Nat) (hI : ∀ (v1 : Int) (h : ah_T), hb s h → I v1 h → B_MD_keep_162 G s v1 h Q (fun v1' h' => I v1' h' ∧ μ v1' h' < μ v1 h) X203) : ∀ (v1 : Int) (h : ah_T), hb s h → I v1 h → aw G (rm_R 1 0 0) m_MD_keep 0 0 162 [some (av_R (some 170)), some (av_I v1), none] [] h Q := by
  have key : ∀ (n : Nat) (v1 : Int) (h : ah_T), hb s h → I v1 h → μ v1 h < n → aw G (rm_R 1 0 0) m_MD_keep 0 0 162 [some (av_R (some 170)), some (av_I v1), none] [] h Q := by
    intro n
    induction n with
    | zero => intro v1 h  hb0 hi hm; omega
    | succ n ih => intro v1 h  hb0 hi hm; exact b_MD_keep_162  (fun v1' h'  hb' hx => ih v1' h'  hb' hx.1 (by have := hx.2; omega)) hX203  hb0 (hI v1 h  hb0 hi)
  exact fun v1 h  hb0 hi => key _ v1 h  hb0 hi (Nat.lt_succ_self _)
def B_MD_keep_91 (G : cx_T) (s : Nat) (v1 : Int) (h : ah_T) (Q : Option av_T → ah_T → Prop) (X91 : Int → ah_T → Prop) (X162 : Int → ah_T → Prop) : Prop :=
 ((24 ≤ v1 → ∀ x3 : Int, x3 = h.2.1 181 1 → -2147483648 ≤ x3 → x3 ≤ 2147483647 → ∀ h4 : ah_T, h4 = st_i h 181 0 x3 → X162 (0) h4) ∧ (¬ 24 ≤ v1 → ((-2147483648) ≤ (v1 + 24) ∧ (v1 + 24) ≤ 2147483647) ∧ (0 ≤ (v1 + 24) ∧ (v1 + 24) < 48) ∧ ∀ x9 : Int, x9 = h.2.1 178 ((v1 + 24)).toNat → -2147483648 ≤ x9 → x9 ≤ 2147483647 → (0 ≤ v1 ∧ v1 < 48) ∧ ∀ h12 : ah_T, h12 = st_i h 178 (v1).toNat x9 → ∀ x16 : Int, x16 = h12.2.1 179 ((v1 + 24)).toNat → -2147483648 ≤ x16 → x16 ≤ 2147483647 → ∀ h17 : ah_T, h17 = st_i h12 179 (v1).toNat x16 → ∀ x21 : Int, x21 = h17.2.1 180 ((v1 + 24)).toNat → -2147483648 ≤ x21 → x21 ≤ 2147483647 → ∀ h22 : ah_T, h22 = st_i h17 180 (v1).toNat x21 → ((-2147483648) ≤ (v1 + 1) ∧ (v1 + 1) ≤ 2147483647) ∧ X91 ((v1 + 1)) h22))
theorem b_MD_keep_91 {G : cx_T} {s : Nat} {v1 : Int} {h : ah_T} {Q : Option av_T → ah_T → Prop} {X91 : Int → ah_T → Prop} {X162 : Int → ah_T → Prop} (hX91 : ∀ (v1 : Int) (h : ah_T), hb s h → X91 v1 h → aw G (rm_R 1 0 0) m_MD_keep 0 0 91 [some (av_R (some 170)), some (av_I v1), none] [] h Q) (hX162 : ∀ (v1 : Int) (h : ah_T), hb s h → X162 v1 h → aw G (rm_R 1 0 0) m_MD_keep 0 0 162 [some (av_R (some 170)), some (av_I v1), none] [] h Q) (hb0 : hb s h) (H : B_MD_keep_91 G s v1 h Q X91 X162) : aw G (rm_R 1 0 0) m_MD_keep 0 0 91 [some (av_R (some 170)), some (av_I v1), none] [] h Q := by
  unfold B_MD_keep_91 at H
  have hS : isS s := hb0.2.1
  refine A_iload_n 1 d_MD_keep_91 rfl rfl ?_
  refine A_bipush d_MD_keep_92 rfl ?_
  refine A_icmp_ge (tgt := 148) d_MD_keep_94 (by decide) (fun c => ?_) (fun c => ?_)
  · replace H := H.1 c
    refine A_aload_n 0 d_MD_keep_148 rfl rfl ?_
    refine A_getAv (z := some 181) T_ok d_MD_keep_149 f_MD_44 (hb_s hb0 sf_170) (hb_m hb0 rfm_23) ?_
    refine A_iconst d_MD_keep_152 rfl ?_
    refine A_aload_n 0 d_MD_keep_153 rfl rfl ?_
    refine A_getAv (z := some 181) T_ok d_MD_keep_154 f_MD_44 (hb_s hb0 sf_170) (hb_m hb0 rfm_23) ?_
    refine A_pc (pc' := 157) rfl ?_
    refine A_iconst d_MD_keep_157 rfl ?_
    refine A_ialoadf d_MD_keep_158 (hb_s hb0 sf_181) (by decide) (by decide) (fun x3 ex3 lx3 ux3 => ?_)
    replace H := H x3 ex3 lx3 ux3
    refine A_iastoreN d_MD_keep_159 (hb_s hb0 sf_181) (by decide) (by decide) ?_
    refine A_hn (fun h4 eh4 => ?_)
    have hb5 := hb_i hb0 eh4
    replace H := H h4 eh4
    refine A_iconst d_MD_keep_160 rfl ?_
    refine A_istore_n 1 (L' := [some (av_R (some 170)), some (av_I 0), none]) d_MD_keep_161 rfl (Nat.le_of_ble_eq_true rfl) rfl ?_
    refine A_pc (pc' := 162) rfl ?_
    exact hX162 (0) h4  hb5 H
  · replace H := H.2 c
    refine A_aload_n 0 d_MD_keep_97 rfl rfl ?_
    refine A_getAv (z := some 178) T_ok d_MD_keep_98 f_MD_35 (hb_s hb0 sf_170) (hb_m hb0 rfm_20) ?_
    refine A_iload_n 1 d_MD_keep_101 rfl rfl ?_
    refine A_aload_n 0 d_MD_keep_102 rfl rfl ?_
    refine A_getAv (z := some 178) T_ok d_MD_keep_103 f_MD_35 (hb_s hb0 sf_170) (hb_m hb0 rfm_20) ?_
    refine A_pc (pc' := 106) rfl ?_
    refine A_bipush d_MD_keep_106 rfl ?_
    refine A_iload_n 1 d_MD_keep_108 rfl rfl ?_
    have g8 := H.1
    replace H := H.2
    refine A_iaddv (z := (v1 + 24)) d_MD_keep_109 (w32_to (by omega) (by unfold i32; omega)) ?_
    have g10 := H.1
    replace H := H.2
    refine A_ialoadf d_MD_keep_110 (hb_s hb0 sf_178) g10.1 g10.2 (fun x9 ex9 lx9 ux9 => ?_)
    replace H := H x9 ex9 lx9 ux9
    have g11 := H.1
    replace H := H.2
    refine A_iastoreN d_MD_keep_111 (hb_s hb0 sf_178) g11.1 g11.2 ?_
    refine A_hn (fun h12 eh12 => ?_)
    have hb13 := hb_i hb0 eh12
    replace H := H h12 eh12
    refine A_aload_n 0 d_MD_keep_112 rfl rfl ?_
    refine A_pc (pc' := 113) rfl ?_
    refine A_getAv (z := some 179) T_ok d_MD_keep_113 f_MD_38 (hb_s hb13 sf_170) (hb_m hb13 rfm_21) ?_
    refine A_iload_n 1 d_MD_keep_116 rfl rfl ?_
    refine A_aload_n 0 d_MD_keep_117 rfl rfl ?_
    refine A_getAv (z := some 179) T_ok d_MD_keep_118 f_MD_38 (hb_s hb13 sf_170) (hb_m hb13 rfm_21) ?_
    refine A_bipush d_MD_keep_121 rfl ?_
    refine A_iload_n 1 d_MD_keep_123 rfl rfl ?_
    refine A_pc (pc' := 124) rfl ?_
    refine A_iaddv (z := (v1 + 24)) d_MD_keep_124 (w32_to (by omega) (by unfold i32; omega)) ?_
    refine A_ialoadf d_MD_keep_125 (hb_s hb13 sf_179) g10.1 g10.2 (fun x16 ex16 lx16 ux16 => ?_)
    replace H := H x16 ex16 lx16 ux16
    refine A_iastoreN d_MD_keep_126 (hb_s hb13 sf_179) g11.1 g11.2 ?_
    refine A_hn (fun h17 eh17 => ?_)
    have hb18 := hb_i hb13 eh17
    replace H := H h17 eh17
    refine A_aload_n 0 d_MD_keep_127 rfl rfl ?_
    refine A_getAv (z := some 180) T_ok d_MD_keep_128 f_MD_41 (hb_s hb18 sf_170) (hb_m hb18 rfm_22) ?_
    refine A_iload_n 1 d_MD_keep_131 rfl rfl ?_
    refine A_pc (pc' := 132) rfl ?_
    refine A_aload_n 0 d_MD_keep_132 rfl rfl ?_
    refine A_getAv (z := some 180) T_ok d_MD_keep_133 f_MD_41 (hb_s hb18 sf_170) (hb_m hb18 rfm_22) ?_
    refine A_bipush d_MD_keep_136 rfl ?_
    refine A_iload_n 1 d_MD_keep_138 rfl rfl ?_
    refine A_iaddv (z := (v1 + 24)) d_MD_keep_139 (w32_to (by omega) (by unfold i32; omega)) ?_
    refine A_ialoadf d_MD_keep_140 (hb_s hb18 sf_180) g10.1 g10.2 (fun x21 ex21 lx21 ux21 => ?_)
    replace H := H x21 ex21 lx21 ux21
    refine A_pc (pc' := 141) rfl ?_
    refine A_iastoreN d_MD_keep_141 (hb_s hb18 sf_180) g11.1 g11.2 ?_
    refine A_hn (fun h22 eh22 => ?_)
    have hb23 := hb_i hb18 eh22
    replace H := H h22 eh22
    have g24 := H.1
    replace H := H.2
    refine A_iincv (z := (v1 + 1)) (L' := [some (av_R (some 170)), some (av_I (v1 + 1)), none]) d_MD_keep_142 rfl (w32_to (by omega) (by unfold i32; omega)) rfl ?_
    refine A_goto (tgt := 91) d_MD_keep_145 (by decide) ?_
    refine A_pc (pc' := 91) rfl ?_
    exact hX91 ((v1 + 1)) h22  hb23 H
theorem lp_MD_keep_91 {G : cx_T} {s : Nat} {Q : Option av_T → ah_T → Prop} {X162 : Int → ah_T → Prop} (hX162 : ∀ (v1 : Int) (h : ah_T), hb s h → X162 v1 h → aw G (rm_R 1 0 0) m_MD_keep 0 0 162 [some (av_R (some 170)), some (av_I v1), none] [] h Q) (I : Int → ah_T → Prop) (μ : Int → ah_T → Nat) (hI : ∀ (v1 : Int) (h : ah_T), hb s h → I v1 h → B_MD_keep_91 G s v1 h Q (fun v1' h' => I v1' h' ∧ μ v1' h' < μ v1 h) X162) : ∀ (v1 : Int) (h : ah_T), hb s h → I v1 h → aw G (rm_R 1 0 0) m_MD_keep 0 0 91 [some (av_R (some 170)), some (av_I v1), none] [] h Q := by
  have key : ∀ (n : Nat) (v1 : Int) (h : ah_T), hb s h → I v1 h → μ v1 h < n → aw G (rm_R 1 0 0) m_MD_keep 0 0 91 [some (av_R (some 170)), some (av_I v1), none] [] h Q := by
    intro n
    induction n with
    | zero => intro v1 h  hb0 hi hm; omega
    | succ n ih => intro v1 h  hb0 hi hm; exact b_MD_keep_91  (fun v1' h'  hb' hx => ih v1' h'  hb' hx.1 (by have := hx.2; omega)) hX162  hb0 (hI v1 h  hb0 hi)
  exact fun v1 h  hb0 hi => key _ v1 h  hb0 hi (Nat.lt_succ_self _)
def B_MD_keep_50 (G : cx_T) (s : Nat) (v1 : Int) (h : ah_T) (Q : Option av_T → ah_T → Prop) (X50 : Int → ah_T → Prop) (X91 : Int → ah_T → Prop) : Prop :=
 ((8 ≤ v1 → ∀ x3 : Int, x3 = h.2.1 177 1 → -2147483648 ≤ x3 → x3 ≤ 2147483647 → ∀ h4 : ah_T, h4 = st_i h 177 0 x3 → X91 (0) h4) ∧ (¬ 8 ≤ v1 → ((-2147483648) ≤ (v1 + 8) ∧ (v1 + 8) ≤ 2147483647) ∧ (0 ≤ (v1 + 8) ∧ (v1 + 8) < 16) ∧ ∀ x9 : Int, x9 = h.2.1 176 ((v1 + 8)).toNat → -2147483648 ≤ x9 → x9 ≤ 2147483647 → (0 ≤ v1 ∧ v1 < 16) ∧ ∀ h12 : ah_T, h12 = st_i h 176 (v1).toNat x9 → ((-2147483648) ≤ (v1 + 1) ∧ (v1 + 1) ≤ 2147483647) ∧ X50 ((v1 + 1)) h12))
theorem b_MD_keep_50 {G : cx_T} {s : Nat} {v1 : Int} {h : ah_T} {Q : Option av_T → ah_T → Prop} {X50 : Int → ah_T → Prop} {X91 : Int → ah_T → Prop} (hX50 : ∀ (v1 : Int) (h : ah_T), hb s h → X50 v1 h → aw G (rm_R 1 0 0) m_MD_keep 0 0 50 [some (av_R (some 170)), some (av_I v1), none] [] h Q) (hX91 : ∀ (v1 : Int) (h : ah_T), hb s h → X91 v1 h → aw G (rm_R 1 0 0) m_MD_keep 0 0 91 [some (av_R (some 170)), some (av_I v1), none] [] h Q) (hb0 : hb s h) (H : B_MD_keep_50 G s v1 h Q X50 X91) : aw G (rm_R 1 0 0) m_MD_keep 0 0 50 [some (av_R (some 170)), some (av_I v1), none] [] h Q := by
  unfold B_MD_keep_50 at H
  have hS : isS s := hb0.2.1
  refine A_iload_n 1 d_MD_keep_50 rfl rfl ?_
  refine A_bipush d_MD_keep_51 rfl ?_
  refine A_icmp_ge (tgt := 77) d_MD_keep_53 (by decide) (fun c => ?_) (fun c => ?_)
  · replace H := H.1 c
    refine A_aload_n 0 d_MD_keep_77 rfl rfl ?_
    refine A_getAv (z := some 177) T_ok d_MD_keep_78 f_MD_32 (hb_s hb0 sf_170) (hb_m hb0 rfm_19) ?_
    refine A_iconst d_MD_keep_81 rfl ?_
    refine A_aload_n 0 d_MD_keep_82 rfl rfl ?_
    refine A_getAv (z := some 177) T_ok d_MD_keep_83 f_MD_32 (hb_s hb0 sf_170) (hb_m hb0 rfm_19) ?_
    refine A_pc (pc' := 86) rfl ?_
    refine A_iconst d_MD_keep_86 rfl ?_
    refine A_ialoadf d_MD_keep_87 (hb_s hb0 sf_177) (by decide) (by decide) (fun x3 ex3 lx3 ux3 => ?_)
    replace H := H x3 ex3 lx3 ux3
    refine A_iastoreN d_MD_keep_88 (hb_s hb0 sf_177) (by decide) (by decide) ?_
    refine A_hn (fun h4 eh4 => ?_)
    have hb5 := hb_i hb0 eh4
    replace H := H h4 eh4
    refine A_iconst d_MD_keep_89 rfl ?_
    refine A_istore_n 1 (L' := [some (av_R (some 170)), some (av_I 0), none]) d_MD_keep_90 rfl (Nat.le_of_ble_eq_true rfl) rfl ?_
    refine A_pc (pc' := 91) rfl ?_
    exact hX91 (0) h4  hb5 H
  · replace H := H.2 c
    refine A_aload_n 0 d_MD_keep_56 rfl rfl ?_
    refine A_getAv (z := some 176) T_ok d_MD_keep_57 f_MD_29 (hb_s hb0 sf_170) (hb_m hb0 rfm_18) ?_
    refine A_iload_n 1 d_MD_keep_60 rfl rfl ?_
    refine A_aload_n 0 d_MD_keep_61 rfl rfl ?_
    refine A_getAv (z := some 176) T_ok d_MD_keep_62 f_MD_29 (hb_s hb0 sf_170) (hb_m hb0 rfm_18) ?_
    refine A_pc (pc' := 65) rfl ?_
    refine A_bipush d_MD_keep_65 rfl ?_
    refine A_iload_n 1 d_MD_keep_67 rfl rfl ?_
    have g8 := H.1
    replace H := H.2
    refine A_iaddv (z := (v1 + 8)) d_MD_keep_68 (w32_to (by omega) (by unfold i32; omega)) ?_
    have g10 := H.1
    replace H := H.2
    refine A_ialoadf d_MD_keep_69 (hb_s hb0 sf_176) g10.1 g10.2 (fun x9 ex9 lx9 ux9 => ?_)
    replace H := H x9 ex9 lx9 ux9
    have g11 := H.1
    replace H := H.2
    refine A_iastoreN d_MD_keep_70 (hb_s hb0 sf_176) g11.1 g11.2 ?_
    refine A_hn (fun h12 eh12 => ?_)
    have hb13 := hb_i hb0 eh12
    replace H := H h12 eh12
    have g14 := H.1
    replace H := H.2
    refine A_iincv (z := (v1 + 1)) (L' := [some (av_R (some 170)), some (av_I (v1 + 1)), none]) d_MD_keep_71 rfl (w32_to (by omega) (by unfold i32; omega)) rfl ?_
    refine A_pc (pc' := 74) rfl ?_
    refine A_goto (tgt := 50) d_MD_keep_74 (by decide) ?_
    refine A_pc (pc' := 50) rfl ?_
    exact hX50 ((v1 + 1)) h12  hb13 H
theorem lp_MD_keep_50 {G : cx_T} {s : Nat} {Q : Option av_T → ah_T → Prop} {X91 : Int → ah_T → Prop} (hX91 : ∀ (v1 : Int) (h : ah_T), hb s h → X91 v1 h → aw G (rm_R 1 0 0) m_MD_keep 0 0 91 [some (av_R (some 170)), some (av_I v1), none] [] h Q) (I : Int → ah_T → Prop) (μ : Int → ah_T → Nat) (hI : ∀ (v1 : Int) (h : ah_T), hb s h → I v1 h → B_MD_keep_50 G s v1 h Q (fun v1' h' => I v1' h' ∧ μ v1' h' < μ v1 h) X91) : ∀ (v1 : Int) (h : ah_T), hb s h → I v1 h → aw G (rm_R 1 0 0) m_MD_keep 0 0 50 [some (av_R (some 170)), some (av_I v1), none] [] h Q := by
  have key : ∀ (n : Nat) (v1 : Int) (h : ah_T), hb s h → I v1 h → μ v1 h < n → aw G (rm_R 1 0 0) m_MD_keep 0 0 50 [some (av_R (some 170)), some (av_I v1), none] [] h Q := by
    intro n
    induction n with
    | zero => intro v1 h  hb0 hi hm; omega
    | succ n ih => intro v1 h  hb0 hi hm; exact b_MD_keep_50  (fun v1' h'  hb' hx => ih v1' h'  hb' hx.1 (by have := hx.2; omega)) hX91  hb0 (hI v1 h  hb0 hi)
  exact fun v1 h  hb0 hi => key _ v1 h  hb0 hi (Nat.lt_succ_self _)
def B_MD_keep_0 (G : cx_T) (s : Nat) (h : ah_T) (Q : Option av_T → ah_T → Prop) (X50 : Int → ah_T → Prop) : Prop :=
 ∀ x3 : Int, x3 = h.2.1 172 1 → -2147483648 ≤ x3 → x3 ≤ 2147483647 → ∀ h4 : ah_T, h4 = st_i h 172 0 x3 → ∀ x8 : Int, x8 = h4.2.1 173 1 → -2147483648 ≤ x8 → x8 ≤ 2147483647 → ∀ h9 : ah_T, h9 = st_i h4 173 0 x8 → ∀ x13 : Int, x13 = h9.2.1 174 1 → -2147483648 ≤ x13 → x13 ≤ 2147483647 → ∀ h14 : ah_T, h14 = st_i h9 174 0 x13 → ∀ x18 : Int, x18 = h14.2.1 175 1 → -2147483648 ≤ x18 → x18 ≤ 2147483647 → ∀ h19 : ah_T, h19 = st_i h14 175 0 x18 → X50 (0) h19
theorem b_MD_keep_0 {G : cx_T} {s : Nat} {h : ah_T} {Q : Option av_T → ah_T → Prop} {X50 : Int → ah_T → Prop} (hX50 : ∀ (v1 : Int) (h : ah_T), hb s h → X50 v1 h → aw G (rm_R 1 0 0) m_MD_keep 0 0 50 [some (av_R (some 170)), some (av_I v1), none] [] h Q) (hb0 : hb s h) (H : B_MD_keep_0 G s h Q X50) : aw G (rm_R 1 0 0) m_MD_keep 0 0 0 [some (av_R (some 170)), none, none] [] h Q := by
  unfold B_MD_keep_0 at H
  have hS : isS s := hb0.2.1
  refine A_aload_n 0 d_MD_keep_0 rfl rfl ?_
  refine A_getAv (z := some 172) T_ok d_MD_keep_1 f_MD_17 (hb_s hb0 sf_170) (hb_m hb0 rfm_14) ?_
  refine A_iconst d_MD_keep_4 rfl ?_
  refine A_aload_n 0 d_MD_keep_5 rfl rfl ?_
  refine A_getAv (z := some 172) T_ok d_MD_keep_6 f_MD_17 (hb_s hb0 sf_170) (hb_m hb0 rfm_14) ?_
  refine A_pc (pc' := 9) rfl ?_
  refine A_iconst d_MD_keep_9 rfl ?_
  refine A_ialoadf d_MD_keep_10 (hb_s hb0 sf_172) (by decide) (by decide) (fun x3 ex3 lx3 ux3 => ?_)
  replace H := H x3 ex3 lx3 ux3
  refine A_iastoreN d_MD_keep_11 (hb_s hb0 sf_172) (by decide) (by decide) ?_
  refine A_hn (fun h4 eh4 => ?_)
  have hb5 := hb_i hb0 eh4
  replace H := H h4 eh4
  refine A_aload_n 0 d_MD_keep_12 rfl rfl ?_
  refine A_getAv (z := some 173) T_ok d_MD_keep_13 f_MD_20 (hb_s hb5 sf_170) (hb_m hb5 rfm_15) ?_
  refine A_iconst d_MD_keep_16 rfl ?_
  refine A_pc (pc' := 17) rfl ?_
  refine A_aload_n 0 d_MD_keep_17 rfl rfl ?_
  refine A_getAv (z := some 173) T_ok d_MD_keep_18 f_MD_20 (hb_s hb5 sf_170) (hb_m hb5 rfm_15) ?_
  refine A_iconst d_MD_keep_21 rfl ?_
  refine A_ialoadf d_MD_keep_22 (hb_s hb5 sf_173) (by decide) (by decide) (fun x8 ex8 lx8 ux8 => ?_)
  replace H := H x8 ex8 lx8 ux8
  refine A_iastoreN d_MD_keep_23 (hb_s hb5 sf_173) (by decide) (by decide) ?_
  refine A_hn (fun h9 eh9 => ?_)
  have hb10 := hb_i hb5 eh9
  replace H := H h9 eh9
  refine A_aload_n 0 d_MD_keep_24 rfl rfl ?_
  refine A_pc (pc' := 25) rfl ?_
  refine A_getAv (z := some 174) T_ok d_MD_keep_25 f_MD_23 (hb_s hb10 sf_170) (hb_m hb10 rfm_16) ?_
  refine A_iconst d_MD_keep_28 rfl ?_
  refine A_aload_n 0 d_MD_keep_29 rfl rfl ?_
  refine A_getAv (z := some 174) T_ok d_MD_keep_30 f_MD_23 (hb_s hb10 sf_170) (hb_m hb10 rfm_16) ?_
  refine A_iconst d_MD_keep_33 rfl ?_
  refine A_ialoadf d_MD_keep_34 (hb_s hb10 sf_174) (by decide) (by decide) (fun x13 ex13 lx13 ux13 => ?_)
  replace H := H x13 ex13 lx13 ux13
  refine A_pc (pc' := 35) rfl ?_
  refine A_iastoreN d_MD_keep_35 (hb_s hb10 sf_174) (by decide) (by decide) ?_
  refine A_hn (fun h14 eh14 => ?_)
  have hb15 := hb_i hb10 eh14
  replace H := H h14 eh14
  refine A_aload_n 0 d_MD_keep_36 rfl rfl ?_
  refine A_getAv (z := some 175) T_ok d_MD_keep_37 f_MD_26 (hb_s hb15 sf_170) (hb_m hb15 rfm_17) ?_
  refine A_iconst d_MD_keep_40 rfl ?_
  refine A_aload_n 0 d_MD_keep_41 rfl rfl ?_
  refine A_getAv (z := some 175) T_ok d_MD_keep_42 f_MD_26 (hb_s hb15 sf_170) (hb_m hb15 rfm_17) ?_
  refine A_pc (pc' := 45) rfl ?_
  refine A_iconst d_MD_keep_45 rfl ?_
  refine A_ialoadf d_MD_keep_46 (hb_s hb15 sf_175) (by decide) (by decide) (fun x18 ex18 lx18 ux18 => ?_)
  replace H := H x18 ex18 lx18 ux18
  refine A_iastoreN d_MD_keep_47 (hb_s hb15 sf_175) (by decide) (by decide) ?_
  refine A_hn (fun h19 eh19 => ?_)
  have hb20 := hb_i hb15 eh19
  replace H := H h19 eh19
  refine A_iconst d_MD_keep_48 rfl ?_
  refine A_istore_n 1 (L' := [some (av_R (some 170)), some (av_I 0), none]) d_MD_keep_49 rfl (Nat.le_of_ble_eq_true rfl) rfl ?_
  refine A_pc (pc' := 50) rfl ?_
  exact hX50 (0) h19  hb20 H
theorem c_MD_keep {G : cx_T} {s : Nat} {h : ah_T} {Q : Option av_T → ah_T → Prop} {X50 : Int → ah_T → Prop} (hX50 : ∀ (v1 : Int) (h : ah_T), hb s h → X50 v1 h → aw G (rm_R 1 0 0) m_MD_keep 0 0 50 [some (av_R (some 170)), some (av_I v1), none] [] h Q) (hb0 : hb s h) (H : B_MD_keep_0 G s h Q X50) : con G 1 0 0 m_MD_keep [av_R (some 170)] h Q := by
  have hS : isS s := hb0.2.1
  refine con_of (L := [some (av_R (some 170)), none, none]) (by decide +kernel) (Nat.le_of_ble_eq_true rfl) rfl ?_
  exact b_MD_keep_0  hX50 hb0 (H )
def B_MD_score_95 (G : cx_T) (s : Nat) (v1 : Int) (v2 : Int) (h : ah_T) (Q : Option av_T → ah_T → Prop) (X95 : Int → Int → ah_T → Prop) : Prop :=
 ∀ x2 : Int, x2 = h.2.1 172 0 → -2147483648 ≤ x2 → x2 ≤ 2147483647 → ((x2 ≤ v2 → Q (some (av_I v1)) h) ∧ (¬ x2 ≤ v2 → (0 ≤ v2 ∧ v2 < 8) ∧ ∀ x4 : Int, x4 = h.2.1 185 (v2).toNat → -2147483648 ≤ x4 → x4 ≤ 2147483647 → ((-2147483648) ≤ (v1 + x4) ∧ (v1 + x4) ≤ 2147483647) ∧ ((-2147483648) ≤ (v2 + 1) ∧ (v2 + 1) ≤ 2147483647) ∧ X95 ((v1 + x4)) ((v2 + 1)) h))
theorem b_MD_score_95 {G : cx_T} {s : Nat} {v1 : Int} {v2 : Int} {h : ah_T} {Q : Option av_T → ah_T → Prop} {X95 : Int → Int → ah_T → Prop} (hX95 : ∀ (v1 : Int) (v2 : Int) (h : ah_T), hb s h → X95 v1 v2 h → aw G (rm_R 8 0 0) m_MD_score 0 0 95 [some (av_R (some 170)), some (av_I v1), some (av_I v2)] [] h Q) (hb0 : hb s h) (H : B_MD_score_95 G s v1 v2 h Q X95) : aw G (rm_R 8 0 0) m_MD_score 0 0 95 [some (av_R (some 170)), some (av_I v1), some (av_I v2)] [] h Q := by
  unfold B_MD_score_95 at H
  have hS : isS s := hb0.2.1
  refine A_iload_n 2 d_MD_score_95 rfl rfl ?_
  refine A_aload_n 0 d_MD_score_96 rfl rfl ?_
  refine A_getAv (z := some 172) T_ok d_MD_score_97 f_MD_17 (hb_s hb0 sf_170) (hb_m hb0 rfm_14) ?_
  refine A_iconst d_MD_score_100 rfl ?_
  refine A_ialoadf d_MD_score_101 (hb_s hb0 sf_172) (by decide) (by decide) (fun x2 ex2 lx2 ux2 => ?_)
  replace H := H x2 ex2 lx2 ux2
  refine A_pc (pc' := 102) rfl ?_
  refine A_icmp_ge (tgt := 120) d_MD_score_102 (by decide) (fun c => ?_) (fun c => ?_)
  · replace H := H.1 c
    refine A_iload_n 1 d_MD_score_120 rfl rfl ?_
    exact A_iret d_MD_score_121 (by decide) rfl H
  · replace H := H.2 c
    refine A_iload_n 1 d_MD_score_105 rfl rfl ?_
    refine A_aload_n 0 d_MD_score_106 rfl rfl ?_
    refine A_getAv (z := some 185) T_ok d_MD_score_107 f_MD_57 (hb_s hb0 sf_170) (hb_m hb0 rfm_27) ?_
    refine A_iload_n 2 d_MD_score_110 rfl rfl ?_
    have g5 := H.1
    replace H := H.2
    refine A_ialoadf d_MD_score_111 (hb_s hb0 sf_185) g5.1 g5.2 (fun x4 ex4 lx4 ux4 => ?_)
    replace H := H x4 ex4 lx4 ux4
    refine A_pc (pc' := 112) rfl ?_
    have g6 := H.1
    replace H := H.2
    refine A_iaddv (z := (v1 + x4)) d_MD_score_112 (w32_to (by omega) (by unfold i32; omega)) ?_
    refine A_istore_n 1 (L' := [some (av_R (some 170)), some (av_I (v1 + x4)), some (av_I v2)]) d_MD_score_113 rfl (Nat.le_of_ble_eq_true rfl) rfl ?_
    have g7 := H.1
    replace H := H.2
    refine A_iincv (z := (v2 + 1)) (L' := [some (av_R (some 170)), some (av_I (v1 + x4)), some (av_I (v2 + 1))]) d_MD_score_114 rfl (w32_to (by omega) (by unfold i32; omega)) rfl ?_
    refine A_goto (tgt := 95) d_MD_score_117 (by decide) ?_
    refine A_pc (pc' := 95) rfl ?_
    exact hX95 ((v1 + x4)) ((v2 + 1)) h  hb0 H
theorem lp_MD_score_95 {G : cx_T} {s : Nat} {Q : Option av_T → ah_T → Prop} (I : Int → Int → ah_T → Prop) (μ : Int → Int → ah_T → Nat) (hI : ∀ (v1 : Int) (v2 : Int) (h : ah_T), hb s h → I v1 v2 h → B_MD_score_95 G s v1 v2 h Q (fun v1' v2' h' => I v1' v2' h' ∧ μ v1' v2' h' < μ v1 v2 h)) : ∀ (v1 : Int) (v2 : Int) (h : ah_T), hb s h → I v1 v2 h → aw G (rm_R 8 0 0) m_MD_score 0 0 95 [some (av_R (some 170)), some (av_I v1), some (av_I v2)] [] h Q := by
  have key : ∀ (n : Nat) (v1 : Int) (v2 : Int) (h : ah_T), hb s h → I v1 v2 h → μ v1 v2 h < n → aw G (rm_R 8 0 0) m_MD_score 0 0 95 [some (av_R (some 170)), some (av_I v1), some (av_I v2)] [] h Q := by
    intro n
    induction n with
    | zero => intro v1 v2 h  hb0 hi hm; omega
    | succ n ih => intro v1 v2 h  hb0 hi hm; exact b_MD_score_95  (fun v1' v2' h'  hb' hx => ih v1' v2' h'  hb' hx.1 (by have := hx.2; omega))  hb0 (hI v1 v2 h  hb0 hi)
  exact fun v1 v2 h  hb0 hi => key _ v1 v2 h  hb0 hi (Nat.lt_succ_self _)
def B_MD_score_0 (G : cx_T) (s : Nat) (h : ah_T) (Q : Option av_T → ah_T → Prop) (X95 : Int → Int → ah_T → Prop) : Prop :=
 ∀ x1 : Int, x1 = h.2.1 170 1 → -2147483648 ≤ x1 → x1 ≤ 2147483647 → ∀ h2 : ah_T, h2 = st_i h 170 2 x1 → ∀ h4 : ah_T, h4 = st_i h2 170 1 0 → ∀ h6 : ah_T, h6 = st_i h4 170 3 0 → ∀ h8 : ah_T, h8 = st_i h6 170 11 0 → ∀ h10 : ah_T, h10 = st_i h8 170 13 (-2) → con G 7 0 0 m_MD_parse [av_R (some 170)] h10 (fun r h12 => ∃ z14 : Int, r = some (av_I z14) ∧ hb s h12 ∧ ((z14 = 0 → ∀ x32 : Int, x32 = h12.2.1 170 12 → -2147483648 ≤ x32 → x32 ≤ 2147483647 → ∀ h33 : ah_T, h33 = st_i h12 170 13 x32 → ∀ x35 : Int, x35 = h33.2.1 170 11 → -2147483648 ≤ x35 → x35 ≤ 2147483647 → ((-2147483648) ≤ (-x35 - 10) ∧ (-x35 - 10) ≤ 2147483647) ∧ Q (some (av_I (-x35 - 10))) h33) ∧ (¬ z14 = 0 → con G 1 0 0 m_MD_keep [av_R (some 170)] h12 (fun r h15 => r = none ∧ hb s h15 ∧ ∀ h18 : ah_T, h18 = st_i h15 170 80 0 → ∀ h20 : ah_T, h20 = st_i h18 170 85 0 → ∀ h22 : ah_T, h22 = st_i h20 170 89 0 → ∀ h24 : ah_T, h24 = st_i h22 170 91 0 → ∀ h26 : ah_T, h26 = st_i h24 170 98 0 → ∀ h28 : ah_T, h28 = st_i h26 170 104 0 → ∀ h30 : ah_T, h30 = st_i h28 170 105 0 → X95 (0) (0) h30))))
theorem b_MD_score_0 {G : cx_T} {s : Nat} {h : ah_T} {Q : Option av_T → ah_T → Prop} {X95 : Int → Int → ah_T → Prop} (hX95 : ∀ (v1 : Int) (v2 : Int) (h : ah_T), hb s h → X95 v1 v2 h → aw G (rm_R 8 0 0) m_MD_score 0 0 95 [some (av_R (some 170)), some (av_I v1), some (av_I v2)] [] h Q) (hb0 : hb s h) (H : B_MD_score_0 G s h Q X95) : aw G (rm_R 8 0 0) m_MD_score 0 0 0 [some (av_R (some 170)), none, none] [] h Q := by
  unfold B_MD_score_0 at H
  have hS : isS s := hb0.2.1
  refine A_aload_n 0 d_MD_score_0 rfl rfl ?_
  refine A_aload_n 0 d_MD_score_1 rfl rfl ?_
  refine A_getIf T_ok d_MD_score_2 f_MD_226 (hb_s hb0 sf_170) (fun x1 ex1 lx1 ux1 => ?_)
  replace H := H x1 ex1 lx1 ux1
  refine A_putI T_ok d_MD_score_5 f_MD_249 (hb_s hb0 sf_170) fin_f ?_
  refine A_hn (fun h2 eh2 => ?_)
  have hb3 := hb_i hb0 eh2
  replace H := H h2 eh2
  refine A_aload_n 0 d_MD_score_8 rfl rfl ?_
  refine A_pc (pc' := 9) rfl ?_
  refine A_iconst d_MD_score_9 rfl ?_
  refine A_putI T_ok d_MD_score_10 f_MD_226 (hb_s hb3 sf_170) fin_f ?_
  refine A_hn (fun h4 eh4 => ?_)
  have hb5 := hb_i hb3 eh4
  replace H := H h4 eh4
  refine A_aload_n 0 d_MD_score_13 rfl rfl ?_
  refine A_iconst d_MD_score_14 rfl ?_
  refine A_putI T_ok d_MD_score_15 f_MD_252 (hb_s hb5 sf_170) fin_f ?_
  refine A_hn (fun h6 eh6 => ?_)
  have hb7 := hb_i hb5 eh6
  replace H := H h6 eh6
  refine A_aload_n 0 d_MD_score_18 rfl rfl ?_
  refine A_pc (pc' := 19) rfl ?_
  refine A_iconst d_MD_score_19 rfl ?_
  refine A_putI T_ok d_MD_score_20 f_MD_233 (hb_s hb7 sf_170) fin_f ?_
  refine A_hn (fun h8 eh8 => ?_)
  have hb9 := hb_i hb7 eh8
  replace H := H h8 eh8
  refine A_aload_n 0 d_MD_score_23 rfl rfl ?_
  refine A_bipush d_MD_score_24 rfl ?_
  refine A_putI T_ok d_MD_score_26 f_MD_13 (hb_s hb9 sf_170) fin_f ?_
  refine A_hn (fun h10 eh10 => ?_)
  have hb11 := hb_i hb9 eh10
  replace H := H h10 eh10
  refine A_aload_n 0 d_MD_score_29 rfl rfl ?_
  refine A_pc (pc' := 30) rfl ?_
  refine A_callV0 m_MD_parse T_ok d_MD_score_30 l_MD_465 k_MD_parse (hb_s hb11 sf_170) rfl (by decide +kernel) (by decide) (Nat.le_of_ble_eq_true rfl) H (fun r h12 hq => ?_)
  clear H
  obtain ⟨z14, rfl, hb13, H⟩ := hq
  refine A_if_ne (tgt := 52) d_MD_score_33 (by decide) (fun c => ?_) (fun c => ?_)
  · replace H := H.2 c
    refine A_aload_n 0 d_MD_score_52 rfl rfl ?_
    refine A_callV0 m_MD_keep T_ok d_MD_score_53 l_MD_468 k_MD_keep (hb_s hb13 sf_170) rfl (by decide +kernel) (by decide) (Nat.le_of_ble_eq_true rfl) H (fun r h15 hq => ?_)
    clear H
    obtain ⟨rfl, hb16, H⟩ := hq
    refine A_aload_n 0 d_MD_score_56 rfl rfl ?_
    refine A_iconst d_MD_score_57 rfl ?_
    refine A_putI T_ok d_MD_score_58 f_MD_471 (hb_s hb16 sf_170) fin_f ?_
    refine A_hn (fun h18 eh18 => ?_)
    have hb19 := hb_i hb16 eh18
    replace H := H h18 eh18
    refine A_aload_n 0 d_MD_score_61 rfl rfl ?_
    refine A_iconst d_MD_score_62 rfl ?_
    refine A_pc (pc' := 63) rfl ?_
    refine A_putI T_ok d_MD_score_63 f_MD_474 (hb_s hb19 sf_170) fin_f ?_
    refine A_hn (fun h20 eh20 => ?_)
    have hb21 := hb_i hb19 eh20
    replace H := H h20 eh20
    refine A_aload_n 0 d_MD_score_66 rfl rfl ?_
    refine A_iconst d_MD_score_67 rfl ?_
    refine A_putI T_ok d_MD_score_68 f_MD_477 (hb_s hb21 sf_170) fin_f ?_
    refine A_hn (fun h22 eh22 => ?_)
    have hb23 := hb_i hb21 eh22
    replace H := H h22 eh22
    refine A_aload_n 0 d_MD_score_71 rfl rfl ?_
    refine A_iconst d_MD_score_72 rfl ?_
    refine A_pc (pc' := 73) rfl ?_
    refine A_putI T_ok d_MD_score_73 f_MD_480 (hb_s hb23 sf_170) fin_f ?_
    refine A_hn (fun h24 eh24 => ?_)
    have hb25 := hb_i hb23 eh24
    replace H := H h24 eh24
    refine A_aload_n 0 d_MD_score_76 rfl rfl ?_
    refine A_iconst d_MD_score_77 rfl ?_
    refine A_putI T_ok d_MD_score_78 f_MD_483 (hb_s hb25 sf_170) fin_f ?_
    refine A_hn (fun h26 eh26 => ?_)
    have hb27 := hb_i hb25 eh26
    replace H := H h26 eh26
    refine A_aload_n 0 d_MD_score_81 rfl rfl ?_
    refine A_iconst d_MD_score_82 rfl ?_
    refine A_pc (pc' := 83) rfl ?_
    refine A_putI T_ok d_MD_score_83 f_MD_486 (hb_s hb27 sf_170) fin_f ?_
    refine A_hn (fun h28 eh28 => ?_)
    have hb29 := hb_i hb27 eh28
    replace H := H h28 eh28
    refine A_aload_n 0 d_MD_score_86 rfl rfl ?_
    refine A_iconst d_MD_score_87 rfl ?_
    refine A_putI T_ok d_MD_score_88 f_MD_489 (hb_s hb29 sf_170) fin_f ?_
    refine A_hn (fun h30 eh30 => ?_)
    have hb31 := hb_i hb29 eh30
    replace H := H h30 eh30
    refine A_iconst d_MD_score_91 rfl ?_
    refine A_istore_n 1 (L' := [some (av_R (some 170)), some (av_I 0), none]) d_MD_score_92 rfl (Nat.le_of_ble_eq_true rfl) rfl ?_
    refine A_pc (pc' := 93) rfl ?_
    refine A_iconst d_MD_score_93 rfl ?_
    refine A_istore_n 2 (L' := [some (av_R (some 170)), some (av_I 0), some (av_I 0)]) d_MD_score_94 rfl (Nat.le_of_ble_eq_true rfl) rfl ?_
    refine A_pc (pc' := 95) rfl ?_
    exact hX95 (0) (0) h30  hb31 H
  · replace H := H.1 c
    refine A_aload_n 0 d_MD_score_36 rfl rfl ?_
    refine A_aload_n 0 d_MD_score_37 rfl rfl ?_
    refine A_getIf T_ok d_MD_score_38 f_MD_236 (hb_s hb13 sf_170) (fun x32 ex32 lx32 ux32 => ?_)
    replace H := H x32 ex32 lx32 ux32
    refine A_putI T_ok d_MD_score_41 f_MD_13 (hb_s hb13 sf_170) fin_f ?_
    refine A_hn (fun h33 eh33 => ?_)
    have hb34 := hb_i hb13 eh33
    replace H := H h33 eh33
    refine A_bipush d_MD_score_44 rfl ?_
    refine A_pc (pc' := 46) rfl ?_
    refine A_aload_n 0 d_MD_score_46 rfl rfl ?_
    refine A_getIf T_ok d_MD_score_47 f_MD_233 (hb_s hb34 sf_170) (fun x35 ex35 lx35 ux35 => ?_)
    replace H := H x35 ex35 lx35 ux35
    have g36 := H.1
    replace H := H.2
    refine A_isubv (z := (-x35 - 10)) d_MD_score_50 (w32_to (by omega) (by unfold i32; omega)) ?_
    exact A_iret d_MD_score_51 (by decide) rfl H
theorem c_MD_score {G : cx_T} {s : Nat} {h : ah_T} {Q : Option av_T → ah_T → Prop} {X95 : Int → Int → ah_T → Prop} (hX95 : ∀ (v1 : Int) (v2 : Int) (h : ah_T), hb s h → X95 v1 v2 h → aw G (rm_R 8 0 0) m_MD_score 0 0 95 [some (av_R (some 170)), some (av_I v1), some (av_I v2)] [] h Q) (hb0 : hb s h) (H : B_MD_score_0 G s h Q X95) : con G 8 0 0 m_MD_score [av_R (some 170)] h Q := by
  have hS : isS s := hb0.2.1
  refine con_of (L := [some (av_R (some 170)), none, none]) (by decide +kernel) (Nat.le_of_ble_eq_true rfl) rfl ?_
  exact b_MD_score_0  hX95 hb0 (H )
