/-! ===== verification conditions, 5232 ===== -/
def B_MD_ratioTop_0 (G : cx_T) (s : Nat) (a1 : Int) (h : ah_T) (Q : Option av_T → ah_T → Prop) : Prop :=
 ((a1 = 1 → Q (some (av_I 16)) h) ∧ (a1 = 2 → Q (some (av_I 9)) h) ∧ (a1 = 3 → Q (some (av_I 6)) h) ∧ (a1 = 4 → Q (some (av_I 5)) h) ∧ (a1 = 5 → Q (some (av_I 4)) h) ∧ (a1 = 6 → Q (some (av_I 45)) h) ∧ (a1 = 7 → Q (some (av_I 3)) h) ∧ (a1 = 8 → Q (some (av_I 8)) h) ∧ (a1 = 9 → Q (some (av_I 5)) h) ∧ (a1 = 10 → Q (some (av_I 9)) h) ∧ (a1 = 11 → Q (some (av_I 15)) h) ∧ ((a1 < 1 ∨ 11 < a1) → Q (some (av_I 1)) h))
theorem b_MD_ratioTop_0 {G : cx_T} {s : Nat} {a1 : Int} {h : ah_T} {Q : Option av_T → ah_T → Prop} (hb0 : hb s h) (H : B_MD_ratioTop_0 G s a1 h Q ) : aw G (rm_R 0 0 0) m_MD_ratioTop 0 0 0 [some (av_R (some 170)), some (av_I a1)] [] h Q := by
  unfold B_MD_ratioTop_0 at H
  have hS : isS s := hb0.2.1
  refine A_iload_n 1 d_MD_ratioTop_0 rfl rfl ?_
  rcases (by omega : a1 = 1 ∨ a1 = 2 ∨ a1 = 3 ∨ a1 = 4 ∨ a1 = 5 ∨ a1 = 6 ∨ a1 = 7 ∨ a1 = 8 ∨ a1 = 9 ∨ a1 = 10 ∨ a1 = 11 ∨ (a1 < 1 ∨ 11 < a1)) with c | c | c | c | c | c | c | c | c | c | c | c
  · replace H := H.1 c
    refine A_tabIn (tgt := 60) d_MD_ratioTop_1 (by omega) (by omega) (by rw [c]; rfl) (by decide) ?_
    refine A_bipush d_MD_ratioTop_60 rfl ?_
    exact A_iret d_MD_ratioTop_62 (by decide) rfl H
  · replace H := H.2.1 c
    refine A_tabIn (tgt := 63) d_MD_ratioTop_1 (by omega) (by omega) (by rw [c]; rfl) (by decide) ?_
    refine A_bipush d_MD_ratioTop_63 rfl ?_
    exact A_iret d_MD_ratioTop_65 (by decide) rfl H
  · replace H := H.2.2.1 c
    refine A_tabIn (tgt := 66) d_MD_ratioTop_1 (by omega) (by omega) (by rw [c]; rfl) (by decide) ?_
    refine A_bipush d_MD_ratioTop_66 rfl ?_
    exact A_iret d_MD_ratioTop_68 (by decide) rfl H
  · replace H := H.2.2.2.1 c
    refine A_tabIn (tgt := 69) d_MD_ratioTop_1 (by omega) (by omega) (by rw [c]; rfl) (by decide) ?_
    refine A_iconst d_MD_ratioTop_69 rfl ?_
    exact A_iret d_MD_ratioTop_70 (by decide) rfl H
  · replace H := H.2.2.2.2.1 c
    refine A_tabIn (tgt := 71) d_MD_ratioTop_1 (by omega) (by omega) (by rw [c]; rfl) (by decide) ?_
    refine A_iconst d_MD_ratioTop_71 rfl ?_
    exact A_iret d_MD_ratioTop_72 (by decide) rfl H
  · replace H := H.2.2.2.2.2.1 c
    refine A_tabIn (tgt := 73) d_MD_ratioTop_1 (by omega) (by omega) (by rw [c]; rfl) (by decide) ?_
    refine A_bipush d_MD_ratioTop_73 rfl ?_
    exact A_iret d_MD_ratioTop_75 (by decide) rfl H
  · replace H := H.2.2.2.2.2.2.1 c
    refine A_tabIn (tgt := 76) d_MD_ratioTop_1 (by omega) (by omega) (by rw [c]; rfl) (by decide) ?_
    refine A_iconst d_MD_ratioTop_76 rfl ?_
    exact A_iret d_MD_ratioTop_77 (by decide) rfl H
  · replace H := H.2.2.2.2.2.2.2.1 c
    refine A_tabIn (tgt := 78) d_MD_ratioTop_1 (by omega) (by omega) (by rw [c]; rfl) (by decide) ?_
    refine A_bipush d_MD_ratioTop_78 rfl ?_
    exact A_iret d_MD_ratioTop_80 (by decide) rfl H
  · replace H := H.2.2.2.2.2.2.2.2.1 c
    refine A_tabIn (tgt := 81) d_MD_ratioTop_1 (by omega) (by omega) (by rw [c]; rfl) (by decide) ?_
    refine A_iconst d_MD_ratioTop_81 rfl ?_
    exact A_iret d_MD_ratioTop_82 (by decide) rfl H
  · replace H := H.2.2.2.2.2.2.2.2.2.1 c
    refine A_tabIn (tgt := 83) d_MD_ratioTop_1 (by omega) (by omega) (by rw [c]; rfl) (by decide) ?_
    refine A_bipush d_MD_ratioTop_83 rfl ?_
    exact A_iret d_MD_ratioTop_85 (by decide) rfl H
  · replace H := H.2.2.2.2.2.2.2.2.2.2.1 c
    refine A_tabIn (tgt := 86) d_MD_ratioTop_1 (by omega) (by omega) (by rw [c]; rfl) (by decide) ?_
    refine A_bipush d_MD_ratioTop_86 rfl ?_
    exact A_iret d_MD_ratioTop_88 (by decide) rfl H
  · replace H := H.2.2.2.2.2.2.2.2.2.2.2 c
    refine A_tabOut (tgt := 89) d_MD_ratioTop_1 (by omega) (by decide) ?_
    refine A_iconst d_MD_ratioTop_89 rfl ?_
    exact A_iret d_MD_ratioTop_90 (by decide) rfl H
theorem c_MD_ratioTop {G : cx_T} {s : Nat} {a1 : Int} {h : ah_T} {Q : Option av_T → ah_T → Prop} (hb0 : hb s h) (H : i32 a1 → B_MD_ratioTop_0 G s a1 h Q ) : con G 0 0 0 m_MD_ratioTop [av_R (some 170), av_I a1] h Q := by
  have hS : isS s := hb0.2.1
  refine con_of (L := [some (av_R (some 170)), some (av_I a1)]) (by decide +kernel) (Nat.le_of_ble_eq_true rfl) rfl ?_
  refine A_locI 1 rfl (fun ra1 => ?_)
  exact b_MD_ratioTop_0   hb0 (H ra1)
def B_MD_ratioLow_0 (G : cx_T) (s : Nat) (a1 : Int) (h : ah_T) (Q : Option av_T → ah_T → Prop) : Prop :=
 ((a1 = 1 → Q (some (av_I 15)) h) ∧ (a1 = 2 → Q (some (av_I 8)) h) ∧ (a1 = 3 → Q (some (av_I 5)) h) ∧ (a1 = 4 → Q (some (av_I 4)) h) ∧ (a1 = 5 → Q (some (av_I 3)) h) ∧ (a1 = 6 → Q (some (av_I 32)) h) ∧ (a1 = 7 → Q (some (av_I 2)) h) ∧ (a1 = 8 → Q (some (av_I 5)) h) ∧ (a1 = 9 → Q (some (av_I 3)) h) ∧ (a1 = 10 → Q (some (av_I 5)) h) ∧ (a1 = 11 → Q (some (av_I 8)) h) ∧ ((a1 < 1 ∨ 11 < a1) → Q (some (av_I 1)) h))
theorem b_MD_ratioLow_0 {G : cx_T} {s : Nat} {a1 : Int} {h : ah_T} {Q : Option av_T → ah_T → Prop} (hb0 : hb s h) (H : B_MD_ratioLow_0 G s a1 h Q ) : aw G (rm_R 0 0 0) m_MD_ratioLow 0 0 0 [some (av_R (some 170)), some (av_I a1)] [] h Q := by
  unfold B_MD_ratioLow_0 at H
  have hS : isS s := hb0.2.1
  refine A_iload_n 1 d_MD_ratioLow_0 rfl rfl ?_
  rcases (by omega : a1 = 1 ∨ a1 = 2 ∨ a1 = 3 ∨ a1 = 4 ∨ a1 = 5 ∨ a1 = 6 ∨ a1 = 7 ∨ a1 = 8 ∨ a1 = 9 ∨ a1 = 10 ∨ a1 = 11 ∨ (a1 < 1 ∨ 11 < a1)) with c | c | c | c | c | c | c | c | c | c | c | c
  · replace H := H.1 c
    refine A_tabIn (tgt := 60) d_MD_ratioLow_1 (by omega) (by omega) (by rw [c]; rfl) (by decide) ?_
    refine A_bipush d_MD_ratioLow_60 rfl ?_
    exact A_iret d_MD_ratioLow_62 (by decide) rfl H
  · replace H := H.2.1 c
    refine A_tabIn (tgt := 63) d_MD_ratioLow_1 (by omega) (by omega) (by rw [c]; rfl) (by decide) ?_
    refine A_bipush d_MD_ratioLow_63 rfl ?_
    exact A_iret d_MD_ratioLow_65 (by decide) rfl H
  · replace H := H.2.2.1 c
    refine A_tabIn (tgt := 66) d_MD_ratioLow_1 (by omega) (by omega) (by rw [c]; rfl) (by decide) ?_
    refine A_iconst d_MD_ratioLow_66 rfl ?_
    exact A_iret d_MD_ratioLow_67 (by decide) rfl H
  · replace H := H.2.2.2.1 c
    refine A_tabIn (tgt := 68) d_MD_ratioLow_1 (by omega) (by omega) (by rw [c]; rfl) (by decide) ?_
    refine A_iconst d_MD_ratioLow_68 rfl ?_
    exact A_iret d_MD_ratioLow_69 (by decide) rfl H
  · replace H := H.2.2.2.2.1 c
    refine A_tabIn (tgt := 70) d_MD_ratioLow_1 (by omega) (by omega) (by rw [c]; rfl) (by decide) ?_
    refine A_iconst d_MD_ratioLow_70 rfl ?_
    exact A_iret d_MD_ratioLow_71 (by decide) rfl H
  · replace H := H.2.2.2.2.2.1 c
    refine A_tabIn (tgt := 72) d_MD_ratioLow_1 (by omega) (by omega) (by rw [c]; rfl) (by decide) ?_
    refine A_bipush d_MD_ratioLow_72 rfl ?_
    exact A_iret d_MD_ratioLow_74 (by decide) rfl H
  · replace H := H.2.2.2.2.2.2.1 c
    refine A_tabIn (tgt := 75) d_MD_ratioLow_1 (by omega) (by omega) (by rw [c]; rfl) (by decide) ?_
    refine A_iconst d_MD_ratioLow_75 rfl ?_
    exact A_iret d_MD_ratioLow_76 (by decide) rfl H
  · replace H := H.2.2.2.2.2.2.2.1 c
    refine A_tabIn (tgt := 77) d_MD_ratioLow_1 (by omega) (by omega) (by rw [c]; rfl) (by decide) ?_
    refine A_iconst d_MD_ratioLow_77 rfl ?_
    exact A_iret d_MD_ratioLow_78 (by decide) rfl H
  · replace H := H.2.2.2.2.2.2.2.2.1 c
    refine A_tabIn (tgt := 79) d_MD_ratioLow_1 (by omega) (by omega) (by rw [c]; rfl) (by decide) ?_
    refine A_iconst d_MD_ratioLow_79 rfl ?_
    exact A_iret d_MD_ratioLow_80 (by decide) rfl H
  · replace H := H.2.2.2.2.2.2.2.2.2.1 c
    refine A_tabIn (tgt := 81) d_MD_ratioLow_1 (by omega) (by omega) (by rw [c]; rfl) (by decide) ?_
    refine A_iconst d_MD_ratioLow_81 rfl ?_
    exact A_iret d_MD_ratioLow_82 (by decide) rfl H
  · replace H := H.2.2.2.2.2.2.2.2.2.2.1 c
    refine A_tabIn (tgt := 83) d_MD_ratioLow_1 (by omega) (by omega) (by rw [c]; rfl) (by decide) ?_
    refine A_bipush d_MD_ratioLow_83 rfl ?_
    exact A_iret d_MD_ratioLow_85 (by decide) rfl H
  · replace H := H.2.2.2.2.2.2.2.2.2.2.2 c
    refine A_tabOut (tgt := 86) d_MD_ratioLow_1 (by omega) (by decide) ?_
    refine A_iconst d_MD_ratioLow_86 rfl ?_
    exact A_iret d_MD_ratioLow_87 (by decide) rfl H
theorem c_MD_ratioLow {G : cx_T} {s : Nat} {a1 : Int} {h : ah_T} {Q : Option av_T → ah_T → Prop} (hb0 : hb s h) (H : i32 a1 → B_MD_ratioLow_0 G s a1 h Q ) : con G 0 0 0 m_MD_ratioLow [av_R (some 170), av_I a1] h Q := by
  have hS : isS s := hb0.2.1
  refine con_of (L := [some (av_R (some 170)), some (av_I a1)]) (by decide +kernel) (Nat.le_of_ble_eq_true rfl) rfl ?_
  refine A_locI 1 rfl (fun ra1 => ?_)
  exact b_MD_ratioLow_0   hb0 (H ra1)
def B_MD_product_38 (G : cx_T) (s : Nat) (a1 : Int) (a2 : Int) (a3 : Int) (v7 : Int) (v9 : Int) (v11 : Int) (h : ah_T) (Q : Option av_T → ah_T → Prop) (X12 : Int → Int → Int → ah_T → Prop) : Prop :=
 ((-9223372036854775808) ≤ (2 * v9) ∧ (2 * v9) ≤ 9223372036854775807) ∧ (a3 ≠ 0) ∧ ∀ x2 : Int, x2 = ((2 * v9)).tmod a3 → (-9223372036854775808) ≤ x2 → x2 ≤ 9223372036854775807 → ∀ x3 : Int, x3 = ((Int64.ofInt v11) >>> ((Int32.ofInt 1).toInt64 &&& 63)).toInt → (-9223372036854775808) ≤ x3 → x3 ≤ 9223372036854775807 → X12 (v7) (x2) (x3) h
theorem b_MD_product_38 {G : cx_T} {s : Nat} {a1 : Int} {a2 : Int} {a3 : Int} {v7 : Int} {v9 : Int} {v11 : Int} {h : ah_T} {Q : Option av_T → ah_T → Prop} {X12 : Int → Int → Int → ah_T → Prop} (hX12 : ∀ (v7 : Int) (v9 : Int) (v11 : Int) (h : ah_T), hb s h → X12 v7 v9 v11 h → aw G (rm_R 0 0 0) m_MD_product 0 0 12 [none, none, none, none, none, some (av_L a3), none, some (av_L v7), none, some (av_L v9), none, some (av_L v11), none] [] h Q) (hb0 : hb s h) (H : B_MD_product_38 G s a1 a2 a3 v7 v9 v11 h Q X12) : aw G (rm_R 0 0 0) m_MD_product 0 0 38 [none, none, none, none, none, some (av_L a3), none, some (av_L v7), none, some (av_L v9), none, some (av_L v11), none] [] h Q := by
  unfold B_MD_product_38 at H
  have hS : isS s := hb0.2.1
  refine A_ldc2 (z := 2) d_MD_product_38 cst_MD_452 rfl ?_
  refine A_lload d_MD_product_41 rfl ?_
  have g1 := H.1
  replace H := H.2
  refine A_lmulv (z := (2 * v9)) d_MD_product_43 (w64_to (by omega) (by unfold i64; omega)) ?_
  refine A_lload d_MD_product_44 rfl ?_
  have H0 := H.1
  replace H := H.2
  refine A_lremc d_MD_product_46 H0 (fun x2 ex2 lx2 ux2 => ?_)
  replace H := H x2 ex2 lx2 ux2
  refine A_pc (pc' := 47) rfl ?_
  refine A_lstore (L' := [none, none, none, none, none, some (av_L a3), none, some (av_L v7), none, some (av_L x2), none, some (av_L v11), none]) d_MD_product_47 (Nat.le_of_ble_eq_true rfl) rfl ?_
  refine A_lload d_MD_product_49 rfl ?_
  refine A_iconst d_MD_product_51 rfl ?_
  refine A_lshr d_MD_product_52 ?_
  refine A_nrL (fun x3 ex3 lx3 ux3 => ?_)
  replace H := H x3 ex3 lx3 ux3
  refine A_lstore (L' := [none, none, none, none, none, some (av_L a3), none, some (av_L v7), none, some (av_L x2), none, some (av_L x3), none]) d_MD_product_53 (Nat.le_of_ble_eq_true rfl) rfl ?_
  refine A_goto (tgt := 12) d_MD_product_55 (by decide) ?_
  refine A_pc (pc' := 12) rfl ?_
  exact hX12 (v7) (x2) (x3) h  hb0 H
def B_MD_product_12 (G : cx_T) (s : Nat) (a1 : Int) (a2 : Int) (a3 : Int) (v7 : Int) (v9 : Int) (v11 : Int) (h : ah_T) (Q : Option av_T → ah_T → Prop) (X12 : Int → Int → Int → ah_T → Prop) : Prop :=
 ((v11 ≤ 0 → Q (some (av_L v7)) h) ∧ (¬ v11 ≤ 0 → ∀ x2 : Int, x2 = ((Int64.ofInt v11) &&& (Int64.ofInt 1)).toInt → (-9223372036854775808) ≤ x2 → x2 ≤ 9223372036854775807 → ((x2 = 1 → ((-9223372036854775808) ≤ (v7 + v9) ∧ (v7 + v9) ≤ 9223372036854775807) ∧ (a3 ≠ 0) ∧ ∀ x5 : Int, x5 = ((v7 + v9)).tmod a3 → (-9223372036854775808) ≤ x5 → x5 ≤ 9223372036854775807 → B_MD_product_38 G s a1 a2 a3 (x5) (v9) (v11) h Q X12) ∧ (¬ x2 = 1 → B_MD_product_38 G s a1 a2 a3 (v7) (v9) (v11) h Q X12))))
theorem b_MD_product_12 {G : cx_T} {s : Nat} {a1 : Int} {a2 : Int} {a3 : Int} {v7 : Int} {v9 : Int} {v11 : Int} {h : ah_T} {Q : Option av_T → ah_T → Prop} {X12 : Int → Int → Int → ah_T → Prop} (hX12 : ∀ (v7 : Int) (v9 : Int) (v11 : Int) (h : ah_T), hb s h → X12 v7 v9 v11 h → aw G (rm_R 0 0 0) m_MD_product 0 0 12 [none, none, none, none, none, some (av_L a3), none, some (av_L v7), none, some (av_L v9), none, some (av_L v11), none] [] h Q) (hb0 : hb s h) (H : B_MD_product_12 G s a1 a2 a3 v7 v9 v11 h Q X12) : aw G (rm_R 0 0 0) m_MD_product 0 0 12 [none, none, none, none, none, some (av_L a3), none, some (av_L v7), none, some (av_L v9), none, some (av_L v11), none] [] h Q := by
  unfold B_MD_product_12 at H
  have hS : isS s := hb0.2.1
  refine A_lload d_MD_product_12 rfl ?_
  refine A_lconst_0 d_MD_product_14 ?_
  refine A_lcmpn d_MD_product_15 (fun x1 lx1 ex1 gx1 _ _ => ?_)
  refine A_if_le (tgt := 58) d_MD_product_16 (by decide) (fun c => ?_) (fun c => ?_)
  · replace H := H.1 (by omega)
    refine A_lload d_MD_product_58 rfl ?_
    exact A_lret d_MD_product_60 (by decide) rfl H
  · replace H := H.2 (by omega)
    refine A_lload d_MD_product_19 rfl ?_
    refine A_lconst_1 d_MD_product_21 ?_
    refine A_land d_MD_product_22 ?_
    refine A_nrL (fun x2 ex2 lx2 ux2 => ?_)
    replace H := H x2 ex2 lx2 ux2
    refine A_lconst_1 d_MD_product_23 ?_
    refine A_lcmpn d_MD_product_24 (fun x3 lx3 ex3 gx3 _ _ => ?_)
    refine A_pc (pc' := 25) rfl ?_
    refine A_if_ne (tgt := 38) d_MD_product_25 (by decide) (fun c => ?_) (fun c => ?_)
    · replace H := H.2 (by omega)
      refine A_pc (pc' := 38) rfl ?_
      exact b_MD_product_38  hX12  hb0 H
    · replace H := H.1 (by omega)
      refine A_lload d_MD_product_28 rfl ?_
      refine A_lload d_MD_product_30 rfl ?_
      have g4 := H.1
      replace H := H.2
      refine A_laddv (z := (v7 + v9)) d_MD_product_32 (w64_to (by omega) (by unfold i64; omega)) ?_
      refine A_lload d_MD_product_33 rfl ?_
      have H0 := H.1
      replace H := H.2
      refine A_lremc d_MD_product_35 H0 (fun x5 ex5 lx5 ux5 => ?_)
      replace H := H x5 ex5 lx5 ux5
      refine A_pc (pc' := 36) rfl ?_
      refine A_lstore (L' := [none, none, none, none, none, some (av_L a3), none, some (av_L x5), none, some (av_L v9), none, some (av_L v11), none]) d_MD_product_36 (Nat.le_of_ble_eq_true rfl) rfl ?_
      refine A_pc (pc' := 38) rfl ?_
      exact b_MD_product_38  hX12  hb0 H
theorem lp_MD_product_12 {G : cx_T} {s : Nat} {a1 : Int} {a2 : Int} {a3 : Int} {Q : Option av_T → ah_T → Prop} (I : Int → Int → Int → ah_T → Prop) (μ : Int → Int → Int → ah_T → Nat) (hI : ∀ (v7 : Int) (v9 : Int) (v11 : Int) (h : ah_T), hb s h → I v7 v9 v11 h → B_MD_product_12 G s a1 a2 a3 v7 v9 v11 h Q (fun v7' v9' v11' h' => I v7' v9' v11' h' ∧ μ v7' v9' v11' h' < μ v7 v9 v11 h)) : ∀ (v7 : Int) (v9 : Int) (v11 : Int) (h : ah_T), hb s h → I v7 v9 v11 h → aw G (rm_R 0 0 0) m_MD_product 0 0 12 [none, none, none, none, none, some (av_L a3), none, some (av_L v7), none, some (av_L v9), none, some (av_L v11), none] [] h Q := by
  have key : ∀ (n : Nat) (v7 : Int) (v9 : Int) (v11 : Int) (h : ah_T), hb s h → I v7 v9 v11 h → μ v7 v9 v11 h < n → aw G (rm_R 0 0 0) m_MD_product 0 0 12 [none, none, none, none, none, some (av_L a3), none, some (av_L v7), none, some (av_L v9), none, some (av_L v11), none] [] h Q := by
    intro n
    induction n with
    | zero => intro v7 v9 v11 h  hb0 hi hm; omega
    | succ n ih => intro v7 v9 v11 h  hb0 hi hm; exact b_MD_product_12  (fun v7' v9' v11' h'  hb' hx => ih v7' v9' v11' h'  hb' hx.1 (by have := hx.2; omega))  hb0 (hI v7 v9 v11 h  hb0 hi)
  exact fun v7 v9 v11 h  hb0 hi => key _ v7 v9 v11 h  hb0 hi (Nat.lt_succ_self _)
def B_MD_product_0 (G : cx_T) (s : Nat) (a1 : Int) (a2 : Int) (a3 : Int) (h : ah_T) (Q : Option av_T → ah_T → Prop) (X12 : Int → Int → Int → ah_T → Prop) : Prop :=
 (a3 ≠ 0) ∧ ∀ x1 : Int, x1 = (a2).tmod a3 → (-9223372036854775808) ≤ x1 → x1 ≤ 9223372036854775807 → X12 (0) (x1) (a1) h
theorem b_MD_product_0 {G : cx_T} {s : Nat} {a1 : Int} {a2 : Int} {a3 : Int} {h : ah_T} {Q : Option av_T → ah_T → Prop} {X12 : Int → Int → Int → ah_T → Prop} (hX12 : ∀ (v7 : Int) (v9 : Int) (v11 : Int) (h : ah_T), hb s h → X12 v7 v9 v11 h → aw G (rm_R 0 0 0) m_MD_product 0 0 12 [none, none, none, none, none, some (av_L a3), none, some (av_L v7), none, some (av_L v9), none, some (av_L v11), none] [] h Q) (hb0 : hb s h) (H : B_MD_product_0 G s a1 a2 a3 h Q X12) : aw G (rm_R 0 0 0) m_MD_product 0 0 0 [some (av_R (some 170)), some (av_L a1), none, some (av_L a2), none, some (av_L a3), none, none, none, none, none, none, none] [] h Q := by
  unfold B_MD_product_0 at H
  have hS : isS s := hb0.2.1
  refine A_lconst_0 d_MD_product_0 ?_
  refine A_lstore (L' := [some (av_R (some 170)), some (av_L a1), none, some (av_L a2), none, some (av_L a3), none, some (av_L 0), none, none, none, none, none]) d_MD_product_1 (Nat.le_of_ble_eq_true rfl) rfl ?_
  refine A_lload_n 3 d_MD_product_3 rfl rfl ?_
  refine A_lload d_MD_product_4 rfl ?_
  have H0 := H.1
  replace H := H.2
  refine A_lremc d_MD_product_6 H0 (fun x1 ex1 lx1 ux1 => ?_)
  replace H := H x1 ex1 lx1 ux1
  refine A_pc (pc' := 7) rfl ?_
  refine A_lstore (L' := [some (av_R (some 170)), some (av_L a1), none, some (av_L a2), none, some (av_L a3), none, some (av_L 0), none, some (av_L x1), none, none, none]) d_MD_product_7 (Nat.le_of_ble_eq_true rfl) rfl ?_
  refine A_lload_n 1 d_MD_product_9 rfl rfl ?_
  refine A_lstore (L' := [some (av_R (some 170)), some (av_L a1), none, some (av_L a2), none, some (av_L a3), none, some (av_L 0), none, some (av_L x1), none, some (av_L a1), none]) d_MD_product_10 (Nat.le_of_ble_eq_true rfl) rfl ?_
  refine A_pc (pc' := 12) rfl ?_
  refine A_free (L' := [none, none, none, none, none, some (av_L a3), none, some (av_L 0), none, some (av_L x1), none, some (av_L a1), none]) (And.intro rfl (And.intro rfl (And.intro rfl (And.intro rfl trivial)))) ?_
  exact hX12 (0) (x1) (a1) h  hb0 H
theorem c_MD_product {G : cx_T} {s : Nat} {a1 : Int} {a2 : Int} {a3 : Int} {h : ah_T} {Q : Option av_T → ah_T → Prop} {X12 : Int → Int → Int → ah_T → Prop} (hX12 : ∀ (v7 : Int) (v9 : Int) (v11 : Int) (h : ah_T), hb s h → X12 v7 v9 v11 h → aw G (rm_R 0 0 0) m_MD_product 0 0 12 [none, none, none, none, none, some (av_L a3), none, some (av_L v7), none, some (av_L v9), none, some (av_L v11), none] [] h Q) (hb0 : hb s h) (H : i64 a1 → i64 a2 → i64 a3 → B_MD_product_0 G s a1 a2 a3 h Q X12) : con G 0 0 0 m_MD_product [av_R (some 170), av_L a1, av_L a2, av_L a3] h Q := by
  have hS : isS s := hb0.2.1
  refine con_of (L := [some (av_R (some 170)), some (av_L a1), none, some (av_L a2), none, some (av_L a3), none, none, none, none, none, none, none]) (by decide +kernel) (Nat.le_of_ble_eq_true rfl) rfl ?_
  refine A_locL 1 rfl (fun ra1 => ?_)
  refine A_locL 3 rfl (fun ra3 => ?_)
  refine A_locL 5 rfl (fun ra5 => ?_)
  exact b_MD_product_0  hX12 hb0 (H ra1 ra3 ra5)
def B_MD_sound_214 (G : cx_T) (s : Nat) (a1 : Int) (a2 : Int) (a3 : Int) (a4 : Int) (t0 : UInt64) (h : ah_T) (Q : Option av_T → ah_T → Prop) : Prop :=
 (vf_n64 (FP.ddiv (FP.l2d (Int64.ofInt a2)) (FP.l2d (Int64.ofInt a3)))) ∧ (0 ≤ a4 ∧ a4 < 2400) ∧ ∀ x2 : Int, x2 = h.2.2.1 189 (a4).toNat → -9223372036854775808 ≤ x2 → x2 ≤ 9223372036854775807 → ((-9223372036854775808) ≤ (2 * x2) ∧ (2 * x2) ≤ 9223372036854775807) ∧ ∀ x6 : Int, x6 = h.2.2.1 190 (a4).toNat → -9223372036854775808 ≤ x6 → x6 ≤ 9223372036854775807 → con G 1 0 0 m_MD_fraction [av_R (some 170), av_L (2 * x2), av_L x6] h (fun r h7 => r = none ∧ hb s h7 ∧ ∀ x10 : Int, x10 = h7.2.2.1 170 65 → -9223372036854775808 ≤ x10 → x10 ≤ 9223372036854775807 → ∀ x11 : Int, x11 = h7.2.2.1 170 66 → -9223372036854775808 ≤ x11 → x11 ≤ 9223372036854775807 → (vf_n64 (FP.ddiv (FP.l2d (Int64.ofInt x10)) (FP.l2d (Int64.ofInt x11)))) ∧ (vf_n64 (FP.ddiv (FP.ddiv (FP.l2d (Int64.ofInt a2)) (FP.l2d (Int64.ofInt a3))) (FP.ddiv (FP.l2d (Int64.ofInt x10)) (FP.l2d (Int64.ofInt x11))))) ∧ (vf_n64 (FP.dsub FP.dconst1 (FP.ddiv (FP.ddiv (FP.l2d (Int64.ofInt a2)) (FP.l2d (Int64.ofInt a3))) (FP.ddiv (FP.l2d (Int64.ofInt x10)) (FP.l2d (Int64.ofInt x11)))))) ∧ (vf_n64 (FP.dmul 4598175219545276416 t0)) ∧ (vf_n64 (FP.dmul (FP.dmul 4598175219545276416 t0) (FP.dsub FP.dconst1 (FP.ddiv (FP.ddiv (FP.l2d (Int64.ofInt a2)) (FP.l2d (Int64.ofInt a3))) (FP.ddiv (FP.l2d (Int64.ofInt x10)) (FP.l2d (Int64.ofInt x11))))))) ∧ Q (some (av_D (FP.dmul (FP.dmul 4598175219545276416 t0) (FP.dsub FP.dconst1 (FP.ddiv (FP.ddiv (FP.l2d (Int64.ofInt a2)) (FP.l2d (Int64.ofInt a3))) (FP.ddiv (FP.l2d (Int64.ofInt x10)) (FP.l2d (Int64.ofInt x11)))))))) h7)
theorem b_MD_sound_214 {G : cx_T} {s : Nat} {a1 : Int} {a2 : Int} {a3 : Int} {a4 : Int} {t0 : UInt64} {h : ah_T} {Q : Option av_T → ah_T → Prop} (hb0 : hb s h) (H : B_MD_sound_214 G s a1 a2 a3 a4 t0 h Q ) : aw G (rm_R 2 0 0) m_MD_sound 0 0 214 [some (av_R (some 170)), none, some (av_L a2), none, some (av_L a3), none, some (av_I a4), none, none, none, none, none, none, none, none, none, none, none, none, none, none, none, none, none, none, none, none, none, none, none, none] [av_D t0] h Q := by
  unfold B_MD_sound_214 at H
  have hS : isS s := hb0.2.1
  refine A_dstore (L' := [some (av_R (some 170)), none, some (av_L a2), none, some (av_L a3), none, some (av_I a4), none, none, none, none, none, none, none, none, none, none, none, none, none, none, none, none, some (av_D t0), none, none, none, none, none, none, none]) d_MD_sound_214 (Nat.le_of_ble_eq_true rfl) rfl ?_
  refine A_lload_n 2 d_MD_sound_216 rfl rfl ?_
  refine A_l2d d_MD_sound_217 ?_
  refine A_lload d_MD_sound_218 rfl ?_
  refine A_l2d d_MD_sound_220 ?_
  refine A_pc (pc' := 221) rfl ?_
  have H0 := H.1
  replace H := H.2
  refine A_ddiv d_MD_sound_221 H0 ?_
  refine A_dstore (L' := [some (av_R (some 170)), none, some (av_L a2), none, some (av_L a3), none, some (av_I a4), none, none, none, none, none, none, none, none, none, none, none, none, none, none, none, none, some (av_D t0), none, some (av_D (FP.ddiv (FP.l2d (Int64.ofInt a2)) (FP.l2d (Int64.ofInt a3)))), none, none, none, none, none]) d_MD_sound_222 (Nat.le_of_ble_eq_true rfl) rfl ?_
  refine A_aload_n 0 d_MD_sound_224 rfl rfl ?_
  refine A_ldc2 (z := 2) d_MD_sound_225 cst_MD_452 rfl ?_
  refine A_aload_n 0 d_MD_sound_228 rfl rfl ?_
  refine A_getAv (z := some 189) T_ok d_MD_sound_229 f_MD_69 (hb_s hb0 sf_170) (hb_m hb0 rfm_31) ?_
  refine A_pc (pc' := 232) rfl ?_
  refine A_iload d_MD_sound_232 rfl ?_
  have g3 := H.1
  replace H := H.2
  refine A_laloadf d_MD_sound_234 (hb_s hb0 sf_189) g3.1 g3.2 (fun x2 ex2 lx2 ux2 => ?_)
  replace H := H x2 ex2 lx2 ux2
  have g4 := H.1
  replace H := H.2
  refine A_lmulv (z := (2 * x2)) d_MD_sound_235 (w64_to (by omega) (by unfold i64; omega)) ?_
  refine A_aload_n 0 d_MD_sound_236 rfl rfl ?_
  refine A_getAv (z := some 190) T_ok d_MD_sound_237 f_MD_72 (hb_s hb0 sf_170) (hb_m hb0 rfm_32) ?_
  refine A_iload d_MD_sound_240 rfl ?_
  refine A_pc (pc' := 242) rfl ?_
  refine A_laloadf d_MD_sound_242 (hb_s hb0 sf_190) g3.1 g3.2 (fun x6 ex6 lx6 ux6 => ?_)
  replace H := H x6 ex6 lx6 ux6
  refine A_callV2 m_MD_fraction T_ok d_MD_sound_243 l_MD_391 k_MD_fraction (hb_s hb0 sf_170) rfl (by decide +kernel) (by decide) (Nat.le_of_ble_eq_true rfl) H (fun r h7 hq => ?_)
  clear H
  obtain ⟨rfl, hb8, H⟩ := hq
  refine A_aload_n 0 d_MD_sound_246 rfl rfl ?_
  refine A_getLf T_ok d_MD_sound_247 f_MD_385 (hb_s hb8 sf_170) (fun x10 ex10 lx10 ux10 => ?_)
  replace H := H x10 ex10 lx10 ux10
  refine A_l2d d_MD_sound_250 ?_
  refine A_aload_n 0 d_MD_sound_251 rfl rfl ?_
  refine A_getLf T_ok d_MD_sound_252 f_MD_388 (hb_s hb8 sf_170) (fun x11 ex11 lx11 ux11 => ?_)
  replace H := H x11 ex11 lx11 ux11
  refine A_pc (pc' := 255) rfl ?_
  refine A_l2d d_MD_sound_255 ?_
  have H0 := H.1
  replace H := H.2
  refine A_ddiv d_MD_sound_256 H0 ?_
  refine A_dstore (L' := [some (av_R (some 170)), none, some (av_L a2), none, some (av_L a3), none, some (av_I a4), none, none, none, none, none, none, none, none, none, none, none, none, none, none, none, none, some (av_D t0), none, some (av_D (FP.ddiv (FP.l2d (Int64.ofInt a2)) (FP.l2d (Int64.ofInt a3)))), none, some (av_D (FP.ddiv (FP.l2d (Int64.ofInt x10)) (FP.l2d (Int64.ofInt x11)))), none, none, none]) d_MD_sound_257 (Nat.le_of_ble_eq_true rfl) rfl ?_
  refine A_dconst_1 d_MD_sound_259 ?_
  refine A_dload d_MD_sound_260 rfl ?_
  refine A_dload d_MD_sound_262 rfl ?_
  refine A_pc (pc' := 264) rfl ?_
  have H0 := H.1
  replace H := H.2
  refine A_ddiv d_MD_sound_264 H0 ?_
  have H0 := H.1
  replace H := H.2
  refine A_dsub d_MD_sound_265 H0 ?_
  refine A_dstore (L' := [some (av_R (some 170)), none, some (av_L a2), none, some (av_L a3), none, some (av_I a4), none, none, none, none, none, none, none, none, none, none, none, none, none, none, none, none, some (av_D t0), none, some (av_D (FP.ddiv (FP.l2d (Int64.ofInt a2)) (FP.l2d (Int64.ofInt a3)))), none, some (av_D (FP.ddiv (FP.l2d (Int64.ofInt x10)) (FP.l2d (Int64.ofInt x11)))), none, some (av_D (FP.dsub FP.dconst1 (FP.ddiv (FP.ddiv (FP.l2d (Int64.ofInt a2)) (FP.l2d (Int64.ofInt a3))) (FP.ddiv (FP.l2d (Int64.ofInt x10)) (FP.l2d (Int64.ofInt x11)))))), none]) d_MD_sound_266 (Nat.le_of_ble_eq_true rfl) rfl ?_
  refine A_ldc2d (z := 4598175219545276416) d_MD_sound_268 cst_MD_626 ?_
  refine A_dload d_MD_sound_271 rfl ?_
  have H0 := H.1
  replace H := H.2
  refine A_dmul d_MD_sound_273 H0 ?_
  refine A_pc (pc' := 274) rfl ?_
  refine A_dload d_MD_sound_274 rfl ?_
  have H0 := H.1
  replace H := H.2
  refine A_dmul d_MD_sound_276 H0 ?_
  exact A_dret d_MD_sound_277 (by decide) rfl H
def B_MD_sound_66 (G : cx_T) (s : Nat) (a1 : Int) (a2 : Int) (a3 : Int) (a4 : Int) (v9 : Int) (v11 : Int) (v13 : Int) (h : ah_T) (Q : Option av_T → ah_T → Prop) (X66 : Int → Int → Int → ah_T → Prop) : Prop :=
 ((0 ≤ v13 → con G 1 0 0 m_MD_fraction [av_R (some 170), av_L v9, av_L v11] h (fun r h1 => r = none ∧ hb s h1 ∧ ∀ x4 : Int, x4 = h1.2.2.1 170 65 → -9223372036854775808 ≤ x4 → x4 ≤ 9223372036854775807 → ∀ x5 : Int, x5 = h1.2.2.1 170 66 → -9223372036854775808 ≤ x5 → x5 ≤ 9223372036854775807 → con G 0 0 0 m_MD_divisor [av_R (some 170), av_L x4, av_L a3] h1 (fun r h6 => ∃ z8 : Int, r = some (av_L z8) ∧ hb s h6 ∧ (z8 ≠ 0) ∧ ∀ x9 : Int, x9 = w64 ((x4).tdiv z8) → (-9223372036854775808) ≤ x9 → x9 ≤ 9223372036854775807 → (z8 ≠ 0) ∧ ∀ x10 : Int, x10 = w64 ((a3).tdiv z8) → (-9223372036854775808) ≤ x10 → x10 ≤ 9223372036854775807 → ∀ x11 : Int, x11 = x10 * x5 → ((-9223372036854775808) ≤ x11 ∧ x11 ≤ 9223372036854775807) ∧ con G 0 0 0 m_MD_product [av_R (some 170), av_L x9, av_L a2, av_L x11] h6 (fun r h13 => ∃ z15 : Int, r = some (av_L z15) ∧ hb s h13 ∧ con G 1 0 0 m_MD_fraction [av_R (some 170), av_L z15, av_L x11] h13 (fun r h16 => r = none ∧ hb s h16 ∧ ∀ x19 : Int, x19 = h16.2.2.1 170 65 → -9223372036854775808 ≤ x19 → x19 ≤ 9223372036854775807 → ∀ x20 : Int, x20 = h16.2.2.1 170 66 → -9223372036854775808 ≤ x20 → x20 ≤ 9223372036854775807 → (vf_n64 (FP.ddiv (FP.l2d (Int64.ofInt x19)) (FP.l2d (Int64.ofInt x20)))) ∧ ∀ x21 : Int, x21 = (Op.cmpValue (FP.dcmp (FP.ddiv (FP.l2d (Int64.ofInt x19)) (FP.l2d (Int64.ofInt x20))) 4598175219545276416) .g).toInt → (-2147483648) ≤ x21 → x21 ≤ 2147483647 → ((0 ≤ x21 → ∀ x22 : Int, x22 = (Op.cmpValue (FP.dcmp (FP.ddiv (FP.l2d (Int64.ofInt x19)) (FP.l2d (Int64.ofInt x20))) 4604930618986332160) .g).toInt → (-2147483648) ≤ x22 → x22 ≤ 2147483647 → ((0 ≤ x22 → (vf_n64 (FP.dmul 4616189618054758400 (FP.ddiv (FP.l2d (Int64.ofInt x19)) (FP.l2d (Int64.ofInt x20))))) ∧ (vf_n64 (FP.dsub (FP.dmul 4616189618054758400 (FP.ddiv (FP.l2d (Int64.ofInt x19)) (FP.l2d (Int64.ofInt x20)))) 4616189618054758400)) ∧ B_MD_sound_214 G s a1 a2 a3 a4 (FP.dsub (FP.dmul 4616189618054758400 (FP.ddiv (FP.l2d (Int64.ofInt x19)) (FP.l2d (Int64.ofInt x20)))) 4616189618054758400) h16 Q ) ∧ (¬ 0 ≤ x22 → (vf_n64 (FP.dmul 4616189618054758400 (FP.ddiv (FP.l2d (Int64.ofInt x19)) (FP.l2d (Int64.ofInt x20))))) ∧ (vf_n64 (FP.dsub 4611686018427387904 (FP.dmul 4616189618054758400 (FP.ddiv (FP.l2d (Int64.ofInt x19)) (FP.l2d (Int64.ofInt x20)))))) ∧ B_MD_sound_214 G s a1 a2 a3 a4 (FP.dsub 4611686018427387904 (FP.dmul 4616189618054758400 (FP.ddiv (FP.l2d (Int64.ofInt x19)) (FP.l2d (Int64.ofInt x20))))) h16 Q ))) ∧ (¬ 0 ≤ x21 → (vf_n64 (FP.dmul 4616189618054758400 (FP.ddiv (FP.l2d (Int64.ofInt x19)) (FP.l2d (Int64.ofInt x20))))) ∧ B_MD_sound_214 G s a1 a2 a3 a4 (FP.dmul 4616189618054758400 (FP.ddiv (FP.l2d (Int64.ofInt x19)) (FP.l2d (Int64.ofInt x20)))) h16 Q ))))))) ∧ (¬ 0 ≤ v13 → ((-9223372036854775808) ≤ (2 * v11) ∧ (2 * v11) ≤ 9223372036854775807) ∧ ((-2147483648) ≤ (v13 + 1) ∧ (v13 + 1) ≤ 2147483647) ∧ X66 (v9) ((2 * v11)) ((v13 + 1)) h))
theorem b_MD_sound_66 {G : cx_T} {s : Nat} {a1 : Int} {a2 : Int} {a3 : Int} {a4 : Int} {v9 : Int} {v11 : Int} {v13 : Int} {h : ah_T} {Q : Option av_T → ah_T → Prop} {X66 : Int → Int → Int → ah_T → Prop} (hX66 : ∀ (v9 : Int) (v11 : Int) (v13 : Int) (h : ah_T), hb s h → X66 v9 v11 v13 h → aw G (rm_R 2 0 0) m_MD_sound 0 0 66 [some (av_R (some 170)), none, some (av_L a2), none, some (av_L a3), none, some (av_I a4), none, none, some (av_L v9), none, some (av_L v11), none, some (av_I v13), none, none, none, none, none, none, none, none, none, none, none, none, none, none, none, none, none] [] h Q) (hb0 : hb s h) (H : B_MD_sound_66 G s a1 a2 a3 a4 v9 v11 v13 h Q X66) : aw G (rm_R 2 0 0) m_MD_sound 0 0 66 [some (av_R (some 170)), none, some (av_L a2), none, some (av_L a3), none, some (av_I a4), none, none, some (av_L v9), none, some (av_L v11), none, some (av_I v13), none, none, none, none, none, none, none, none, none, none, none, none, none, none, none, none, none] [] h Q := by
  unfold B_MD_sound_66 at H
  have hS : isS s := hb0.2.1
  refine A_iload d_MD_sound_66 rfl ?_
  refine A_if_ge (tgt := 85) d_MD_sound_68 (by decide) (fun c => ?_) (fun c => ?_)
  · replace H := H.1 c
    refine A_aload_n 0 d_MD_sound_85 rfl rfl ?_
    refine A_lload d_MD_sound_86 rfl ?_
    refine A_lload d_MD_sound_88 rfl ?_
    refine A_callV2 m_MD_fraction T_ok d_MD_sound_90 l_MD_391 k_MD_fraction (hb_s hb0 sf_170) rfl (by decide +kernel) (by decide) (Nat.le_of_ble_eq_true rfl) H (fun r h1 hq => ?_)
    clear H
    obtain ⟨rfl, hb2, H⟩ := hq
    refine A_aload_n 0 d_MD_sound_93 rfl rfl ?_
    refine A_getLf T_ok d_MD_sound_94 f_MD_385 (hb_s hb2 sf_170) (fun x4 ex4 lx4 ux4 => ?_)
    replace H := H x4 ex4 lx4 ux4
    refine A_lstore (L' := [some (av_R (some 170)), none, some (av_L a2), none, some (av_L a3), none, some (av_I a4), none, none, some (av_L x4), none, some (av_L v11), none, some (av_I v13), none, none, none, none, none, none, none, none, none, none, none, none, none, none, none, none, none]) d_MD_sound_97 (Nat.le_of_ble_eq_true rfl) rfl ?_
    refine A_aload_n 0 d_MD_sound_99 rfl rfl ?_
    refine A_getLf T_ok d_MD_sound_100 f_MD_388 (hb_s hb2 sf_170) (fun x5 ex5 lx5 ux5 => ?_)
    replace H := H x5 ex5 lx5 ux5
    refine A_pc (pc' := 103) rfl ?_
    refine A_lstore (L' := [some (av_R (some 170)), none, some (av_L a2), none, some (av_L a3), none, some (av_I a4), none, none, some (av_L x4), none, some (av_L x5), none, some (av_I v13), none, none, none, none, none, none, none, none, none, none, none, none, none, none, none, none, none]) d_MD_sound_103 (Nat.le_of_ble_eq_true rfl) rfl ?_
    refine A_aload_n 0 d_MD_sound_105 rfl rfl ?_
    refine A_lload d_MD_sound_106 rfl ?_
    refine A_lload d_MD_sound_108 rfl ?_
    refine A_callV2 m_MD_divisor T_ok d_MD_sound_110 l_MD_381 k_MD_divisor (hb_s hb2 sf_170) rfl (by decide +kernel) (by decide) (Nat.le_of_ble_eq_true rfl) H (fun r h6 hq => ?_)
    clear H
    obtain ⟨z8, rfl, hb7, H⟩ := hq
    refine A_lstore (L' := [some (av_R (some 170)), none, some (av_L a2), none, some (av_L a3), none, some (av_I a4), none, none, some (av_L x4), none, some (av_L x5), none, some (av_L z8), none, none, none, none, none, none, none, none, none, none, none, none, none, none, none, none, none]) d_MD_sound_113 (Nat.le_of_ble_eq_true rfl) rfl ?_
    refine A_lload d_MD_sound_115 rfl ?_
    refine A_lload d_MD_sound_117 rfl ?_
    have H0 := H.1
    replace H := H.2
    refine A_ldivc d_MD_sound_119 H0 (fun x9 ex9 lx9 ux9 => ?_)
    replace H := H x9 ex9 lx9 ux9
    refine A_lstore (L' := [some (av_R (some 170)), none, some (av_L a2), none, some (av_L a3), none, some (av_I a4), none, none, some (av_L x4), none, some (av_L x5), none, some (av_L z8), none, some (av_L x9), none, none, none, none, none, none, none, none, none, none, none, none, none, none, none]) d_MD_sound_120 (Nat.le_of_ble_eq_true rfl) rfl ?_
    refine A_pc (pc' := 122) rfl ?_
    refine A_lload d_MD_sound_122 rfl ?_
    refine A_lload d_MD_sound_124 rfl ?_
    have H0 := H.1
    replace H := H.2
    refine A_ldivc d_MD_sound_126 H0 (fun x10 ex10 lx10 ux10 => ?_)
    replace H := H x10 ex10 lx10 ux10
    refine A_lload d_MD_sound_127 rfl ?_
    obtain ⟨x11, ex11⟩ : ∃ z : Int, z = x10 * x5 := ⟨_, rfl⟩
    replace H := H x11 ex11
    have g12 := H.1
    replace H := H.2
    refine A_lmulv (z := x11) d_MD_sound_129 (w64_to ex11.symm (by unfold i64; omega)) ?_
    refine A_lstore (L' := [some (av_R (some 170)), none, some (av_L a2), none, some (av_L a3), none, some (av_I a4), none, none, some (av_L x4), none, some (av_L x5), none, some (av_L z8), none, some (av_L x9), none, some (av_L x11), none, none, none, none, none, none, none, none, none, none, none, none, none]) d_MD_sound_130 (Nat.le_of_ble_eq_true rfl) rfl ?_
    refine A_pc (pc' := 132) rfl ?_
    refine A_aload_n 0 d_MD_sound_132 rfl rfl ?_
    refine A_lload d_MD_sound_133 rfl ?_
    refine A_lload_n 2 d_MD_sound_135 rfl rfl ?_
    refine A_lload d_MD_sound_136 rfl ?_
    refine A_callV3 m_MD_product T_ok d_MD_sound_138 l_MD_622 k_MD_product (hb_s hb7 sf_170) rfl (by decide +kernel) (by decide) (Nat.le_of_ble_eq_true rfl) H (fun r h13 hq => ?_)
    clear H
    obtain ⟨z15, rfl, hb14, H⟩ := hq
    refine A_lstore (L' := [some (av_R (some 170)), none, some (av_L a2), none, some (av_L a3), none, some (av_I a4), none, none, some (av_L x4), none, some (av_L x5), none, some (av_L z8), none, some (av_L x9), none, some (av_L x11), none, some (av_L z15), none, none, none, none, none, none, none, none, none, none, none]) d_MD_sound_141 (Nat.le_of_ble_eq_true rfl) rfl ?_
    refine A_aload_n 0 d_MD_sound_143 rfl rfl ?_
    refine A_lload d_MD_sound_144 rfl ?_
    refine A_lload d_MD_sound_146 rfl ?_
    refine A_callV2 m_MD_fraction T_ok d_MD_sound_148 l_MD_391 k_MD_fraction (hb_s hb14 sf_170) rfl (by decide +kernel) (by decide) (Nat.le_of_ble_eq_true rfl) H (fun r h16 hq => ?_)
    clear H
    obtain ⟨rfl, hb17, H⟩ := hq
    refine A_aload_n 0 d_MD_sound_151 rfl rfl ?_
    refine A_getLf T_ok d_MD_sound_152 f_MD_385 (hb_s hb17 sf_170) (fun x19 ex19 lx19 ux19 => ?_)
    replace H := H x19 ex19 lx19 ux19
    refine A_l2d d_MD_sound_155 ?_
    refine A_aload_n 0 d_MD_sound_156 rfl rfl ?_
    refine A_getLf T_ok d_MD_sound_157 f_MD_388 (hb_s hb17 sf_170) (fun x20 ex20 lx20 ux20 => ?_)
    replace H := H x20 ex20 lx20 ux20
    refine A_pc (pc' := 160) rfl ?_
    refine A_l2d d_MD_sound_160 ?_
    have H0 := H.1
    replace H := H.2
    refine A_ddiv d_MD_sound_161 H0 ?_
    refine A_dstore (L' := [some (av_R (some 170)), none, some (av_L a2), none, some (av_L a3), none, some (av_I a4), none, none, some (av_L x4), none, some (av_L x5), none, some (av_L z8), none, some (av_L x9), none, some (av_L x11), none, some (av_L z15), none, some (av_D (FP.ddiv (FP.l2d (Int64.ofInt x19)) (FP.l2d (Int64.ofInt x20)))), none, none, none, none, none, none, none, none, none]) d_MD_sound_162 (Nat.le_of_ble_eq_true rfl) rfl ?_
    refine A_dload d_MD_sound_164 rfl ?_
    refine A_ldc2d (z := 4598175219545276416) d_MD_sound_166 cst_MD_626 ?_
    refine A_dcmp d_MD_sound_169 ?_
    refine A_nrI (fun x21 ex21 lx21 ux21 => ?_)
    replace H := H x21 ex21 lx21 ux21
    refine A_pc (pc' := 170) rfl ?_
    refine A_if_ge (tgt := 182) d_MD_sound_170 (by decide) (fun c => ?_) (fun c => ?_)
    · replace H := H.1 c
      refine A_dload d_MD_sound_182 rfl ?_
      refine A_ldc2d (z := 4604930618986332160) d_MD_sound_184 cst_MD_630 ?_
      refine A_dcmp d_MD_sound_187 ?_
      refine A_nrI (fun x22 ex22 lx22 ux22 => ?_)
      replace H := H x22 ex22 lx22 ux22
      refine A_if_ge (tgt := 204) d_MD_sound_188 (by decide) (fun c => ?_) (fun c => ?_)
      · replace H := H.1 c
        refine A_ldc2d (z := 4616189618054758400) d_MD_sound_204 cst_MD_628 ?_
        refine A_dload d_MD_sound_207 rfl ?_
        have H0 := H.1
        replace H := H.2
        refine A_dmul d_MD_sound_209 H0 ?_
        refine A_ldc2d (z := 4616189618054758400) d_MD_sound_210 cst_MD_628 ?_
        have H0 := H.1
        replace H := H.2
        refine A_dsub d_MD_sound_213 H0 ?_
        refine A_pc (pc' := 214) rfl ?_
        refine A_free (L' := [some (av_R (some 170)), none, some (av_L a2), none, some (av_L a3), none, some (av_I a4), none, none, none, none, none, none, none, none, none, none, none, none, none, none, none, none, none, none, none, none, none, none, none, none]) (And.intro rfl (And.intro rfl (And.intro rfl (And.intro rfl trivial)))) ?_
        exact b_MD_sound_214    hb17 H
      · replace H := H.2 c
        refine A_ldc2d (z := 4611686018427387904) d_MD_sound_191 cst_MD_632 ?_
        refine A_ldc2d (z := 4616189618054758400) d_MD_sound_194 cst_MD_628 ?_
        refine A_dload d_MD_sound_197 rfl ?_
        have H0 := H.1
        replace H := H.2
        refine A_dmul d_MD_sound_199 H0 ?_
        have H0 := H.1
        replace H := H.2
        refine A_dsub d_MD_sound_200 H0 ?_
        refine A_pc (pc' := 201) rfl ?_
        refine A_goto (tgt := 214) d_MD_sound_201 (by decide) ?_
        refine A_pc (pc' := 214) rfl ?_
        refine A_free (L' := [some (av_R (some 170)), none, some (av_L a2), none, some (av_L a3), none, some (av_I a4), none, none, none, none, none, none, none, none, none, none, none, none, none, none, none, none, none, none, none, none, none, none, none, none]) (And.intro rfl (And.intro rfl (And.intro rfl (And.intro rfl trivial)))) ?_
        exact b_MD_sound_214    hb17 H
    · replace H := H.2 c
      refine A_ldc2d (z := 4616189618054758400) d_MD_sound_173 cst_MD_628 ?_
      refine A_dload d_MD_sound_176 rfl ?_
      have H0 := H.1
      replace H := H.2
      refine A_dmul d_MD_sound_178 H0 ?_
      refine A_goto (tgt := 214) d_MD_sound_179 (by decide) ?_
      refine A_pc (pc' := 214) rfl ?_
      refine A_free (L' := [some (av_R (some 170)), none, some (av_L a2), none, some (av_L a3), none, some (av_I a4), none, none, none, none, none, none, none, none, none, none, none, none, none, none, none, none, none, none, none, none, none, none, none, none]) (And.intro rfl (And.intro rfl (And.intro rfl (And.intro rfl trivial)))) ?_
      exact b_MD_sound_214    hb17 H
  · replace H := H.2 c
    refine A_ldc2 (z := 2) d_MD_sound_71 cst_MD_452 rfl ?_
    refine A_lload d_MD_sound_74 rfl ?_
    have g23 := H.1
    replace H := H.2
    refine A_lmulv (z := (2 * v11)) d_MD_sound_76 (w64_to (by omega) (by unfold i64; omega)) ?_
    refine A_lstore (L' := [some (av_R (some 170)), none, some (av_L a2), none, some (av_L a3), none, some (av_I a4), none, none, some (av_L v9), none, some (av_L (2 * v11)), none, some (av_I v13), none, none, none, none, none, none, none, none, none, none, none, none, none, none, none, none, none]) d_MD_sound_77 (Nat.le_of_ble_eq_true rfl) rfl ?_
    have g24 := H.1
    replace H := H.2
    refine A_iincv (z := (v13 + 1)) (L' := [some (av_R (some 170)), none, some (av_L a2), none, some (av_L a3), none, some (av_I a4), none, none, some (av_L v9), none, some (av_L (2 * v11)), none, some (av_I (v13 + 1)), none, none, none, none, none, none, none, none, none, none, none, none, none, none, none, none, none]) d_MD_sound_79 rfl (w32_to (by omega) (by unfold i32; omega)) rfl ?_
    refine A_pc (pc' := 82) rfl ?_
    refine A_goto (tgt := 66) d_MD_sound_82 (by decide) ?_
    refine A_pc (pc' := 66) rfl ?_
    exact hX66 (v9) ((2 * v11)) ((v13 + 1)) h  hb0 H
theorem lp_MD_sound_66 {G : cx_T} {s : Nat} {a1 : Int} {a2 : Int} {a3 : Int} {a4 : Int} {Q : Option av_T → ah_T → Prop} (I : Int → Int → Int → ah_T → Prop) (μ : Int → Int → Int → ah_T → Nat) (hI : ∀ (v9 : Int) (v11 : Int) (v13 : Int) (h : ah_T), hb s h → I v9 v11 v13 h → B_MD_sound_66 G s a1 a2 a3 a4 v9 v11 v13 h Q (fun v9' v11' v13' h' => I v9' v11' v13' h' ∧ μ v9' v11' v13' h' < μ v9 v11 v13 h)) : ∀ (v9 : Int) (v11 : Int) (v13 : Int) (h : ah_T), hb s h → I v9 v11 v13 h → aw G (rm_R 2 0 0) m_MD_sound 0 0 66 [some (av_R (some 170)), none, some (av_L a2), none, some (av_L a3), none, some (av_I a4), none, none, some (av_L v9), none, some (av_L v11), none, some (av_I v13), none, none, none, none, none, none, none, none, none, none, none, none, none, none, none, none, none] [] h Q := by
  have key : ∀ (n : Nat) (v9 : Int) (v11 : Int) (v13 : Int) (h : ah_T), hb s h → I v9 v11 v13 h → μ v9 v11 v13 h < n → aw G (rm_R 2 0 0) m_MD_sound 0 0 66 [some (av_R (some 170)), none, some (av_L a2), none, some (av_L a3), none, some (av_I a4), none, none, some (av_L v9), none, some (av_L v11), none, some (av_I v13), none, none, none, none, none, none, none, none, none, none, none, none, none, none, none, none, none] [] h Q := by
    intro n
    induction n with
    | zero => intro v9 v11 v13 h  hb0 hi hm; omega
    | succ n ih => intro v9 v11 v13 h  hb0 hi hm; exact b_MD_sound_66  (fun v9' v11' v13' h'  hb' hx => ih v9' v11' v13' h'  hb' hx.1 (by have := hx.2; omega))  hb0 (hI v9 v11 v13 h  hb0 hi)
  exact fun v9 v11 v13 h  hb0 hi => key _ v9 v11 v13 h  hb0 hi (Nat.lt_succ_self _)
def B_MD_sound_41 (G : cx_T) (s : Nat) (a1 : Int) (a2 : Int) (a3 : Int) (a4 : Int) (v8 : Int) (v9 : Int) (v11 : Int) (v13 : Int) (h : ah_T) (Q : Option av_T → ah_T → Prop) (X41 : Int → Int → Int → Int → ah_T → Prop) (X66 : Int → Int → Int → ah_T → Prop) : Prop :=
 ((v8 ≤ v13 → X66 (v9) (v11) (v8) h) ∧ (¬ v8 ≤ v13 → ((-9223372036854775808) ≤ (2 * v9) ∧ (2 * v9) ≤ 9223372036854775807) ∧ ((-2147483648) ≤ (v13 + 1) ∧ (v13 + 1) ≤ 2147483647) ∧ X41 (v8) ((2 * v9)) (v11) ((v13 + 1)) h))
theorem b_MD_sound_41 {G : cx_T} {s : Nat} {a1 : Int} {a2 : Int} {a3 : Int} {a4 : Int} {v8 : Int} {v9 : Int} {v11 : Int} {v13 : Int} {h : ah_T} {Q : Option av_T → ah_T → Prop} {X41 : Int → Int → Int → Int → ah_T → Prop} {X66 : Int → Int → Int → ah_T → Prop} (hX41 : ∀ (v8 : Int) (v9 : Int) (v11 : Int) (v13 : Int) (h : ah_T), hb s h → X41 v8 v9 v11 v13 h → aw G (rm_R 2 0 0) m_MD_sound 0 0 41 [some (av_R (some 170)), none, some (av_L a2), none, some (av_L a3), none, some (av_I a4), none, some (av_I v8), some (av_L v9), none, some (av_L v11), none, some (av_I v13), none, none, none, none, none, none, none, none, none, none, none, none, none, none, none, none, none] [] h Q) (hX66 : ∀ (v9 : Int) (v11 : Int) (v13 : Int) (h : ah_T), hb s h → X66 v9 v11 v13 h → aw G (rm_R 2 0 0) m_MD_sound 0 0 66 [some (av_R (some 170)), none, some (av_L a2), none, some (av_L a3), none, some (av_I a4), none, none, some (av_L v9), none, some (av_L v11), none, some (av_I v13), none, none, none, none, none, none, none, none, none, none, none, none, none, none, none, none, none] [] h Q) (hb0 : hb s h) (H : B_MD_sound_41 G s a1 a2 a3 a4 v8 v9 v11 v13 h Q X41 X66) : aw G (rm_R 2 0 0) m_MD_sound 0 0 41 [some (av_R (some 170)), none, some (av_L a2), none, some (av_L a3), none, some (av_I a4), none, some (av_I v8), some (av_L v9), none, some (av_L v11), none, some (av_I v13), none, none, none, none, none, none, none, none, none, none, none, none, none, none, none, none, none] [] h Q := by
  unfold B_MD_sound_41 at H
  have hS : isS s := hb0.2.1
  refine A_iload d_MD_sound_41 rfl ?_
  refine A_iload d_MD_sound_43 rfl ?_
  refine A_icmp_ge (tgt := 62) d_MD_sound_45 (by decide) (fun c => ?_) (fun c => ?_)
  · replace H := H.1 c
    refine A_iload d_MD_sound_62 rfl ?_
    refine A_istore (L' := [some (av_R (some 170)), none, some (av_L a2), none, some (av_L a3), none, some (av_I a4), none, some (av_I v8), some (av_L v9), none, some (av_L v11), none, some (av_I v8), none, none, none, none, none, none, none, none, none, none, none, none, none, none, none, none, none]) d_MD_sound_64 (Nat.le_of_ble_eq_true rfl) rfl ?_
    refine A_pc (pc' := 66) rfl ?_
    refine A_free (L' := [some (av_R (some 170)), none, some (av_L a2), none, some (av_L a3), none, some (av_I a4), none, none, some (av_L v9), none, some (av_L v11), none, some (av_I v8), none, none, none, none, none, none, none, none, none, none, none, none, none, none, none, none, none]) (And.intro rfl (And.intro rfl (And.intro rfl (And.intro rfl (And.intro rfl (And.intro rfl (And.intro rfl trivial))))))) ?_
    exact hX66 (v9) (v11) (v8) h  hb0 H
  · replace H := H.2 c
    refine A_ldc2 (z := 2) d_MD_sound_48 cst_MD_452 rfl ?_
    refine A_lload d_MD_sound_51 rfl ?_
    have g1 := H.1
    replace H := H.2
    refine A_lmulv (z := (2 * v9)) d_MD_sound_53 (w64_to (by omega) (by unfold i64; omega)) ?_
    refine A_lstore (L' := [some (av_R (some 170)), none, some (av_L a2), none, some (av_L a3), none, some (av_I a4), none, some (av_I v8), some (av_L (2 * v9)), none, some (av_L v11), none, some (av_I v13), none, none, none, none, none, none, none, none, none, none, none, none, none, none, none, none, none]) d_MD_sound_54 (Nat.le_of_ble_eq_true rfl) rfl ?_
    have g2 := H.1
    replace H := H.2
    refine A_iincv (z := (v13 + 1)) (L' := [some (av_R (some 170)), none, some (av_L a2), none, some (av_L a3), none, some (av_I a4), none, some (av_I v8), some (av_L (2 * v9)), none, some (av_L v11), none, some (av_I (v13 + 1)), none, none, none, none, none, none, none, none, none, none, none, none, none, none, none, none, none]) d_MD_sound_56 rfl (w32_to (by omega) (by unfold i32; omega)) rfl ?_
    refine A_pc (pc' := 59) rfl ?_
    refine A_goto (tgt := 41) d_MD_sound_59 (by decide) ?_
    refine A_pc (pc' := 41) rfl ?_
    exact hX41 (v8) ((2 * v9)) (v11) ((v13 + 1)) h  hb0 H
theorem lp_MD_sound_41 {G : cx_T} {s : Nat} {a1 : Int} {a2 : Int} {a3 : Int} {a4 : Int} {Q : Option av_T → ah_T → Prop} {X66 : Int → Int → Int → ah_T → Prop} (hX66 : ∀ (v9 : Int) (v11 : Int) (v13 : Int) (h : ah_T), hb s h → X66 v9 v11 v13 h → aw G (rm_R 2 0 0) m_MD_sound 0 0 66 [some (av_R (some 170)), none, some (av_L a2), none, some (av_L a3), none, some (av_I a4), none, none, some (av_L v9), none, some (av_L v11), none, some (av_I v13), none, none, none, none, none, none, none, none, none, none, none, none, none, none, none, none, none] [] h Q) (I : Int → Int → Int → Int → ah_T → Prop) (μ : Int → Int → Int → Int → ah_T → Nat) (hI : ∀ (v8 : Int) (v9 : Int) (v11 : Int) (v13 : Int) (h : ah_T), hb s h → I v8 v9 v11 v13 h → B_MD_sound_41 G s a1 a2 a3 a4 v8 v9 v11 v13 h Q (fun v8' v9' v11' v13' h' => I v8' v9' v11' v13' h' ∧ μ v8' v9' v11' v13' h' < μ v8 v9 v11 v13 h) X66) : ∀ (v8 : Int) (v9 : Int) (v11 : Int) (v13 : Int) (h : ah_T), hb s h → I v8 v9 v11 v13 h → aw G (rm_R 2 0 0) m_MD_sound 0 0 41 [some (av_R (some 170)), none, some (av_L a2), none, some (av_L a3), none, some (av_I a4), none, some (av_I v8), some (av_L v9), none, some (av_L v11), none, some (av_I v13), none, none, none, none, none, none, none, none, none, none, none, none, none, none, none, none, none] [] h Q := by
  have key : ∀ (n : Nat) (v8 : Int) (v9 : Int) (v11 : Int) (v13 : Int) (h : ah_T), hb s h → I v8 v9 v11 v13 h → μ v8 v9 v11 v13 h < n → aw G (rm_R 2 0 0) m_MD_sound 0 0 41 [some (av_R (some 170)), none, some (av_L a2), none, some (av_L a3), none, some (av_I a4), none, some (av_I v8), some (av_L v9), none, some (av_L v11), none, some (av_I v13), none, none, none, none, none, none, none, none, none, none, none, none, none, none, none, none, none] [] h Q := by
    intro n
    induction n with
    | zero => intro v8 v9 v11 v13 h  hb0 hi hm; omega
    | succ n ih => intro v8 v9 v11 v13 h  hb0 hi hm; exact b_MD_sound_41  (fun v8' v9' v11' v13' h'  hb' hx => ih v8' v9' v11' v13' h'  hb' hx.1 (by have := hx.2; omega)) hX66  hb0 (hI v8 v9 v11 v13 h  hb0 hi)
  exact fun v8 v9 v11 v13 h  hb0 hi => key _ v8 v9 v11 v13 h  hb0 hi (Nat.lt_succ_self _)
def B_MD_sound_0 (G : cx_T) (s : Nat) (a1 : Int) (a2 : Int) (a3 : Int) (a4 : Int) (h : ah_T) (Q : Option av_T → ah_T → Prop) (X41 : Int → Int → Int → Int → ah_T → Prop) : Prop :=
 con G 0 0 0 m_MD_modulo [av_R (some 170), av_I a1] h (fun r h1 => ∃ z3 : Int, r = some (av_I z3) ∧ hb s h1 ∧ ((-2147483648) ≤ (a1 - z3) ∧ (a1 - z3) ≤ 2147483647) ∧ ∀ x5 : Int, x5 = w32 (((a1 - z3)).tdiv 12) → (-2147483648) ≤ x5 → x5 ≤ 2147483647 → con G 0 0 0 m_MD_ratioTop [av_R (some 170), av_I z3] h1 (fun r h6 => ∃ z8 : Int, r = some (av_I z8) ∧ hb s h6 ∧ ((-9223372036854775808) ≤ (16 * z8) ∧ (16 * z8) ≤ 9223372036854775807) ∧ con G 0 0 0 m_MD_ratioLow [av_R (some 170), av_I z3] h6 (fun r h10 => ∃ z12 : Int, r = some (av_I z12) ∧ hb s h10 ∧ X41 (x5) ((16 * z8)) (z12) (0) h10)))
theorem b_MD_sound_0 {G : cx_T} {s : Nat} {a1 : Int} {a2 : Int} {a3 : Int} {a4 : Int} {h : ah_T} {Q : Option av_T → ah_T → Prop} {X41 : Int → Int → Int → Int → ah_T → Prop} (hX41 : ∀ (v8 : Int) (v9 : Int) (v11 : Int) (v13 : Int) (h : ah_T), hb s h → X41 v8 v9 v11 v13 h → aw G (rm_R 2 0 0) m_MD_sound 0 0 41 [some (av_R (some 170)), none, some (av_L a2), none, some (av_L a3), none, some (av_I a4), none, some (av_I v8), some (av_L v9), none, some (av_L v11), none, some (av_I v13), none, none, none, none, none, none, none, none, none, none, none, none, none, none, none, none, none] [] h Q) (hb0 : hb s h) (H : B_MD_sound_0 G s a1 a2 a3 a4 h Q X41) : aw G (rm_R 2 0 0) m_MD_sound 0 0 0 [some (av_R (some 170)), some (av_I a1), some (av_L a2), none, some (av_L a3), none, some (av_I a4), none, none, none, none, none, none, none, none, none, none, none, none, none, none, none, none, none, none, none, none, none, none, none, none] [] h Q := by
  unfold B_MD_sound_0 at H
  have hS : isS s := hb0.2.1
  refine A_aload_n 0 d_MD_sound_0 rfl rfl ?_
  refine A_iload_n 1 d_MD_sound_1 rfl rfl ?_
  refine A_callV1 m_MD_modulo T_ok d_MD_sound_2 l_MD_535 k_MD_modulo (hb_s hb0 sf_170) rfl (by decide +kernel) (by decide) (Nat.le_of_ble_eq_true rfl) H (fun r h1 hq => ?_)
  clear H
  obtain ⟨z3, rfl, hb2, H⟩ := hq
  refine A_istore (L' := [some (av_R (some 170)), some (av_I a1), some (av_L a2), none, some (av_L a3), none, some (av_I a4), some (av_I z3), none, none, none, none, none, none, none, none, none, none, none, none, none, none, none, none, none, none, none, none, none, none, none]) d_MD_sound_5 (Nat.le_of_ble_eq_true rfl) rfl ?_
  refine A_iload_n 1 d_MD_sound_7 rfl rfl ?_
  refine A_iload d_MD_sound_8 rfl ?_
  have g4 := H.1
  replace H := H.2
  refine A_isubv (z := (a1 - z3)) d_MD_sound_10 (w32_to (by omega) (by unfold i32; omega)) ?_
  refine A_bipush d_MD_sound_11 rfl ?_
  refine A_pc (pc' := 13) rfl ?_
  refine A_idivc d_MD_sound_13 (by decide) (fun x5 ex5 lx5 ux5 => ?_)
  replace H := H x5 ex5 lx5 ux5
  refine A_istore (L' := [some (av_R (some 170)), some (av_I a1), some (av_L a2), none, some (av_L a3), none, some (av_I a4), some (av_I z3), some (av_I x5), none, none, none, none, none, none, none, none, none, none, none, none, none, none, none, none, none, none, none, none, none, none]) d_MD_sound_14 (Nat.le_of_ble_eq_true rfl) rfl ?_
  refine A_aload_n 0 d_MD_sound_16 rfl rfl ?_
  refine A_iload d_MD_sound_17 rfl ?_
  refine A_callV1 m_MD_ratioTop T_ok d_MD_sound_19 l_MD_614 k_MD_ratioTop (hb_s hb2 sf_170) rfl (by decide +kernel) (by decide) (Nat.le_of_ble_eq_true rfl) H (fun r h6 hq => ?_)
  clear H
  obtain ⟨z8, rfl, hb7, H⟩ := hq
  refine A_i2l d_MD_sound_22 ?_
  refine A_ldc2 (z := 16) d_MD_sound_23 cst_MD_617 rfl ?_
  have g9 := H.1
  replace H := H.2
  refine A_lmulv (z := (16 * z8)) d_MD_sound_26 (w64_to (by omega) (by unfold i64; omega)) ?_
  refine A_lstore (L' := [some (av_R (some 170)), some (av_I a1), some (av_L a2), none, some (av_L a3), none, some (av_I a4), some (av_I z3), some (av_I x5), some (av_L (16 * z8)), none, none, none, none, none, none, none, none, none, none, none, none, none, none, none, none, none, none, none, none, none]) d_MD_sound_27 (Nat.le_of_ble_eq_true rfl) rfl ?_
  refine A_aload_n 0 d_MD_sound_29 rfl rfl ?_
  refine A_pc (pc' := 30) rfl ?_
  refine A_iload d_MD_sound_30 rfl ?_
  refine A_callV1 m_MD_ratioLow T_ok d_MD_sound_32 l_MD_619 k_MD_ratioLow (hb_s hb7 sf_170) rfl (by decide +kernel) (by decide) (Nat.le_of_ble_eq_true rfl) H (fun r h10 hq => ?_)
  clear H
  obtain ⟨z12, rfl, hb11, H⟩ := hq
  refine A_i2l d_MD_sound_35 ?_
  refine A_lstore (L' := [some (av_R (some 170)), some (av_I a1), some (av_L a2), none, some (av_L a3), none, some (av_I a4), some (av_I z3), some (av_I x5), some (av_L (16 * z8)), none, some (av_L z12), none, none, none, none, none, none, none, none, none, none, none, none, none, none, none, none, none, none, none]) d_MD_sound_36 (Nat.le_of_ble_eq_true rfl) rfl ?_
  refine A_iconst d_MD_sound_38 rfl ?_
  refine A_istore (L' := [some (av_R (some 170)), some (av_I a1), some (av_L a2), none, some (av_L a3), none, some (av_I a4), some (av_I z3), some (av_I x5), some (av_L (16 * z8)), none, some (av_L z12), none, some (av_I 0), none, none, none, none, none, none, none, none, none, none, none, none, none, none, none, none, none]) d_MD_sound_39 (Nat.le_of_ble_eq_true rfl) rfl ?_
  refine A_pc (pc' := 41) rfl ?_
  refine A_free (L' := [some (av_R (some 170)), none, some (av_L a2), none, some (av_L a3), none, some (av_I a4), none, some (av_I x5), some (av_L (16 * z8)), none, some (av_L z12), none, some (av_I 0), none, none, none, none, none, none, none, none, none, none, none, none, none, none, none, none, none]) (And.intro rfl (And.intro rfl (And.intro rfl (And.intro rfl (And.intro rfl (And.intro rfl (And.intro rfl (And.intro rfl trivial)))))))) ?_
  exact hX41 (x5) ((16 * z8)) (z12) (0) h10  hb11 H
theorem c_MD_sound {G : cx_T} {s : Nat} {a1 : Int} {a2 : Int} {a3 : Int} {a4 : Int} {h : ah_T} {Q : Option av_T → ah_T → Prop} {X41 : Int → Int → Int → Int → ah_T → Prop} (hX41 : ∀ (v8 : Int) (v9 : Int) (v11 : Int) (v13 : Int) (h : ah_T), hb s h → X41 v8 v9 v11 v13 h → aw G (rm_R 2 0 0) m_MD_sound 0 0 41 [some (av_R (some 170)), none, some (av_L a2), none, some (av_L a3), none, some (av_I a4), none, some (av_I v8), some (av_L v9), none, some (av_L v11), none, some (av_I v13), none, none, none, none, none, none, none, none, none, none, none, none, none, none, none, none, none] [] h Q) (hb0 : hb s h) (H : i32 a1 → i64 a2 → i64 a3 → i32 a4 → B_MD_sound_0 G s a1 a2 a3 a4 h Q X41) : con G 2 0 0 m_MD_sound [av_R (some 170), av_I a1, av_L a2, av_L a3, av_I a4] h Q := by
  have hS : isS s := hb0.2.1
  refine con_of (L := [some (av_R (some 170)), some (av_I a1), some (av_L a2), none, some (av_L a3), none, some (av_I a4), none, none, none, none, none, none, none, none, none, none, none, none, none, none, none, none, none, none, none, none, none, none, none, none]) (by decide +kernel) (Nat.le_of_ble_eq_true rfl) rfl ?_
  refine A_locI 1 rfl (fun ra1 => ?_)
  refine A_locL 2 rfl (fun ra2 => ?_)
  refine A_locL 4 rfl (fun ra4 => ?_)
  refine A_locI 6 rfl (fun ra6 => ?_)
  exact b_MD_sound_0  hX41 hb0 (H ra1 ra2 ra4 ra6)
def B_MD_sample_272 (G : cx_T) (s : Nat) (a1 : Int) (a2 : Int) (v3 : UInt64) (v5 : Int) (v6 : Int) (h : ah_T) (Q : Option av_T → ah_T → Prop) (X37 : UInt64 → Int → Int → ah_T → Prop) : Prop :=
 ((-2147483648) ≤ (v6 + 1) ∧ (v6 + 1) ≤ 2147483647) ∧ X37 v3 (v5) ((v6 + 1)) h
theorem b_MD_sample_272 {G : cx_T} {s : Nat} {a1 : Int} {a2 : Int} {v3 : UInt64} {v5 : Int} {v6 : Int} {h : ah_T} {Q : Option av_T → ah_T → Prop} {X37 : UInt64 → Int → Int → ah_T → Prop} (hX37 : ∀ (v3 : UInt64) (v5 : Int) (v6 : Int) (h : ah_T), hb s h → X37 v3 v5 v6 h → aw G (rm_R 4 0 0) m_MD_sample 0 0 37 [some (av_R (some 170)), some (av_I a1), some (av_I a2), some (av_D v3), none, some (av_I v5), some (av_I v6), none, none, none, none, none, none, none, none, none, none] [] h Q) (hb0 : hb s h) (H : B_MD_sample_272 G s a1 a2 v3 v5 v6 h Q X37) : aw G (rm_R 4 0 0) m_MD_sample 0 0 272 [some (av_R (some 170)), some (av_I a1), some (av_I a2), some (av_D v3), none, some (av_I v5), some (av_I v6), none, none, none, none, none, none, none, none, none, none] [] h Q := by
  unfold B_MD_sample_272 at H
  have hS : isS s := hb0.2.1
  have g1 := H.1
  replace H := H.2
  refine A_iincv (z := (v6 + 1)) (L' := [some (av_R (some 170)), some (av_I a1), some (av_I a2), some (av_D v3), none, some (av_I v5), some (av_I (v6 + 1)), none, none, none, none, none, none, none, none, none, none]) d_MD_sample_272 rfl (w32_to (by omega) (by unfold i32; omega)) rfl ?_
  refine A_goto (tgt := 37) d_MD_sample_275 (by decide) ?_
  refine A_pc (pc' := 37) rfl ?_
  exact hX37 v3 (v5) ((v6 + 1)) h  hb0 H
def B_MD_sample_229 (G : cx_T) (s : Nat) (a1 : Int) (a2 : Int) (v3 : UInt64) (v5 : Int) (v6 : Int) (v7 : Int) (v12 : Int) (v14 : Int) (v16 : Int) (h : ah_T) (Q : Option av_T → ah_T → Prop) (X37 : UInt64 → Int → Int → ah_T → Prop) (X229 : UInt64 → Int → Int → Int → Int → Int → Int → ah_T → Prop) : Prop :=
 (0 ≤ v7 ∧ v7 < 2400) ∧ ∀ x2 : Int, x2 = h.2.1 191 (v7).toNat → -2147483648 ≤ x2 → x2 ≤ 2147483647 → ((x2 ≤ v16 → B_MD_sample_272 G s a1 a2 v3 (v5) (v6) h Q X37) ∧ (¬ x2 ≤ v16 → ((-2147483648) ≤ (4 * v7) ∧ (4 * v7) ≤ 2147483647) ∧ ((-2147483648) ≤ (4 * v7 + v16) ∧ (4 * v7 + v16) ≤ 2147483647) ∧ (0 ≤ (4 * v7 + v16) ∧ (4 * v7 + v16) < 9600) ∧ ∀ x7 : Int, x7 = h.2.1 192 ((4 * v7 + v16)).toNat → -2147483648 ≤ x7 → x7 ≤ 2147483647 → con G 2 0 0 m_MD_sound [av_R (some 170), av_I x7, av_L v12, av_L v14, av_I v7] h (fun r h9 => ∃ z11 : UInt64, r = some (av_D z11) ∧ hb s h9 ∧ (vf_n64 (FP.dadd v3 z11)) ∧ ((-2147483648) ≤ (v16 + 1) ∧ (v16 + 1) ≤ 2147483647) ∧ X229 (FP.dadd v3 z11) (v5) (v6) (v7) (v12) (v14) ((v16 + 1)) h9)))
theorem b_MD_sample_229 {G : cx_T} {s : Nat} {a1 : Int} {a2 : Int} {v3 : UInt64} {v5 : Int} {v6 : Int} {v7 : Int} {v12 : Int} {v14 : Int} {v16 : Int} {h : ah_T} {Q : Option av_T → ah_T → Prop} {X37 : UInt64 → Int → Int → ah_T → Prop} {X229 : UInt64 → Int → Int → Int → Int → Int → Int → ah_T → Prop} (hX37 : ∀ (v3 : UInt64) (v5 : Int) (v6 : Int) (h : ah_T), hb s h → X37 v3 v5 v6 h → aw G (rm_R 4 0 0) m_MD_sample 0 0 37 [some (av_R (some 170)), some (av_I a1), some (av_I a2), some (av_D v3), none, some (av_I v5), some (av_I v6), none, none, none, none, none, none, none, none, none, none] [] h Q) (hX229 : ∀ (v3 : UInt64) (v5 : Int) (v6 : Int) (v7 : Int) (v12 : Int) (v14 : Int) (v16 : Int) (h : ah_T), hb s h → X229 v3 v5 v6 v7 v12 v14 v16 h → aw G (rm_R 4 0 0) m_MD_sample 0 0 229 [some (av_R (some 170)), some (av_I a1), some (av_I a2), some (av_D v3), none, some (av_I v5), some (av_I v6), some (av_I v7), none, none, none, none, some (av_L v12), none, some (av_L v14), none, some (av_I v16)] [] h Q) (hb0 : hb s h) (H : B_MD_sample_229 G s a1 a2 v3 v5 v6 v7 v12 v14 v16 h Q X37 X229) : aw G (rm_R 4 0 0) m_MD_sample 0 0 229 [some (av_R (some 170)), some (av_I a1), some (av_I a2), some (av_D v3), none, some (av_I v5), some (av_I v6), some (av_I v7), none, none, none, none, some (av_L v12), none, some (av_L v14), none, some (av_I v16)] [] h Q := by
  unfold B_MD_sample_229 at H
  have hS : isS s := hb0.2.1
  refine A_iload d_MD_sample_229 rfl ?_
  refine A_aload_n 0 d_MD_sample_231 rfl rfl ?_
  refine A_getAv (z := some 191) T_ok d_MD_sample_232 f_MD_75 (hb_s hb0 sf_170) (hb_m hb0 rfm_33) ?_
  refine A_iload d_MD_sample_235 rfl ?_
  have g3 := H.1
  replace H := H.2
  refine A_ialoadf d_MD_sample_237 (hb_s hb0 sf_191) g3.1 g3.2 (fun x2 ex2 lx2 ux2 => ?_)
  replace H := H x2 ex2 lx2 ux2
  refine A_pc (pc' := 238) rfl ?_
  refine A_icmp_ge (tgt := 272) d_MD_sample_238 (by decide) (fun c => ?_) (fun c => ?_)
  · replace H := H.1 c
    refine A_pc (pc' := 272) rfl ?_
    refine A_free (L' := [some (av_R (some 170)), some (av_I a1), some (av_I a2), some (av_D v3), none, some (av_I v5), some (av_I v6), none, none, none, none, none, none, none, none, none, none]) (And.intro rfl (And.intro rfl (And.intro rfl (And.intro rfl (And.intro rfl (And.intro rfl trivial)))))) ?_
    exact b_MD_sample_272  hX37  hb0 H
  · replace H := H.2 c
    refine A_dload_n 3 d_MD_sample_241 rfl rfl ?_
    refine A_aload_n 0 d_MD_sample_242 rfl rfl ?_
    refine A_aload_n 0 d_MD_sample_243 rfl rfl ?_
    refine A_getAv (z := some 192) T_ok d_MD_sample_244 f_MD_78 (hb_s hb0 sf_170) (hb_m hb0 rfm_34) ?_
    refine A_iconst d_MD_sample_247 rfl ?_
    refine A_pc (pc' := 248) rfl ?_
    refine A_iload d_MD_sample_248 rfl ?_
    have g5 := H.1
    replace H := H.2
    refine A_imulv (z := (4 * v7)) d_MD_sample_250 (w32_to (by omega) (by unfold i32; omega)) ?_
    refine A_iload d_MD_sample_251 rfl ?_
    have g6 := H.1
    replace H := H.2
    refine A_iaddv (z := (4 * v7 + v16)) d_MD_sample_253 (w32_to (by omega) (by unfold i32; omega)) ?_
    have g8 := H.1
    replace H := H.2
    refine A_ialoadf d_MD_sample_254 (hb_s hb0 sf_192) g8.1 g8.2 (fun x7 ex7 lx7 ux7 => ?_)
    replace H := H x7 ex7 lx7 ux7
    refine A_lload d_MD_sample_255 rfl ?_
    refine A_pc (pc' := 257) rfl ?_
    refine A_lload d_MD_sample_257 rfl ?_
    refine A_iload d_MD_sample_259 rfl ?_
    refine A_callV4 m_MD_sound T_ok d_MD_sample_261 l_MD_610 k_MD_sound (hb_s hb0 sf_170) rfl (by decide +kernel) (by decide) (Nat.le_of_ble_eq_true rfl) H (fun r h9 hq => ?_)
    clear H
    obtain ⟨z11, rfl, hb10, H⟩ := hq
    have H0 := H.1
    replace H := H.2
    refine A_dadd d_MD_sample_264 H0 ?_
    refine A_dstore_n 3 (L' := [some (av_R (some 170)), some (av_I a1), some (av_I a2), some (av_D (FP.dadd v3 z11)), none, some (av_I v5), some (av_I v6), some (av_I v7), none, none, none, none, some (av_L v12), none, some (av_L v14), none, some (av_I v16)]) d_MD_sample_265 rfl (Nat.le_of_ble_eq_true rfl) rfl ?_
    have g12 := H.1
    replace H := H.2
    refine A_iincv (z := (v16 + 1)) (L' := [some (av_R (some 170)), some (av_I a1), some (av_I a2), some (av_D (FP.dadd v3 z11)), none, some (av_I v5), some (av_I v6), some (av_I v7), none, none, none, none, some (av_L v12), none, some (av_L v14), none, some (av_I (v16 + 1))]) d_MD_sample_266 rfl (w32_to (by omega) (by unfold i32; omega)) rfl ?_
    refine A_goto (tgt := 229) d_MD_sample_269 (by decide) ?_
    refine A_pc (pc' := 229) rfl ?_
    exact hX229 (FP.dadd v3 z11) (v5) (v6) (v7) (v12) (v14) ((v16 + 1)) h9  hb10 H
theorem lp_MD_sample_229 {G : cx_T} {s : Nat} {a1 : Int} {a2 : Int} {Q : Option av_T → ah_T → Prop} {X37 : UInt64 → Int → Int → ah_T → Prop} (hX37 : ∀ (v3 : UInt64) (v5 : Int) (v6 : Int) (h : ah_T), hb s h → X37 v3 v5 v6 h → aw G (rm_R 4 0 0) m_MD_sample 0 0 37 [some (av_R (some 170)), some (av_I a1), some (av_I a2), some (av_D v3), none, some (av_I v5), some (av_I v6), none, none, none, none, none, none, none, none, none, none] [] h Q) (I : UInt64 → Int → Int → Int → Int → Int → Int → ah_T → Prop) (μ : UInt64 → Int → Int → Int → Int → Int → Int → ah_T → Nat) (hI : ∀ (v3 : UInt64) (v5 : Int) (v6 : Int) (v7 : Int) (v12 : Int) (v14 : Int) (v16 : Int) (h : ah_T), hb s h → I v3 v5 v6 v7 v12 v14 v16 h → B_MD_sample_229 G s a1 a2 v3 v5 v6 v7 v12 v14 v16 h Q X37 (fun v3' v5' v6' v7' v12' v14' v16' h' => I v3' v5' v6' v7' v12' v14' v16' h' ∧ μ v3' v5' v6' v7' v12' v14' v16' h' < μ v3 v5 v6 v7 v12 v14 v16 h)) : ∀ (v3 : UInt64) (v5 : Int) (v6 : Int) (v7 : Int) (v12 : Int) (v14 : Int) (v16 : Int) (h : ah_T), hb s h → I v3 v5 v6 v7 v12 v14 v16 h → aw G (rm_R 4 0 0) m_MD_sample 0 0 229 [some (av_R (some 170)), some (av_I a1), some (av_I a2), some (av_D v3), none, some (av_I v5), some (av_I v6), some (av_I v7), none, none, none, none, some (av_L v12), none, some (av_L v14), none, some (av_I v16)] [] h Q := by
  have key : ∀ (n : Nat) (v3 : UInt64) (v5 : Int) (v6 : Int) (v7 : Int) (v12 : Int) (v14 : Int) (v16 : Int) (h : ah_T), hb s h → I v3 v5 v6 v7 v12 v14 v16 h → μ v3 v5 v6 v7 v12 v14 v16 h < n → aw G (rm_R 4 0 0) m_MD_sample 0 0 229 [some (av_R (some 170)), some (av_I a1), some (av_I a2), some (av_D v3), none, some (av_I v5), some (av_I v6), some (av_I v7), none, none, none, none, some (av_L v12), none, some (av_L v14), none, some (av_I v16)] [] h Q := by
    intro n
    induction n with
    | zero => intro v3 v5 v6 v7 v12 v14 v16 h  hb0 hi hm; omega
    | succ n ih => intro v3 v5 v6 v7 v12 v14 v16 h  hb0 hi hm; exact b_MD_sample_229  hX37 (fun v3' v5' v6' v7' v12' v14' v16' h'  hb' hx => ih v3' v5' v6' v7' v12' v14' v16' h'  hb' hx.1 (by have := hx.2; omega))  hb0 (hI v3 v5 v6 v7 v12 v14 v16 h  hb0 hi)
  exact fun v3 v5 v6 v7 v12 v14 v16 h  hb0 hi => key _ v3 v5 v6 v7 v12 v14 v16 h  hb0 hi (Nat.lt_succ_self _)
def B_MD_sample_37 (G : cx_T) (s : Nat) (a1 : Int) (a2 : Int) (v3 : UInt64) (v5 : Int) (v6 : Int) (h : ah_T) (Q : Option av_T → ah_T → Prop) (X23 : UInt64 → Int → ah_T → Prop) (X37 : UInt64 → Int → Int → ah_T → Prop) (X229 : UInt64 → Int → Int → Int → Int → Int → Int → ah_T → Prop) : Prop :=
 (0 ≤ v5 ∧ v5 < 8) ∧ ∀ x2 : Int, x2 = h.2.1 185 (v5).toNat → -2147483648 ≤ x2 → x2 ≤ 2147483647 → ((x2 ≤ v6 → ((-2147483648) ≤ (v5 + 1) ∧ (v5 + 1) ≤ 2147483647) ∧ X23 v3 ((v5 + 1)) h) ∧ (¬ x2 ≤ v6 → ((-2147483648) ≤ (300 * v5) ∧ (300 * v5) ≤ 2147483647) ∧ ((-2147483648) ≤ (300 * v5 + v6) ∧ (300 * v5 + v6) ≤ 2147483647) ∧ (0 ≤ (300 * v5 + v6) ∧ (300 * v5 + v6) < 2400) ∧ ∀ x8 : Int, x8 = h.2.1 191 ((300 * v5 + v6)).toNat → -2147483648 ≤ x8 → x8 ≤ 2147483647 → ((x8 = 0 → B_MD_sample_272 G s a1 a2 v3 (v5) (v6) h Q X37) ∧ (¬ x8 = 0 → ∀ x11 : Int, x11 = h.2.2.1 187 ((300 * v5 + v6)).toNat → -9223372036854775808 ≤ x11 → x11 ≤ 9223372036854775807 → ∀ x13 : Int, x13 = h.2.2.1 188 ((300 * v5 + v6)).toNat → -9223372036854775808 ≤ x13 → x13 ≤ 9223372036854775807 → ∀ x15 : Int, x15 = h.2.2.1 189 ((300 * v5 + v6)).toNat → -9223372036854775808 ≤ x15 → x15 ≤ 9223372036854775807 → ∀ x17 : Int, x17 = h.2.2.1 190 ((300 * v5 + v6)).toNat → -9223372036854775808 ≤ x17 → x17 ≤ 9223372036854775807 → con G 2 0 0 m_MD_sum [av_R (some 170), av_L x11, av_L x13, av_L x15, av_L x17] h (fun r h18 => r = none ∧ hb s h18 ∧ ∀ x21 : Int, x21 = h18.2.2.1 170 65 → -9223372036854775808 ≤ x21 → x21 ≤ 9223372036854775807 → ((-9223372036854775808) ≤ (2 * x21) ∧ (2 * x21) ≤ 9223372036854775807) ∧ ∀ x23 : Int, x23 = h18.2.2.1 170 66 → -9223372036854775808 ≤ x23 → x23 ≤ 9223372036854775807 → con G 1 0 0 m_MD_fraction [av_R (some 170), av_L a1, av_L a2] h18 (fun r h24 => r = none ∧ hb s h24 ∧ ∀ x27 : Int, x27 = h24.2.2.1 170 65 → -9223372036854775808 ≤ x27 → x27 ≤ 9223372036854775807 → ∀ x28 : Int, x28 = h24.2.2.1 170 66 → -9223372036854775808 ≤ x28 → x28 ≤ 9223372036854775807 → ∀ x30 : Int, x30 = h24.2.2.1 187 ((300 * v5 + v6)).toNat → -9223372036854775808 ≤ x30 → x30 ≤ 9223372036854775807 → ((-9223372036854775808) ≤ (2 * x30) ∧ (2 * x30) ≤ 9223372036854775807) ∧ ∀ x33 : Int, x33 = h24.2.2.1 188 ((300 * v5 + v6)).toNat → -9223372036854775808 ≤ x33 → x33 ≤ 9223372036854775807 → con G 0 0 0 m_MD_compare [av_R (some 170), av_L x27, av_L x28, av_L (2 * x30), av_L x33] h24 (fun r h34 => ∃ z36 : Int, r = some (av_I z36) ∧ hb s h34 ∧ ((z36 < 0 → B_MD_sample_272 G s a1 a2 v3 (v5) (v6) h34 Q X37) ∧ (¬ z36 < 0 → ∀ x37 : Int, x37 = h34.2.2.1 170 65 → -9223372036854775808 ≤ x37 → x37 ≤ 9223372036854775807 → ∀ x38 : Int, x38 = h34.2.2.1 170 66 → -9223372036854775808 ≤ x38 → x38 ≤ 9223372036854775807 → con G 0 0 0 m_MD_compare [av_R (some 170), av_L x37, av_L x38, av_L (2 * x21), av_L x23] h34 (fun r h39 => ∃ z41 : Int, r = some (av_I z41) ∧ hb s h39 ∧ ((z41 < 0 → ∀ x42 : Int, x42 = h39.2.2.1 170 65 → -9223372036854775808 ≤ x42 → x42 ≤ 9223372036854775807 → ∀ x43 : Int, x43 = h39.2.2.1 170 66 → -9223372036854775808 ≤ x43 → x43 ≤ 9223372036854775807 → ∀ x45 : Int, x45 = h39.2.2.1 187 ((300 * v5 + v6)).toNat → -9223372036854775808 ≤ x45 → x45 ≤ 9223372036854775807 → ((-9223372036854775808) ≤ ((-2) * x45) ∧ ((-2) * x45) ≤ 9223372036854775807) ∧ ∀ x48 : Int, x48 = h39.2.2.1 188 ((300 * v5 + v6)).toNat → -9223372036854775808 ≤ x48 → x48 ≤ 9223372036854775807 → con G 2 0 0 m_MD_sum [av_R (some 170), av_L x42, av_L x43, av_L ((-2) * x45), av_L x48] h39 (fun r h49 => r = none ∧ hb s h49 ∧ ∀ x52 : Int, x52 = h49.2.2.1 170 65 → -9223372036854775808 ≤ x52 → x52 ≤ 9223372036854775807 → ∀ x53 : Int, x53 = h49.2.2.1 170 66 → -9223372036854775808 ≤ x53 → x53 ≤ 9223372036854775807 → X229 v3 (v5) (v6) ((300 * v5 + v6)) (x52) (x53) (0) h49)) ∧ (¬ z41 < 0 → B_MD_sample_272 G s a1 a2 v3 (v5) (v6) h39 Q X37))))))))))))
theorem b_MD_sample_37 {G : cx_T} {s : Nat} {a1 : Int} {a2 : Int} {v3 : UInt64} {v5 : Int} {v6 : Int} {h : ah_T} {Q : Option av_T → ah_T → Prop} {X23 : UInt64 → Int → ah_T → Prop} {X37 : UInt64 → Int → Int → ah_T → Prop} {X229 : UInt64 → Int → Int → Int → Int → Int → Int → ah_T → Prop} (hX23 : ∀ (v3 : UInt64) (v5 : Int) (h : ah_T), hb s h → X23 v3 v5 h → aw G (rm_R 4 0 0) m_MD_sample 0 0 23 [some (av_R (some 170)), some (av_I a1), some (av_I a2), some (av_D v3), none, some (av_I v5), none, none, none, none, none, none, none, none, none, none, none] [] h Q) (hX37 : ∀ (v3 : UInt64) (v5 : Int) (v6 : Int) (h : ah_T), hb s h → X37 v3 v5 v6 h → aw G (rm_R 4 0 0) m_MD_sample 0 0 37 [some (av_R (some 170)), some (av_I a1), some (av_I a2), some (av_D v3), none, some (av_I v5), some (av_I v6), none, none, none, none, none, none, none, none, none, none] [] h Q) (hX229 : ∀ (v3 : UInt64) (v5 : Int) (v6 : Int) (v7 : Int) (v12 : Int) (v14 : Int) (v16 : Int) (h : ah_T), hb s h → X229 v3 v5 v6 v7 v12 v14 v16 h → aw G (rm_R 4 0 0) m_MD_sample 0 0 229 [some (av_R (some 170)), some (av_I a1), some (av_I a2), some (av_D v3), none, some (av_I v5), some (av_I v6), some (av_I v7), none, none, none, none, some (av_L v12), none, some (av_L v14), none, some (av_I v16)] [] h Q) (hb0 : hb s h) (H : B_MD_sample_37 G s a1 a2 v3 v5 v6 h Q X23 X37 X229) : aw G (rm_R 4 0 0) m_MD_sample 0 0 37 [some (av_R (some 170)), some (av_I a1), some (av_I a2), some (av_D v3), none, some (av_I v5), some (av_I v6), none, none, none, none, none, none, none, none, none, none] [] h Q := by
  unfold B_MD_sample_37 at H
  have hS : isS s := hb0.2.1
  refine A_iload d_MD_sample_37 rfl ?_
  refine A_aload_n 0 d_MD_sample_39 rfl rfl ?_
  refine A_getAv (z := some 185) T_ok d_MD_sample_40 f_MD_57 (hb_s hb0 sf_170) (hb_m hb0 rfm_27) ?_
  refine A_iload d_MD_sample_43 rfl ?_
  have g3 := H.1
  replace H := H.2
  refine A_ialoadf d_MD_sample_45 (hb_s hb0 sf_185) g3.1 g3.2 (fun x2 ex2 lx2 ux2 => ?_)
  replace H := H x2 ex2 lx2 ux2
  refine A_pc (pc' := 46) rfl ?_
  refine A_icmp_ge (tgt := 278) d_MD_sample_46 (by decide) (fun c => ?_) (fun c => ?_)
  · replace H := H.1 c
    have g4 := H.1
    replace H := H.2
    refine A_iincv (z := (v5 + 1)) (L' := [some (av_R (some 170)), some (av_I a1), some (av_I a2), some (av_D v3), none, some (av_I (v5 + 1)), some (av_I v6), none, none, none, none, none, none, none, none, none, none]) d_MD_sample_278 rfl (w32_to (by omega) (by unfold i32; omega)) rfl ?_
    refine A_goto (tgt := 23) d_MD_sample_281 (by decide) ?_
    refine A_pc (pc' := 23) rfl ?_
    refine A_free (L' := [some (av_R (some 170)), some (av_I a1), some (av_I a2), some (av_D v3), none, some (av_I (v5 + 1)), none, none, none, none, none, none, none, none, none, none, none]) (And.intro rfl (And.intro rfl (And.intro rfl (And.intro rfl (And.intro rfl trivial))))) ?_
    exact hX23 v3 ((v5 + 1)) h  hb0 H
  · replace H := H.2 c
    refine A_sipush d_MD_sample_49 rfl ?_
    refine A_iload d_MD_sample_52 rfl ?_
    have g5 := H.1
    replace H := H.2
    refine A_imulv (z := (300 * v5)) d_MD_sample_54 (w32_to (by omega) (by unfold i32; omega)) ?_
    refine A_iload d_MD_sample_55 rfl ?_
    have g6 := H.1
    replace H := H.2
    refine A_iaddv (z := (300 * v5 + v6)) d_MD_sample_57 (w32_to (by omega) (by unfold i32; omega)) ?_
    refine A_pc (pc' := 58) rfl ?_
    refine A_istore (L' := [some (av_R (some 170)), some (av_I a1), some (av_I a2), some (av_D v3), none, some (av_I v5), some (av_I v6), some (av_I (300 * v5 + v6)), none, none, none, none, none, none, none, none, none]) d_MD_sample_58 (Nat.le_of_ble_eq_true rfl) rfl ?_
    refine A_aload_n 0 d_MD_sample_60 rfl rfl ?_
    refine A_getAv (z := some 191) T_ok d_MD_sample_61 f_MD_75 (hb_s hb0 sf_170) (hb_m hb0 rfm_33) ?_
    refine A_iload d_MD_sample_64 rfl ?_
    have g9 := H.1
    replace H := H.2
    refine A_ialoadf d_MD_sample_66 (hb_s hb0 sf_191) g9.1 g9.2 (fun x8 ex8 lx8 ux8 => ?_)
    replace H := H x8 ex8 lx8 ux8
    refine A_if_ne (tgt := 73) d_MD_sample_67 (by decide) (fun c => ?_) (fun c => ?_)
    · replace H := H.2 c
      refine A_aload_n 0 d_MD_sample_73 rfl rfl ?_
      refine A_aload_n 0 d_MD_sample_74 rfl rfl ?_
      refine A_getAv (z := some 187) T_ok d_MD_sample_75 f_MD_63 (hb_s hb0 sf_170) (hb_m hb0 rfm_29) ?_
      refine A_iload d_MD_sample_78 rfl ?_
      refine A_laloadf d_MD_sample_80 (hb_s hb0 sf_187) g9.1 g9.2 (fun x11 ex11 lx11 ux11 => ?_)
      replace H := H x11 ex11 lx11 ux11
      refine A_pc (pc' := 81) rfl ?_
      refine A_aload_n 0 d_MD_sample_81 rfl rfl ?_
      refine A_getAv (z := some 188) T_ok d_MD_sample_82 f_MD_66 (hb_s hb0 sf_170) (hb_m hb0 rfm_30) ?_
      refine A_iload d_MD_sample_85 rfl ?_
      refine A_laloadf d_MD_sample_87 (hb_s hb0 sf_188) g9.1 g9.2 (fun x13 ex13 lx13 ux13 => ?_)
      replace H := H x13 ex13 lx13 ux13
      refine A_aload_n 0 d_MD_sample_88 rfl rfl ?_
      refine A_getAv (z := some 189) T_ok d_MD_sample_89 f_MD_69 (hb_s hb0 sf_170) (hb_m hb0 rfm_31) ?_
      refine A_pc (pc' := 92) rfl ?_
      refine A_iload d_MD_sample_92 rfl ?_
      refine A_laloadf d_MD_sample_94 (hb_s hb0 sf_189) g9.1 g9.2 (fun x15 ex15 lx15 ux15 => ?_)
      replace H := H x15 ex15 lx15 ux15
      refine A_aload_n 0 d_MD_sample_95 rfl rfl ?_
      refine A_getAv (z := some 190) T_ok d_MD_sample_96 f_MD_72 (hb_s hb0 sf_170) (hb_m hb0 rfm_32) ?_
      refine A_iload d_MD_sample_99 rfl ?_
      refine A_laloadf d_MD_sample_101 (hb_s hb0 sf_190) g9.1 g9.2 (fun x17 ex17 lx17 ux17 => ?_)
      replace H := H x17 ex17 lx17 ux17
      refine A_pc (pc' := 102) rfl ?_
      refine A_callV4 m_MD_sum T_ok d_MD_sample_102 l_MD_458 k_MD_sum (hb_s hb0 sf_170) rfl (by decide +kernel) (by decide) (Nat.le_of_ble_eq_true rfl) H (fun r h18 hq => ?_)
      clear H
      obtain ⟨rfl, hb19, H⟩ := hq
      refine A_ldc2 (z := 2) d_MD_sample_105 cst_MD_452 rfl ?_
      refine A_aload_n 0 d_MD_sample_108 rfl rfl ?_
      refine A_getLf T_ok d_MD_sample_109 f_MD_385 (hb_s hb19 sf_170) (fun x21 ex21 lx21 ux21 => ?_)
      replace H := H x21 ex21 lx21 ux21
      have g22 := H.1
      replace H := H.2
      refine A_lmulv (z := (2 * x21)) d_MD_sample_112 (w64_to (by omega) (by unfold i64; omega)) ?_
      refine A_lstore (L' := [some (av_R (some 170)), some (av_I a1), some (av_I a2), some (av_D v3), none, some (av_I v5), some (av_I v6), some (av_I (300 * v5 + v6)), some (av_L (2 * x21)), none, none, none, none, none, none, none, none]) d_MD_sample_113 (Nat.le_of_ble_eq_true rfl) rfl ?_
      refine A_pc (pc' := 115) rfl ?_
      refine A_aload_n 0 d_MD_sample_115 rfl rfl ?_
      refine A_getLf T_ok d_MD_sample_116 f_MD_388 (hb_s hb19 sf_170) (fun x23 ex23 lx23 ux23 => ?_)
      replace H := H x23 ex23 lx23 ux23
      refine A_lstore (L' := [some (av_R (some 170)), some (av_I a1), some (av_I a2), some (av_D v3), none, some (av_I v5), some (av_I v6), some (av_I (300 * v5 + v6)), some (av_L (2 * x21)), none, some (av_L x23), none, none, none, none, none, none]) d_MD_sample_119 (Nat.le_of_ble_eq_true rfl) rfl ?_
      refine A_aload_n 0 d_MD_sample_121 rfl rfl ?_
      refine A_iload_n 1 d_MD_sample_122 rfl rfl ?_
      refine A_i2l d_MD_sample_123 ?_
      refine A_pc (pc' := 124) rfl ?_
      refine A_iload_n 2 d_MD_sample_124 rfl rfl ?_
      refine A_i2l d_MD_sample_125 ?_
      refine A_callV2 m_MD_fraction T_ok d_MD_sample_126 l_MD_391 k_MD_fraction (hb_s hb19 sf_170) rfl (by decide +kernel) (by decide) (Nat.le_of_ble_eq_true rfl) H (fun r h24 hq => ?_)
      clear H
      obtain ⟨rfl, hb25, H⟩ := hq
      refine A_aload_n 0 d_MD_sample_129 rfl rfl ?_
      refine A_aload_n 0 d_MD_sample_130 rfl rfl ?_
      refine A_getLf T_ok d_MD_sample_131 f_MD_385 (hb_s hb25 sf_170) (fun x27 ex27 lx27 ux27 => ?_)
      replace H := H x27 ex27 lx27 ux27
      refine A_aload_n 0 d_MD_sample_134 rfl rfl ?_
      refine A_getLf T_ok d_MD_sample_135 f_MD_388 (hb_s hb25 sf_170) (fun x28 ex28 lx28 ux28 => ?_)
      replace H := H x28 ex28 lx28 ux28
      refine A_pc (pc' := 138) rfl ?_
      refine A_ldc2 (z := 2) d_MD_sample_138 cst_MD_452 rfl ?_
      refine A_aload_n 0 d_MD_sample_141 rfl rfl ?_
      refine A_getAv (z := some 187) T_ok d_MD_sample_142 f_MD_63 (hb_s hb25 sf_170) (hb_m hb25 rfm_29) ?_
      refine A_iload d_MD_sample_145 rfl ?_
      refine A_laloadf d_MD_sample_147 (hb_s hb25 sf_187) g9.1 g9.2 (fun x30 ex30 lx30 ux30 => ?_)
      replace H := H x30 ex30 lx30 ux30
      have g31 := H.1
      replace H := H.2
      refine A_lmulv (z := (2 * x30)) d_MD_sample_148 (w64_to (by omega) (by unfold i64; omega)) ?_
      refine A_pc (pc' := 149) rfl ?_
      refine A_aload_n 0 d_MD_sample_149 rfl rfl ?_
      refine A_getAv (z := some 188) T_ok d_MD_sample_150 f_MD_66 (hb_s hb25 sf_170) (hb_m hb25 rfm_30) ?_
      refine A_iload d_MD_sample_153 rfl ?_
      refine A_laloadf d_MD_sample_155 (hb_s hb25 sf_188) g9.1 g9.2 (fun x33 ex33 lx33 ux33 => ?_)
      replace H := H x33 ex33 lx33 ux33
      refine A_callV4 m_MD_compare T_ok d_MD_sample_156 l_MD_500 k_MD_compare (hb_s hb25 sf_170) rfl (by decide +kernel) (by decide) (Nat.le_of_ble_eq_true rfl) H (fun r h34 hq => ?_)
      clear H
      obtain ⟨z36, rfl, hb35, H⟩ := hq
      refine A_if_lt (tgt := 272) d_MD_sample_159 (by decide) (fun c => ?_) (fun c => ?_)
      · replace H := H.1 c
        refine A_pc (pc' := 272) rfl ?_
        refine A_free (L' := [some (av_R (some 170)), some (av_I a1), some (av_I a2), some (av_D v3), none, some (av_I v5), some (av_I v6), none, none, none, none, none, none, none, none, none, none]) (And.intro rfl (And.intro rfl (And.intro rfl (And.intro rfl (And.intro rfl (And.intro rfl trivial)))))) ?_
        exact b_MD_sample_272  hX37  hb35 H
      · replace H := H.2 c
        refine A_aload_n 0 d_MD_sample_162 rfl rfl ?_
        refine A_aload_n 0 d_MD_sample_163 rfl rfl ?_
        refine A_getLf T_ok d_MD_sample_164 f_MD_385 (hb_s hb35 sf_170) (fun x37 ex37 lx37 ux37 => ?_)
        replace H := H x37 ex37 lx37 ux37
        refine A_aload_n 0 d_MD_sample_167 rfl rfl ?_
        refine A_getLf T_ok d_MD_sample_168 f_MD_388 (hb_s hb35 sf_170) (fun x38 ex38 lx38 ux38 => ?_)
        replace H := H x38 ex38 lx38 ux38
        refine A_pc (pc' := 171) rfl ?_
        refine A_lload d_MD_sample_171 rfl ?_
        refine A_lload d_MD_sample_173 rfl ?_
        refine A_callV4 m_MD_compare T_ok d_MD_sample_175 l_MD_500 k_MD_compare (hb_s hb35 sf_170) rfl (by decide +kernel) (by decide) (Nat.le_of_ble_eq_true rfl) H (fun r h39 hq => ?_)
        clear H
        obtain ⟨z41, rfl, hb40, H⟩ := hq
        refine A_if_lt (tgt := 184) d_MD_sample_178 (by decide) (fun c => ?_) (fun c => ?_)
        · replace H := H.1 c
          refine A_aload_n 0 d_MD_sample_184 rfl rfl ?_
          refine A_aload_n 0 d_MD_sample_185 rfl rfl ?_
          refine A_getLf T_ok d_MD_sample_186 f_MD_385 (hb_s hb40 sf_170) (fun x42 ex42 lx42 ux42 => ?_)
          replace H := H x42 ex42 lx42 ux42
          refine A_aload_n 0 d_MD_sample_189 rfl rfl ?_
          refine A_getLf T_ok d_MD_sample_190 f_MD_388 (hb_s hb40 sf_170) (fun x43 ex43 lx43 ux43 => ?_)
          replace H := H x43 ex43 lx43 ux43
          refine A_pc (pc' := 193) rfl ?_
          refine A_ldc2 (z := (-2)) d_MD_sample_193 cst_MD_608 rfl ?_
          refine A_aload_n 0 d_MD_sample_196 rfl rfl ?_
          refine A_getAv (z := some 187) T_ok d_MD_sample_197 f_MD_63 (hb_s hb40 sf_170) (hb_m hb40 rfm_29) ?_
          refine A_iload d_MD_sample_200 rfl ?_
          refine A_laloadf d_MD_sample_202 (hb_s hb40 sf_187) g9.1 g9.2 (fun x45 ex45 lx45 ux45 => ?_)
          replace H := H x45 ex45 lx45 ux45
          have g46 := H.1
          replace H := H.2
          refine A_lmulv (z := ((-2) * x45)) d_MD_sample_203 (w64_to (by omega) (by unfold i64; omega)) ?_
          refine A_pc (pc' := 204) rfl ?_
          refine A_aload_n 0 d_MD_sample_204 rfl rfl ?_
          refine A_getAv (z := some 188) T_ok d_MD_sample_205 f_MD_66 (hb_s hb40 sf_170) (hb_m hb40 rfm_30) ?_
          refine A_iload d_MD_sample_208 rfl ?_
          refine A_laloadf d_MD_sample_210 (hb_s hb40 sf_188) g9.1 g9.2 (fun x48 ex48 lx48 ux48 => ?_)
          replace H := H x48 ex48 lx48 ux48
          refine A_callV4 m_MD_sum T_ok d_MD_sample_211 l_MD_458 k_MD_sum (hb_s hb40 sf_170) rfl (by decide +kernel) (by decide) (Nat.le_of_ble_eq_true rfl) H (fun r h49 hq => ?_)
          clear H
          obtain ⟨rfl, hb50, H⟩ := hq
          refine A_aload_n 0 d_MD_sample_214 rfl rfl ?_
          refine A_getLf T_ok d_MD_sample_215 f_MD_385 (hb_s hb50 sf_170) (fun x52 ex52 lx52 ux52 => ?_)
          replace H := H x52 ex52 lx52 ux52
          refine A_lstore (L' := [some (av_R (some 170)), some (av_I a1), some (av_I a2), some (av_D v3), none, some (av_I v5), some (av_I v6), some (av_I (300 * v5 + v6)), some (av_L (2 * x21)), none, some (av_L x23), none, some (av_L x52), none, none, none, none]) d_MD_sample_218 (Nat.le_of_ble_eq_true rfl) rfl ?_
          refine A_aload_n 0 d_MD_sample_220 rfl rfl ?_
          refine A_getLf T_ok d_MD_sample_221 f_MD_388 (hb_s hb50 sf_170) (fun x53 ex53 lx53 ux53 => ?_)
          replace H := H x53 ex53 lx53 ux53
          refine A_pc (pc' := 224) rfl ?_
          refine A_lstore (L' := [some (av_R (some 170)), some (av_I a1), some (av_I a2), some (av_D v3), none, some (av_I v5), some (av_I v6), some (av_I (300 * v5 + v6)), some (av_L (2 * x21)), none, some (av_L x23), none, some (av_L x52), none, some (av_L x53), none, none]) d_MD_sample_224 (Nat.le_of_ble_eq_true rfl) rfl ?_
          refine A_iconst d_MD_sample_226 rfl ?_
          refine A_istore (L' := [some (av_R (some 170)), some (av_I a1), some (av_I a2), some (av_D v3), none, some (av_I v5), some (av_I v6), some (av_I (300 * v5 + v6)), some (av_L (2 * x21)), none, some (av_L x23), none, some (av_L x52), none, some (av_L x53), none, some (av_I 0)]) d_MD_sample_227 (Nat.le_of_ble_eq_true rfl) rfl ?_
          refine A_pc (pc' := 229) rfl ?_
          refine A_free (L' := [some (av_R (some 170)), some (av_I a1), some (av_I a2), some (av_D v3), none, some (av_I v5), some (av_I v6), some (av_I (300 * v5 + v6)), none, none, none, none, some (av_L x52), none, some (av_L x53), none, some (av_I 0)]) (And.intro rfl (And.intro rfl (And.intro rfl (And.intro rfl (And.intro rfl (And.intro rfl (And.intro rfl (And.intro rfl (And.intro rfl (And.intro rfl trivial)))))))))) ?_
          exact hX229 v3 (v5) (v6) ((300 * v5 + v6)) (x52) (x53) (0) h49  hb50 H
        · replace H := H.2 c
          refine A_goto (tgt := 272) d_MD_sample_181 (by decide) ?_
          refine A_pc (pc' := 272) rfl ?_
          refine A_free (L' := [some (av_R (some 170)), some (av_I a1), some (av_I a2), some (av_D v3), none, some (av_I v5), some (av_I v6), none, none, none, none, none, none, none, none, none, none]) (And.intro rfl (And.intro rfl (And.intro rfl (And.intro rfl (And.intro rfl (And.intro rfl trivial)))))) ?_
          exact b_MD_sample_272  hX37  hb40 H
    · replace H := H.1 c
      refine A_goto (tgt := 272) d_MD_sample_70 (by decide) ?_
      refine A_pc (pc' := 272) rfl ?_
      refine A_free (L' := [some (av_R (some 170)), some (av_I a1), some (av_I a2), some (av_D v3), none, some (av_I v5), some (av_I v6), none, none, none, none, none, none, none, none, none, none]) (And.intro rfl (And.intro rfl (And.intro rfl (And.intro rfl (And.intro rfl (And.intro rfl trivial)))))) ?_
      exact b_MD_sample_272  hX37  hb0 H
theorem lp_MD_sample_37 {G : cx_T} {s : Nat} {a1 : Int} {a2 : Int} {Q : Option av_T → ah_T → Prop} {X23 : UInt64 → Int → ah_T → Prop} {X229 : UInt64 → Int → Int → Int → Int → Int → Int → ah_T → Prop} (hX23 : ∀ (v3 : UInt64) (v5 : Int) (h : ah_T), hb s h → X23 v3 v5 h → aw G (rm_R 4 0 0) m_MD_sample 0 0 23 [some (av_R (some 170)), some (av_I a1), some (av_I a2), some (av_D v3), none, some (av_I v5), none, none, none, none, none, none, none, none, none, none, none] [] h Q) (hX229 : ∀ (v3 : UInt64) (v5 : Int) (v6 : Int) (v7 : Int) (v12 : Int) (v14 : Int) (v16 : Int) (h : ah_T), hb s h → X229 v3 v5 v6 v7 v12 v14 v16 h → aw G (rm_R 4 0 0) m_MD_sample 0 0 229 [some (av_R (some 170)), some (av_I a1), some (av_I a2), some (av_D v3), none, some (av_I v5), some (av_I v6), some (av_I v7), none, none, none, none, some (av_L v12), none, some (av_L v14), none, some (av_I v16)] [] h Q) (I : UInt64 → Int → Int → ah_T → Prop) (μ : UInt64 → Int → Int → ah_T → Nat) (hI : ∀ (v3 : UInt64) (v5 : Int) (v6 : Int) (h : ah_T), hb s h → I v3 v5 v6 h → B_MD_sample_37 G s a1 a2 v3 v5 v6 h Q X23 (fun v3' v5' v6' h' => I v3' v5' v6' h' ∧ μ v3' v5' v6' h' < μ v3 v5 v6 h) X229) : ∀ (v3 : UInt64) (v5 : Int) (v6 : Int) (h : ah_T), hb s h → I v3 v5 v6 h → aw G (rm_R 4 0 0) m_MD_sample 0 0 37 [some (av_R (some 170)), some (av_I a1), some (av_I a2), some (av_D v3), none, some (av_I v5), some (av_I v6), none, none, none, none, none, none, none, none, none, none] [] h Q := by
  have key : ∀ (n : Nat) (v3 : UInt64) (v5 : Int) (v6 : Int) (h : ah_T), hb s h → I v3 v5 v6 h → μ v3 v5 v6 h < n → aw G (rm_R 4 0 0) m_MD_sample 0 0 37 [some (av_R (some 170)), some (av_I a1), some (av_I a2), some (av_D v3), none, some (av_I v5), some (av_I v6), none, none, none, none, none, none, none, none, none, none] [] h Q := by
    intro n
    induction n with
    | zero => intro v3 v5 v6 h  hb0 hi hm; omega
    | succ n ih => intro v3 v5 v6 h  hb0 hi hm; exact b_MD_sample_37  hX23 (fun v3' v5' v6' h'  hb' hx => ih v3' v5' v6' h'  hb' hx.1 (by have := hx.2; omega)) hX229  hb0 (hI v3 v5 v6 h  hb0 hi)
  exact fun v3 v5 v6 h  hb0 hi => key _ v3 v5 v6 h  hb0 hi (Nat.lt_succ_self _)
def B_MD_sample_23 (G : cx_T) (s : Nat) (a1 : Int) (a2 : Int) (v3 : UInt64) (v5 : Int) (h : ah_T) (Q : Option av_T → ah_T → Prop) (X37 : UInt64 → Int → Int → ah_T → Prop) : Prop :=
 ∀ x2 : Int, x2 = h.2.1 172 0 → -2147483648 ≤ x2 → x2 ≤ 2147483647 → ((x2 ≤ v5 → Q (some (av_D v3)) h) ∧ (¬ x2 ≤ v5 → X37 v3 (v5) (0) h))
theorem b_MD_sample_23 {G : cx_T} {s : Nat} {a1 : Int} {a2 : Int} {v3 : UInt64} {v5 : Int} {h : ah_T} {Q : Option av_T → ah_T → Prop} {X37 : UInt64 → Int → Int → ah_T → Prop} (hX37 : ∀ (v3 : UInt64) (v5 : Int) (v6 : Int) (h : ah_T), hb s h → X37 v3 v5 v6 h → aw G (rm_R 4 0 0) m_MD_sample 0 0 37 [some (av_R (some 170)), some (av_I a1), some (av_I a2), some (av_D v3), none, some (av_I v5), some (av_I v6), none, none, none, none, none, none, none, none, none, none] [] h Q) (hb0 : hb s h) (H : B_MD_sample_23 G s a1 a2 v3 v5 h Q X37) : aw G (rm_R 4 0 0) m_MD_sample 0 0 23 [some (av_R (some 170)), some (av_I a1), some (av_I a2), some (av_D v3), none, some (av_I v5), none, none, none, none, none, none, none, none, none, none, none] [] h Q := by
  unfold B_MD_sample_23 at H
  have hS : isS s := hb0.2.1
  refine A_iload d_MD_sample_23 rfl ?_
  refine A_aload_n 0 d_MD_sample_25 rfl rfl ?_
  refine A_getAv (z := some 172) T_ok d_MD_sample_26 f_MD_17 (hb_s hb0 sf_170) (hb_m hb0 rfm_14) ?_
  refine A_iconst d_MD_sample_29 rfl ?_
  refine A_ialoadf d_MD_sample_30 (hb_s hb0 sf_172) (by decide) (by decide) (fun x2 ex2 lx2 ux2 => ?_)
  replace H := H x2 ex2 lx2 ux2
  refine A_pc (pc' := 31) rfl ?_
  refine A_icmp_ge (tgt := 284) d_MD_sample_31 (by decide) (fun c => ?_) (fun c => ?_)
  · replace H := H.1 c
    refine A_dload_n 3 d_MD_sample_284 rfl rfl ?_
    exact A_dret d_MD_sample_285 (by decide) rfl H
  · replace H := H.2 c
    refine A_iconst d_MD_sample_34 rfl ?_
    refine A_istore (L' := [some (av_R (some 170)), some (av_I a1), some (av_I a2), some (av_D v3), none, some (av_I v5), some (av_I 0), none, none, none, none, none, none, none, none, none, none]) d_MD_sample_35 (Nat.le_of_ble_eq_true rfl) rfl ?_
    refine A_pc (pc' := 37) rfl ?_
    exact hX37 v3 (v5) (0) h  hb0 H
theorem lp_MD_sample_23 {G : cx_T} {s : Nat} {a1 : Int} {a2 : Int} {Q : Option av_T → ah_T → Prop} {X37 : UInt64 → Int → Int → ah_T → Prop} (hX37 : ∀ (v3 : UInt64) (v5 : Int) (v6 : Int) (h : ah_T), hb s h → X37 v3 v5 v6 h → aw G (rm_R 4 0 0) m_MD_sample 0 0 37 [some (av_R (some 170)), some (av_I a1), some (av_I a2), some (av_D v3), none, some (av_I v5), some (av_I v6), none, none, none, none, none, none, none, none, none, none] [] h Q) (I : UInt64 → Int → ah_T → Prop) (μ : UInt64 → Int → ah_T → Nat) (hI : ∀ (v3 : UInt64) (v5 : Int) (h : ah_T), hb s h → I v3 v5 h → B_MD_sample_23 G s a1 a2 v3 v5 h Q X37) : ∀ (v3 : UInt64) (v5 : Int) (h : ah_T), hb s h → I v3 v5 h → aw G (rm_R 4 0 0) m_MD_sample 0 0 23 [some (av_R (some 170)), some (av_I a1), some (av_I a2), some (av_D v3), none, some (av_I v5), none, none, none, none, none, none, none, none, none, none, none] [] h Q := by
  have key : ∀ (n : Nat) (v3 : UInt64) (v5 : Int) (h : ah_T), hb s h → I v3 v5 h → μ v3 v5 h < n → aw G (rm_R 4 0 0) m_MD_sample 0 0 23 [some (av_R (some 170)), some (av_I a1), some (av_I a2), some (av_D v3), none, some (av_I v5), none, none, none, none, none, none, none, none, none, none, none] [] h Q := by
    intro n
    induction n with
    | zero => intro v3 v5 h  hb0 hi hm; omega
    | succ n ih => intro v3 v5 h  hb0 hi hm; exact b_MD_sample_23  hX37  hb0 (hI v3 v5 h  hb0 hi)
  exact fun v3 v5 h  hb0 hi => key _ v3 v5 h  hb0 hi (Nat.lt_succ_self _)
def B_MD_sample_16 (G : cx_T) (s : Nat) (a1 : Int) (a2 : Int) (h : ah_T) (Q : Option av_T → ah_T → Prop) : Prop :=
 Q (some (av_D FP.dconst0)) h
theorem b_MD_sample_16 {G : cx_T} {s : Nat} {a1 : Int} {a2 : Int} {h : ah_T} {Q : Option av_T → ah_T → Prop} (hb0 : hb s h) (H : B_MD_sample_16 G s a1 a2 h Q ) : aw G (rm_R 4 0 0) m_MD_sample 0 0 16 [none, none, none, none, none, none, none, none, none, none, none, none, none, none, none, none, none] [] h Q := by
  unfold B_MD_sample_16 at H
  have hS : isS s := hb0.2.1
  refine A_dconst_0 d_MD_sample_16 ?_
  exact A_dret d_MD_sample_17 (by decide) rfl H
def B_MD_sample_0 (G : cx_T) (s : Nat) (a1 : Int) (a2 : Int) (h : ah_T) (Q : Option av_T → ah_T → Prop) (X23 : UInt64 → Int → ah_T → Prop) : Prop :=
 ((a1 < 0 → B_MD_sample_16 G s a1 a2 h Q ) ∧ (¬ a1 < 0 → ((a2 < 1 → B_MD_sample_16 G s a1 a2 h Q ) ∧ (¬ a2 < 1 → ((a2 ≤ 10000 → X23 FP.dconst0 (0) h) ∧ (¬ a2 ≤ 10000 → B_MD_sample_16 G s a1 a2 h Q ))))))
theorem b_MD_sample_0 {G : cx_T} {s : Nat} {a1 : Int} {a2 : Int} {h : ah_T} {Q : Option av_T → ah_T → Prop} {X23 : UInt64 → Int → ah_T → Prop} (hX23 : ∀ (v3 : UInt64) (v5 : Int) (h : ah_T), hb s h → X23 v3 v5 h → aw G (rm_R 4 0 0) m_MD_sample 0 0 23 [some (av_R (some 170)), some (av_I a1), some (av_I a2), some (av_D v3), none, some (av_I v5), none, none, none, none, none, none, none, none, none, none, none] [] h Q) (hb0 : hb s h) (H : B_MD_sample_0 G s a1 a2 h Q X23) : aw G (rm_R 4 0 0) m_MD_sample 0 0 0 [some (av_R (some 170)), some (av_I a1), some (av_I a2), none, none, none, none, none, none, none, none, none, none, none, none, none, none] [] h Q := by
  unfold B_MD_sample_0 at H
  have hS : isS s := hb0.2.1
  refine A_iload_n 1 d_MD_sample_0 rfl rfl ?_
  refine A_if_lt (tgt := 16) d_MD_sample_1 (by decide) (fun c => ?_) (fun c => ?_)
  · replace H := H.1 c
    refine A_pc (pc' := 16) rfl ?_
    refine A_free (L' := [none, none, none, none, none, none, none, none, none, none, none, none, none, none, none, none, none]) trivial ?_
    exact b_MD_sample_16    hb0 H
  · replace H := H.2 c
    refine A_iload_n 2 d_MD_sample_4 rfl rfl ?_
    refine A_iconst d_MD_sample_5 rfl ?_
    refine A_icmp_lt (tgt := 16) d_MD_sample_6 (by decide) (fun c => ?_) (fun c => ?_)
    · replace H := H.1 c
      refine A_pc (pc' := 16) rfl ?_
      refine A_free (L' := [none, none, none, none, none, none, none, none, none, none, none, none, none, none, none, none, none]) trivial ?_
      exact b_MD_sample_16    hb0 H
    · replace H := H.2 c
      refine A_iload_n 2 d_MD_sample_9 rfl rfl ?_
      refine A_sipush d_MD_sample_10 rfl ?_
      refine A_icmp_le (tgt := 18) d_MD_sample_13 (by decide) (fun c => ?_) (fun c => ?_)
      · replace H := H.1 c
        refine A_dconst_0 d_MD_sample_18 ?_
        refine A_dstore_n 3 (L' := [some (av_R (some 170)), some (av_I a1), some (av_I a2), some (av_D FP.dconst0), none, none, none, none, none, none, none, none, none, none, none, none, none]) d_MD_sample_19 rfl (Nat.le_of_ble_eq_true rfl) rfl ?_
        refine A_iconst d_MD_sample_20 rfl ?_
        refine A_istore (L' := [some (av_R (some 170)), some (av_I a1), some (av_I a2), some (av_D FP.dconst0), none, some (av_I 0), none, none, none, none, none, none, none, none, none, none, none]) d_MD_sample_21 (Nat.le_of_ble_eq_true rfl) rfl ?_
        refine A_pc (pc' := 23) rfl ?_
        exact hX23 FP.dconst0 (0) h  hb0 H
      · replace H := H.2 c
        refine A_pc (pc' := 16) rfl ?_
        refine A_free (L' := [none, none, none, none, none, none, none, none, none, none, none, none, none, none, none, none, none]) trivial ?_
        exact b_MD_sample_16    hb0 H
theorem c_MD_sample {G : cx_T} {s : Nat} {a1 : Int} {a2 : Int} {h : ah_T} {Q : Option av_T → ah_T → Prop} {X23 : UInt64 → Int → ah_T → Prop} (hX23 : ∀ (v3 : UInt64) (v5 : Int) (h : ah_T), hb s h → X23 v3 v5 h → aw G (rm_R 4 0 0) m_MD_sample 0 0 23 [some (av_R (some 170)), some (av_I a1), some (av_I a2), some (av_D v3), none, some (av_I v5), none, none, none, none, none, none, none, none, none, none, none] [] h Q) (hb0 : hb s h) (H : i32 a1 → i32 a2 → B_MD_sample_0 G s a1 a2 h Q X23) : con G 4 0 0 m_MD_sample [av_R (some 170), av_I a1, av_I a2] h Q := by
  have hS : isS s := hb0.2.1
  refine con_of (L := [some (av_R (some 170)), some (av_I a1), some (av_I a2), none, none, none, none, none, none, none, none, none, none, none, none, none, none]) (by decide +kernel) (Nat.le_of_ble_eq_true rfl) rfl ?_
  refine A_locI 1 rfl (fun ra1 => ?_)
  refine A_locI 2 rfl (fun ra2 => ?_)
  exact b_MD_sample_0  hX23 hb0 (H ra1 ra2)
