/-! ===== verification conditions, 5231 ===== -/
def B_Voice_isReached_30 (G : cx_T) (s : Nat) (a0 : Nat) (a1 : Int) (a2 : Int) (a3 : Int) (t0 : Int) (h : ah_T) (Q : Option av_T → ah_T → Prop) : Prop :=
 (t0 = 0 ∨ t0 = 1) ∧ Q (some (av_I t0)) h
theorem b_Voice_isReached_30 {G : cx_T} {s : Nat} {a0 : Nat} {a1 : Int} {a2 : Int} {a3 : Int} (ha0 : isV a0) {t0 : Int} {h : ah_T} {Q : Option av_T → ah_T → Prop} (hb0 : hb s h) (H : B_Voice_isReached_30 G s a0 a1 a2 a3 t0 h Q ) : aw G (rm_R 0 0 0) m_Voice_isReached 0 0 30 [none, none, none, none, none, none] [av_I t0] h Q := by
  unfold B_Voice_isReached_30 at H
  have hS : isS s := hb0.2.1
  exact A_zret d_Voice_isReached_30 (by decide) rfl H.1 H.2
def B_Voice_isReached_0 (G : cx_T) (s : Nat) (a0 : Nat) (a1 : Int) (a2 : Int) (a3 : Int) (h : ah_T) (Q : Option av_T → ah_T → Prop) : Prop :=
 (0 ≤ a1 ∧ a1 < 301) ∧ ∀ x2 : Int, x2 = h.2.2.1 (a0 + 10) (a1).toNat → -9223372036854775808 ≤ x2 → x2 ≤ 9223372036854775807 → ∀ x4 : Int, x4 = a2 * x2 → ((-9223372036854775808) ≤ x4 ∧ x4 ≤ 9223372036854775807) ∧ ∀ x7 : Int, x7 = h.2.2.1 (a0 + 9) (a1).toNat → -9223372036854775808 ≤ x7 → x7 ≤ 9223372036854775807 → ((-9223372036854775808) ≤ (2 * x7) ∧ (2 * x7) ≤ 9223372036854775807) ∧ ∀ x9 : Int, x9 = (2 * x7) * a3 → ((-9223372036854775808) ≤ x9 ∧ x9 ≤ 9223372036854775807) ∧ ((x4 < x9 → B_Voice_isReached_30 G s a0 a1 a2 a3 (0) h Q ) ∧ (¬ x4 < x9 → B_Voice_isReached_30 G s a0 a1 a2 a3 (1) h Q ))
theorem b_Voice_isReached_0 {G : cx_T} {s : Nat} {a0 : Nat} {a1 : Int} {a2 : Int} {a3 : Int} (ha0 : isV a0) {h : ah_T} {Q : Option av_T → ah_T → Prop} (hb0 : hb s h) (H : B_Voice_isReached_0 G s a0 a1 a2 a3 h Q ) : aw G (rm_R 0 0 0) m_Voice_isReached 0 0 0 [some (av_R (some a0)), some (av_I a1), some (av_L a2), none, some (av_L a3), none] [] h Q := by
  unfold B_Voice_isReached_0 at H
  have hS : isS s := hb0.2.1
  refine A_lload_n 2 d_Voice_isReached_0 rfl rfl ?_
  refine A_aload_n 0 d_Voice_isReached_1 rfl rfl ?_
  refine A_getAv (z := some (a0 + 10)) T_ok d_Voice_isReached_2 f_Voice_41 (hs_V hb0 ha0) (hr_V_11 hb0 ha0) ?_
  refine A_iload_n 1 d_Voice_isReached_5 rfl rfl ?_
  have g3 := H.1
  replace H := H.2
  refine A_laloadf d_Voice_isReached_6 (hs_V_11 hb0 ha0) g3.1 g3.2 (fun x2 ex2 lx2 ux2 => ?_)
  replace H := H x2 ex2 lx2 ux2
  refine A_pc (pc' := 7) rfl ?_
  obtain ⟨x4, ex4⟩ : ∃ z : Int, z = a2 * x2 := ⟨_, rfl⟩
  replace H := H x4 ex4
  have g5 := H.1
  replace H := H.2
  refine A_lmulv (z := x4) d_Voice_isReached_7 (w64_to ex4.symm (by unfold i64; omega)) ?_
  refine A_ldc2 (z := 2) d_Voice_isReached_8 cst_Voice_66 rfl ?_
  refine A_aload_n 0 d_Voice_isReached_11 rfl rfl ?_
  refine A_getAv (z := some (a0 + 9)) T_ok d_Voice_isReached_12 f_Voice_37 (hs_V hb0 ha0) (hr_V_10 hb0 ha0) ?_
  refine A_iload_n 1 d_Voice_isReached_15 rfl rfl ?_
  refine A_laloadf d_Voice_isReached_16 (hs_V_10 hb0 ha0) g3.1 g3.2 (fun x7 ex7 lx7 ux7 => ?_)
  replace H := H x7 ex7 lx7 ux7
  refine A_pc (pc' := 17) rfl ?_
  have g8 := H.1
  replace H := H.2
  refine A_lmulv (z := (2 * x7)) d_Voice_isReached_17 (w64_to (by omega) (by unfold i64; omega)) ?_
  refine A_lload d_Voice_isReached_18 rfl ?_
  obtain ⟨x9, ex9⟩ : ∃ z : Int, z = (2 * x7) * a3 := ⟨_, rfl⟩
  replace H := H x9 ex9
  have g10 := H.1
  replace H := H.2
  refine A_lmulv (z := x9) d_Voice_isReached_20 (w64_to ex9.symm (by unfold i64; omega)) ?_
  refine A_lcmpn d_Voice_isReached_21 (fun x11 lx11 ex11 gx11 _ _ => ?_)
  refine A_if_lt (tgt := 29) d_Voice_isReached_22 (by decide) (fun c => ?_) (fun c => ?_)
  · replace H := H.1 (by omega)
    refine A_iconst d_Voice_isReached_29 rfl ?_
    refine A_pc (pc' := 30) rfl ?_
    refine A_free (L' := [none, none, none, none, none, none]) trivial ?_
    exact b_Voice_isReached_30 ha0   hb0 H
  · replace H := H.2 (by omega)
    refine A_iconst d_Voice_isReached_25 rfl ?_
    refine A_goto (tgt := 30) d_Voice_isReached_26 (by decide) ?_
    refine A_pc (pc' := 30) rfl ?_
    refine A_free (L' := [none, none, none, none, none, none]) trivial ?_
    exact b_Voice_isReached_30 ha0   hb0 H
theorem c_Voice_isReached {G : cx_T} {s : Nat} {a0 : Nat} {a1 : Int} {a2 : Int} {a3 : Int} (ha0 : isV a0) {h : ah_T} {Q : Option av_T → ah_T → Prop} (hb0 : hb s h) (H : i32 a1 → i64 a2 → i64 a3 → B_Voice_isReached_0 G s a0 a1 a2 a3 h Q ) : con G 0 0 0 m_Voice_isReached [av_R (some a0), av_I a1, av_L a2, av_L a3] h Q := by
  have hS : isS s := hb0.2.1
  refine con_of (L := [some (av_R (some a0)), some (av_I a1), some (av_L a2), none, some (av_L a3), none]) (by decide +kernel) (Nat.le_of_ble_eq_true rfl) rfl ?_
  refine A_locI 1 rfl (fun ra1 => ?_)
  refine A_locL 2 rfl (fun ra2 => ?_)
  refine A_locL 4 rfl (fun ra4 => ?_)
  exact b_Voice_isReached_0 ha0  hb0 (H ra1 ra2 ra4)
def B_PM_divided_0 (G : cx_T) (s : Nat) (a0 : Int) (a1 : Int) (h : ah_T) (Q : Option av_T → ah_T → Prop) : Prop :=
 ((0 < a1 → con G 0 0 0 m_PM_greatestDivisor [av_L a0, av_L a1] h (fun r h2 => ∃ z4 : Int, r = some (av_L z4) ∧ hb s h2 ∧ (z4 ≠ 0) ∧ ∀ x5 : Int, x5 = w64 ((a0).tdiv z4) → (-9223372036854775808) ≤ x5 → x5 ≤ 9223372036854775807 → (z4 ≠ 0) ∧ ∀ x6 : Int, x6 = w64 ((a1).tdiv z4) → (-9223372036854775808) ≤ x6 → x6 ≤ 9223372036854775807 → (vf_n64 (FP.ddiv (FP.l2d (Int64.ofInt x5)) (FP.l2d (Int64.ofInt x6)))) ∧ Q (some (av_D (FP.ddiv (FP.l2d (Int64.ofInt x5)) (FP.l2d (Int64.ofInt x6))))) h2)) ∧ (¬ 0 < a1 → Q (some (av_D FP.dconst0)) h))
theorem b_PM_divided_0 {G : cx_T} {s : Nat} {a0 : Int} {a1 : Int} {h : ah_T} {Q : Option av_T → ah_T → Prop} (hb0 : hb s h) (H : B_PM_divided_0 G s a0 a1 h Q ) : aw G (rm_R 1 0 0) m_PM_divided 0 0 0 [some (av_L a0), none, some (av_L a1), none, none, none] [] h Q := by
  unfold B_PM_divided_0 at H
  have hS : isS s := hb0.2.1
  refine A_lload_n 2 d_PM_divided_0 rfl rfl ?_
  refine A_lconst_0 d_PM_divided_1 ?_
  refine A_lcmpn d_PM_divided_2 (fun x1 lx1 ex1 gx1 _ _ => ?_)
  refine A_if_gt (tgt := 8) d_PM_divided_3 (by decide) (fun c => ?_) (fun c => ?_)
  · replace H := H.1 (by omega)
    refine A_lload_n 0 d_PM_divided_8 rfl rfl ?_
    refine A_lload_n 2 d_PM_divided_9 rfl rfl ?_
    refine A_callS2 m_PM_greatestDivisor d_PM_divided_10 l_PM_266 k_PM_greatestDivisor (by decide +kernel) (by decide) (Nat.le_of_ble_eq_true rfl) H (fun r h2 hq => ?_)
    clear H
    obtain ⟨z4, rfl, hb3, H⟩ := hq
    refine A_lstore (L' := [some (av_L a0), none, some (av_L a1), none, some (av_L z4), none]) d_PM_divided_13 (Nat.le_of_ble_eq_true rfl) rfl ?_
    refine A_lload_n 0 d_PM_divided_15 rfl rfl ?_
    refine A_lload d_PM_divided_16 rfl ?_
    have H0 := H.1
    replace H := H.2
    refine A_ldivc d_PM_divided_18 H0 (fun x5 ex5 lx5 ux5 => ?_)
    replace H := H x5 ex5 lx5 ux5
    refine A_l2d d_PM_divided_19 ?_
    refine A_pc (pc' := 20) rfl ?_
    refine A_lload_n 2 d_PM_divided_20 rfl rfl ?_
    refine A_lload d_PM_divided_21 rfl ?_
    have H0 := H.1
    replace H := H.2
    refine A_ldivc d_PM_divided_23 H0 (fun x6 ex6 lx6 ux6 => ?_)
    replace H := H x6 ex6 lx6 ux6
    refine A_l2d d_PM_divided_24 ?_
    have H0 := H.1
    replace H := H.2
    refine A_ddiv d_PM_divided_25 H0 ?_
    exact A_dret d_PM_divided_26 (by decide) rfl H
  · replace H := H.2 (by omega)
    refine A_dconst_0 d_PM_divided_6 ?_
    exact A_dret d_PM_divided_7 (by decide) rfl H
theorem c_PM_divided {G : cx_T} {s : Nat} {a0 : Int} {a1 : Int} {h : ah_T} {Q : Option av_T → ah_T → Prop} (hb0 : hb s h) (H : i64 a0 → i64 a1 → B_PM_divided_0 G s a0 a1 h Q ) : con G 1 0 0 m_PM_divided [av_L a0, av_L a1] h Q := by
  have hS : isS s := hb0.2.1
  refine con_of (L := [some (av_L a0), none, some (av_L a1), none, none, none]) (by decide +kernel) (Nat.le_of_ble_eq_true rfl) rfl ?_
  refine A_locL 0 rfl (fun ra0 => ?_)
  refine A_locL 2 rfl (fun ra2 => ?_)
  exact b_PM_divided_0   hb0 (H ra0 ra2)
def B_PM_waveAt_134 (G : cx_T) (s : Nat) (a0 : Int) (a1 : Int) (a2 : Int) (t0 : UInt64) (h : ah_T) (Q : Option av_T → ah_T → Prop) : Prop :=
 Q (some (av_D t0)) h
theorem b_PM_waveAt_134 {G : cx_T} {s : Nat} {a0 : Int} {a1 : Int} {a2 : Int} {t0 : UInt64} {h : ah_T} {Q : Option av_T → ah_T → Prop} (hb0 : hb s h) (H : B_PM_waveAt_134 G s a0 a1 a2 t0 h Q ) : aw G (rm_R 2 0 0) m_PM_waveAt 0 0 134 [none, none, none, none, none, none, none, none, none, none, none, none, none, none, none] [av_D t0] h Q := by
  unfold B_PM_waveAt_134 at H
  have hS : isS s := hb0.2.1
  exact A_dret d_PM_waveAt_134 (by decide) rfl H
def B_PM_waveAt_75 (G : cx_T) (s : Nat) (a0 : Int) (a1 : Int) (a2 : Int) (v9 : Int) (t0 : Int) (h : ah_T) (Q : Option av_T → ah_T → Prop) : Prop :=
 con G 1 0 0 m_PM_divided [av_L t0, av_L v9] h (fun r h1 => ∃ z3 : UInt64, r = some (av_D z3) ∧ hb s h1 ∧ ∀ x4 : Int, x4 = (Op.cmpValue (FP.dcmp z3 4598175219545276416) .g).toInt → (-2147483648) ≤ x4 → x4 ≤ 2147483647 → ((0 ≤ x4 → ∀ x5 : Int, x5 = (Op.cmpValue (FP.dcmp z3 4604930618986332160) .g).toInt → (-2147483648) ≤ x5 → x5 ≤ 2147483647 → ((0 ≤ x5 → (vf_n64 (FP.dmul 4616189618054758400 z3)) ∧ (vf_n64 (FP.dsub (FP.dmul 4616189618054758400 z3) 4616189618054758400)) ∧ B_PM_waveAt_134 G s a0 a1 a2 (FP.dsub (FP.dmul 4616189618054758400 z3) 4616189618054758400) h1 Q ) ∧ (¬ 0 ≤ x5 → (vf_n64 (FP.dmul 4616189618054758400 z3)) ∧ (vf_n64 (FP.dsub 4611686018427387904 (FP.dmul 4616189618054758400 z3))) ∧ B_PM_waveAt_134 G s a0 a1 a2 (FP.dsub 4611686018427387904 (FP.dmul 4616189618054758400 z3)) h1 Q ))) ∧ (¬ 0 ≤ x4 → (vf_n64 (FP.dmul 4616189618054758400 z3)) ∧ Q (some (av_D (FP.dmul 4616189618054758400 z3))) h1)))
theorem b_PM_waveAt_75 {G : cx_T} {s : Nat} {a0 : Int} {a1 : Int} {a2 : Int} {v9 : Int} {t0 : Int} {h : ah_T} {Q : Option av_T → ah_T → Prop} (hb0 : hb s h) (H : B_PM_waveAt_75 G s a0 a1 a2 v9 t0 h Q ) : aw G (rm_R 2 0 0) m_PM_waveAt 0 0 75 [none, none, none, none, none, none, none, none, none, some (av_L v9), none, none, none, none, none] [av_L t0] h Q := by
  unfold B_PM_waveAt_75 at H
  have hS : isS s := hb0.2.1
  refine A_lstore (L' := [none, none, none, none, none, none, none, none, none, some (av_L v9), none, some (av_L t0), none, none, none]) d_PM_waveAt_75 (Nat.le_of_ble_eq_true rfl) rfl ?_
  refine A_lload d_PM_waveAt_77 rfl ?_
  refine A_lload d_PM_waveAt_79 rfl ?_
  refine A_callS2 m_PM_divided d_PM_waveAt_81 l_PM_228 k_PM_divided (by decide +kernel) (by decide) (Nat.le_of_ble_eq_true rfl) H (fun r h1 hq => ?_)
  clear H
  obtain ⟨z3, rfl, hb2, H⟩ := hq
  refine A_dstore (L' := [none, none, none, none, none, none, none, none, none, some (av_L v9), none, some (av_L t0), none, some (av_D z3), none]) d_PM_waveAt_84 (Nat.le_of_ble_eq_true rfl) rfl ?_
  refine A_dload d_PM_waveAt_86 rfl ?_
  refine A_ldc2d (z := 4598175219545276416) d_PM_waveAt_88 cst_PM_232 ?_
  refine A_dcmp d_PM_waveAt_91 ?_
  refine A_nrI (fun x4 ex4 lx4 ux4 => ?_)
  replace H := H x4 ex4 lx4 ux4
  refine A_if_ge (tgt := 102) d_PM_waveAt_92 (by decide) (fun c => ?_) (fun c => ?_)
  · replace H := H.1 c
    refine A_dload d_PM_waveAt_102 rfl ?_
    refine A_ldc2d (z := 4604930618986332160) d_PM_waveAt_104 cst_PM_262 ?_
    refine A_dcmp d_PM_waveAt_107 ?_
    refine A_nrI (fun x5 ex5 lx5 ux5 => ?_)
    replace H := H x5 ex5 lx5 ux5
    refine A_if_ge (tgt := 124) d_PM_waveAt_108 (by decide) (fun c => ?_) (fun c => ?_)
    · replace H := H.1 c
      refine A_ldc2d (z := 4616189618054758400) d_PM_waveAt_124 cst_PM_260 ?_
      refine A_dload d_PM_waveAt_127 rfl ?_
      have H0 := H.1
      replace H := H.2
      refine A_dmul d_PM_waveAt_129 H0 ?_
      refine A_ldc2d (z := 4616189618054758400) d_PM_waveAt_130 cst_PM_260 ?_
      have H0 := H.1
      replace H := H.2
      refine A_dsub d_PM_waveAt_133 H0 ?_
      refine A_pc (pc' := 134) rfl ?_
      refine A_free (L' := [none, none, none, none, none, none, none, none, none, none, none, none, none, none, none]) trivial ?_
      exact b_PM_waveAt_134    hb2 H
    · replace H := H.2 c
      refine A_ldc2d (z := 4611686018427387904) d_PM_waveAt_111 cst_PM_264 ?_
      refine A_ldc2d (z := 4616189618054758400) d_PM_waveAt_114 cst_PM_260 ?_
      refine A_dload d_PM_waveAt_117 rfl ?_
      have H0 := H.1
      replace H := H.2
      refine A_dmul d_PM_waveAt_119 H0 ?_
      have H0 := H.1
      replace H := H.2
      refine A_dsub d_PM_waveAt_120 H0 ?_
      refine A_pc (pc' := 121) rfl ?_
      refine A_goto (tgt := 134) d_PM_waveAt_121 (by decide) ?_
      refine A_pc (pc' := 134) rfl ?_
      refine A_free (L' := [none, none, none, none, none, none, none, none, none, none, none, none, none, none, none]) trivial ?_
      exact b_PM_waveAt_134    hb2 H
  · replace H := H.2 c
    refine A_ldc2d (z := 4616189618054758400) d_PM_waveAt_95 cst_PM_260 ?_
    refine A_dload d_PM_waveAt_98 rfl ?_
    have H0 := H.1
    replace H := H.2
    refine A_dmul d_PM_waveAt_100 H0 ?_
    exact A_dret d_PM_waveAt_101 (by decide) rfl H
def B_PM_waveAt_0 (G : cx_T) (s : Nat) (a0 : Int) (a1 : Int) (a2 : Int) (h : ah_T) (Q : Option av_T → ah_T → Prop) : Prop :=
 con G 0 0 0 m_JMath_floorMod [av_I a0, av_I 12] h (fun r h1 => ∃ z3 : Int, r = some (av_I z3) ∧ hb s h1 ∧ con G 0 0 0 m_JMath_floorDiv [av_I a0, av_I 12] h1 (fun r h4 => ∃ z6 : Int, r = some (av_I z6) ∧ hb s h4 ∧ ∀ x7 : Int, x7 = (if z6 < (-1) then (-1) else z6) → -2147483648 ≤ x7 → x7 ≤ 2147483647 → ∀ x8 : Int, x8 = (if 9 < x7 then 9 else x7) → -2147483648 ≤ x8 → x8 ≤ 2147483647 → ((-2147483648) ≤ (x8 + 1) ∧ (x8 + 1) ≤ 2147483647) ∧ ∀ x10 : Int, x10 = ((Int64.ofInt 8) <<< ((Int32.ofInt (x8 + 1)).toInt64 &&& 63)).toInt → (-9223372036854775808) ≤ x10 → x10 ≤ 9223372036854775807 → (0 ≤ z3 ∧ z3 < 12) ∧ ∀ x11 : Int, x11 = ([1, 16, 9, 6, 5, 4, 45, 3, 8, 5, 9, 15] : List Int).getD (z3).toNat 0 → ∀ x12 : Int, x12 = x10 * x11 → ((-9223372036854775808) ≤ x12 ∧ x12 ≤ 9223372036854775807) ∧ (0 ≤ z3 ∧ z3 < 12) ∧ ∀ x14 : Int, x14 = ([1, 15, 8, 5, 4, 3, 32, 2, 5, 3, 5, 8] : List Int).getD (z3).toNat 0 → ∀ x15 : Int, x15 = a2 * x14 → ((-9223372036854775808) ≤ x15 ∧ x15 ≤ 9223372036854775807) ∧ ((x15 ≤ 0 → B_PM_waveAt_75 G s a0 a1 a2 (x15) (0) h4 Q ) ∧ (¬ x15 ≤ 0 → (x15 ≠ 0) ∧ ∀ x18 : Int, x18 = (a1).tmod x15 → (-9223372036854775808) ≤ x18 → x18 ≤ 9223372036854775807 → ∀ x19 : Int, x19 = x18 * x12 → ((-9223372036854775808) ≤ x19 ∧ x19 ≤ 9223372036854775807) ∧ (x15 ≠ 0) ∧ ∀ x21 : Int, x21 = (x19).tmod x15 → (-9223372036854775808) ≤ x21 → x21 ≤ 9223372036854775807 → B_PM_waveAt_75 G s a0 a1 a2 (x15) (x21) h4 Q ))))
theorem b_PM_waveAt_0 {G : cx_T} {s : Nat} {a0 : Int} {a1 : Int} {a2 : Int} {h : ah_T} {Q : Option av_T → ah_T → Prop} (hb0 : hb s h) (H : B_PM_waveAt_0 G s a0 a1 a2 h Q ) : aw G (rm_R 2 0 0) m_PM_waveAt 0 0 0 [some (av_I a0), some (av_L a1), none, some (av_L a2), none, none, none, none, none, none, none, none, none, none, none] [] h Q := by
  unfold B_PM_waveAt_0 at H
  have hS : isS s := hb0.2.1
  refine A_iload_n 0 d_PM_waveAt_0 rfl rfl ?_
  refine A_bipush d_PM_waveAt_1 rfl ?_
  refine A_callS2 m_JMath_floorMod d_PM_waveAt_3 l_PM_238 k_JMath_floorMod (by decide +kernel) (by decide) (Nat.le_of_ble_eq_true rfl) H (fun r h1 hq => ?_)
  clear H
  obtain ⟨z3, rfl, hb2, H⟩ := hq
  refine A_istore (L' := [some (av_I a0), some (av_L a1), none, some (av_L a2), none, some (av_I z3), none, none, none, none, none, none, none, none, none]) d_PM_waveAt_6 (Nat.le_of_ble_eq_true rfl) rfl ?_
  refine A_iload_n 0 d_PM_waveAt_8 rfl rfl ?_
  refine A_bipush d_PM_waveAt_9 rfl ?_
  refine A_callS2 m_JMath_floorDiv d_PM_waveAt_11 l_PM_243 k_JMath_floorDiv (by decide +kernel) (by decide) (Nat.le_of_ble_eq_true rfl) H (fun r h4 hq => ?_)
  clear H
  obtain ⟨z6, rfl, hb5, H⟩ := hq
  refine A_iconst d_PM_waveAt_14 rfl ?_
  refine A_mmax (z := (if z6 < (-1) then (-1) else z6)) d_PM_waveAt_15 lm_PM_246 ma_max (by decide) (by decide) (Nat.le_of_ble_eq_true rfl) rfl ?_
  refine A_nrI (fun x7 ex7 lx7 ux7 => ?_)
  replace H := H x7 ex7 lx7 ux7
  refine A_bipush d_PM_waveAt_18 rfl ?_
  refine A_mmin (z := (if 9 < x7 then 9 else x7)) d_PM_waveAt_20 lm_PM_249 ma_min (by decide) (by decide) (Nat.le_of_ble_eq_true rfl) rfl ?_
  refine A_nrI (fun x8 ex8 lx8 ux8 => ?_)
  replace H := H x8 ex8 lx8 ux8
  refine A_istore (L' := [some (av_I a0), some (av_L a1), none, some (av_L a2), none, some (av_I z3), some (av_I x8), none, none, none, none, none, none, none, none]) d_PM_waveAt_23 (Nat.le_of_ble_eq_true rfl) rfl ?_
  refine A_pc (pc' := 25) rfl ?_
  refine A_ldc2 (z := 8) d_PM_waveAt_25 cst_PM_252 rfl ?_
  refine A_iload d_PM_waveAt_28 rfl ?_
  refine A_iconst d_PM_waveAt_30 rfl ?_
  have g9 := H.1
  replace H := H.2
  refine A_iaddv (z := (x8 + 1)) d_PM_waveAt_31 (w32_to (by omega) (by unfold i32; omega)) ?_
  refine A_lshl d_PM_waveAt_32 ?_
  refine A_nrL (fun x10 ex10 lx10 ux10 => ?_)
  replace H := H x10 ex10 lx10 ux10
  refine A_getsA (q := ("RATIO_TOPS", 2, [1, 16, 9, 6, 5, 4, 45, 3, 8, 5, 9, 15])) (by decide) gs_PM_254 d_PM_waveAt_33 ?_
  refine A_pc (pc' := 36) rfl ?_
  refine A_iload d_PM_waveAt_36 rfl ?_
  have H0 := H.1
  replace H := H.2
  refine A_ialoadT (q := ("RATIO_TOPS", 2, [1, 16, 9, 6, 5, 4, 45, 3, 8, 5, 9, 15])) d_PM_waveAt_38 (by decide) (by decide) (by omega) (by simp only [List.length_cons, List.length_nil]; omega) (fun x11 ex11 => ?_)
  replace H := H x11 ex11
  refine A_i2l d_PM_waveAt_39 ?_
  obtain ⟨x12, ex12⟩ : ∃ z : Int, z = x10 * x11 := ⟨_, rfl⟩
  replace H := H x12 ex12
  have g13 := H.1
  replace H := H.2
  refine A_lmulv (z := x12) d_PM_waveAt_40 (w64_to ex12.symm (by unfold i64; omega)) ?_
  refine A_lstore (L' := [some (av_I a0), some (av_L a1), none, some (av_L a2), none, some (av_I z3), some (av_I x8), some (av_L x12), none, none, none, none, none, none, none]) d_PM_waveAt_41 (Nat.le_of_ble_eq_true rfl) rfl ?_
  refine A_lload_n 3 d_PM_waveAt_43 rfl rfl ?_
  refine A_pc (pc' := 44) rfl ?_
  refine A_getsA (q := ("RATIO_BOTTOMS", 3, [1, 15, 8, 5, 4, 3, 32, 2, 5, 3, 5, 8])) (by decide) gs_PM_257 d_PM_waveAt_44 ?_
  refine A_iload d_PM_waveAt_47 rfl ?_
  have H0 := H.1
  replace H := H.2
  refine A_ialoadT (q := ("RATIO_BOTTOMS", 3, [1, 15, 8, 5, 4, 3, 32, 2, 5, 3, 5, 8])) d_PM_waveAt_49 (by decide) (by decide) (by omega) (by simp only [List.length_cons, List.length_nil]; omega) (fun x14 ex14 => ?_)
  replace H := H x14 ex14
  refine A_i2l d_PM_waveAt_50 ?_
  obtain ⟨x15, ex15⟩ : ∃ z : Int, z = a2 * x14 := ⟨_, rfl⟩
  replace H := H x15 ex15
  have g16 := H.1
  replace H := H.2
  refine A_lmulv (z := x15) d_PM_waveAt_51 (w64_to ex15.symm (by unfold i64; omega)) ?_
  refine A_lstore (L' := [some (av_I a0), some (av_L a1), none, some (av_L a2), none, some (av_I z3), some (av_I x8), some (av_L x12), none, some (av_L x15), none, none, none, none, none]) d_PM_waveAt_52 (Nat.le_of_ble_eq_true rfl) rfl ?_
  refine A_pc (pc' := 54) rfl ?_
  refine A_lload d_PM_waveAt_54 rfl ?_
  refine A_lconst_0 d_PM_waveAt_56 ?_
  refine A_lcmpn d_PM_waveAt_57 (fun x17 lx17 ex17 gx17 _ _ => ?_)
  refine A_if_le (tgt := 74) d_PM_waveAt_58 (by decide) (fun c => ?_) (fun c => ?_)
  · replace H := H.1 (by omega)
    refine A_lconst_0 d_PM_waveAt_74 ?_
    refine A_pc (pc' := 75) rfl ?_
    refine A_free (L' := [none, none, none, none, none, none, none, none, none, some (av_L x15), none, none, none, none, none]) (And.intro rfl trivial) ?_
    exact b_PM_waveAt_75    hb5 H
  · replace H := H.2 (by omega)
    refine A_lload_n 1 d_PM_waveAt_61 rfl rfl ?_
    refine A_lload d_PM_waveAt_62 rfl ?_
    have H0 := H.1
    replace H := H.2
    refine A_lremc d_PM_waveAt_64 H0 (fun x18 ex18 lx18 ux18 => ?_)
    replace H := H x18 ex18 lx18 ux18
    refine A_lload d_PM_waveAt_65 rfl ?_
    obtain ⟨x19, ex19⟩ : ∃ z : Int, z = x18 * x12 := ⟨_, rfl⟩
    replace H := H x19 ex19
    have g20 := H.1
    replace H := H.2
    refine A_lmulv (z := x19) d_PM_waveAt_67 (w64_to ex19.symm (by unfold i64; omega)) ?_
    refine A_pc (pc' := 68) rfl ?_
    refine A_lload d_PM_waveAt_68 rfl ?_
    have H0 := H.1
    replace H := H.2
    refine A_lremc d_PM_waveAt_70 H0 (fun x21 ex21 lx21 ux21 => ?_)
    replace H := H x21 ex21 lx21 ux21
    refine A_goto (tgt := 75) d_PM_waveAt_71 (by decide) ?_
    refine A_pc (pc' := 75) rfl ?_
    refine A_free (L' := [none, none, none, none, none, none, none, none, none, some (av_L x15), none, none, none, none, none]) (And.intro rfl trivial) ?_
    exact b_PM_waveAt_75    hb5 H
theorem c_PM_waveAt {G : cx_T} {s : Nat} {a0 : Int} {a1 : Int} {a2 : Int} {h : ah_T} {Q : Option av_T → ah_T → Prop} (hb0 : hb s h) (H : i32 a0 → i64 a1 → i64 a2 → B_PM_waveAt_0 G s a0 a1 a2 h Q ) : con G 2 0 0 m_PM_waveAt [av_I a0, av_L a1, av_L a2] h Q := by
  have hS : isS s := hb0.2.1
  refine con_of (L := [some (av_I a0), some (av_L a1), none, some (av_L a2), none, none, none, none, none, none, none, none, none, none, none]) (by decide +kernel) (Nat.le_of_ble_eq_true rfl) rfl ?_
  refine A_locI 0 rfl (fun ra0 => ?_)
  refine A_locL 1 rfl (fun ra1 => ?_)
  refine A_locL 3 rfl (fun ra3 => ?_)
  exact b_PM_waveAt_0   hb0 (H ra0 ra1 ra3)
def B_PM_addEvent_80 (G : cx_T) (s : Nat) (a0 : UInt64) (a1 : Nat) (a2 : Int) (a3 : Int) (a4 : Int) (v6 : Int) (v8 : Int) (v12 : UInt64) (v14 : UInt64) (v16 : Int) (h : ah_T) (Q : Option av_T → ah_T → Prop) (X80 : Int → Int → UInt64 → UInt64 → Int → ah_T → Prop) : Prop :=
 con G 0 0 0 m_Voice_pitchesOf [av_R (some a1), av_I a2] h (fun r h1 => ∃ z3 : Int, r = some (av_I z3) ∧ hb s h1 ∧ ((z3 ≤ v16 → Q (some (av_D v14)) h1) ∧ (¬ z3 ≤ v16 → con G 0 0 0 m_Voice_keyOf [av_R (some a1), av_I a2, av_I v16] h1 (fun r h4 => ∃ z6 : Int, r = some (av_I z6) ∧ hb s h4 ∧ con G 2 0 0 m_PM_waveAt [av_I z6, av_L v6, av_L v8] h4 (fun r h7 => ∃ z9 : UInt64, r = some (av_D z9) ∧ hb s h7 ∧ (vf_n64 (FP.dmul 4598175219545276416 z9)) ∧ (vf_n64 (FP.dmul (FP.dmul 4598175219545276416 z9) v12)) ∧ (vf_n64 (FP.dadd v14 (FP.dmul (FP.dmul 4598175219545276416 z9) v12))) ∧ ((-2147483648) ≤ (v16 + 1) ∧ (v16 + 1) ≤ 2147483647) ∧ X80 (v6) (v8) v12 (FP.dadd v14 (FP.dmul (FP.dmul 4598175219545276416 z9) v12)) ((v16 + 1)) h7)))))
theorem b_PM_addEvent_80 {G : cx_T} {s : Nat} {a0 : UInt64} {a1 : Nat} {a2 : Int} {a3 : Int} {a4 : Int} (ha1 : isV a1) {v6 : Int} {v8 : Int} {v12 : UInt64} {v14 : UInt64} {v16 : Int} {h : ah_T} {Q : Option av_T → ah_T → Prop} {X80 : Int → Int → UInt64 → UInt64 → Int → ah_T → Prop} (hX80 : ∀ (v6 : Int) (v8 : Int) (v12 : UInt64) (v14 : UInt64) (v16 : Int) (h : ah_T), hb s h → X80 v6 v8 v12 v14 v16 h → aw G (rm_R 3 0 0) m_PM_addEvent 0 0 80 [none, none, some (av_R (some a1)), some (av_I a2), none, none, some (av_L v6), none, some (av_L v8), none, none, none, some (av_D v12), none, some (av_D v14), none, some (av_I v16)] [] h Q) (hb0 : hb s h) (H : B_PM_addEvent_80 G s a0 a1 a2 a3 a4 v6 v8 v12 v14 v16 h Q X80) : aw G (rm_R 3 0 0) m_PM_addEvent 0 0 80 [none, none, some (av_R (some a1)), some (av_I a2), none, none, some (av_L v6), none, some (av_L v8), none, none, none, some (av_D v12), none, some (av_D v14), none, some (av_I v16)] [] h Q := by
  unfold B_PM_addEvent_80 at H
  have hS : isS s := hb0.2.1
  refine A_iload d_PM_addEvent_80 rfl ?_
  refine A_aload_n 2 d_PM_addEvent_82 rfl rfl ?_
  refine A_iload_n 3 d_PM_addEvent_83 rfl rfl ?_
  refine A_callV1 m_Voice_pitchesOf T_ok d_PM_addEvent_84 l_PM_147 k_Voice_pitchesOf (hs_V hb0 ha1) rfl (by decide +kernel) (by decide) (Nat.le_of_ble_eq_true rfl) H (fun r h1 hq => ?_)
  clear H
  obtain ⟨z3, rfl, hb2, H⟩ := hq
  refine A_icmp_ge (tgt := 122) d_PM_addEvent_87 (by decide) (fun c => ?_) (fun c => ?_)
  · replace H := H.1 c
    refine A_dload d_PM_addEvent_122 rfl ?_
    exact A_dret d_PM_addEvent_124 (by decide) rfl H
  · replace H := H.2 c
    refine A_dload d_PM_addEvent_90 rfl ?_
    refine A_ldc2d (z := 4598175219545276416) d_PM_addEvent_92 cst_PM_232 ?_
    refine A_aload_n 2 d_PM_addEvent_95 rfl rfl ?_
    refine A_iload_n 3 d_PM_addEvent_96 rfl rfl ?_
    refine A_iload d_PM_addEvent_97 rfl ?_
    refine A_pc (pc' := 99) rfl ?_
    refine A_callV2 m_Voice_keyOf T_ok d_PM_addEvent_99 l_PM_151 k_Voice_keyOf (hs_V hb2 ha1) rfl (by decide +kernel) (by decide) (Nat.le_of_ble_eq_true rfl) H (fun r h4 hq => ?_)
    clear H
    obtain ⟨z6, rfl, hb5, H⟩ := hq
    refine A_lload d_PM_addEvent_102 rfl ?_
    refine A_lload d_PM_addEvent_104 rfl ?_
    refine A_callS3 m_PM_waveAt d_PM_addEvent_106 l_PM_234 k_PM_waveAt (by decide +kernel) (by decide) (Nat.le_of_ble_eq_true rfl) H (fun r h7 hq => ?_)
    clear H
    obtain ⟨z9, rfl, hb8, H⟩ := hq
    have H0 := H.1
    replace H := H.2
    refine A_dmul d_PM_addEvent_109 H0 ?_
    refine A_dload d_PM_addEvent_110 rfl ?_
    have H0 := H.1
    replace H := H.2
    refine A_dmul d_PM_addEvent_112 H0 ?_
    have H0 := H.1
    replace H := H.2
    refine A_dadd d_PM_addEvent_113 H0 ?_
    refine A_dstore (L' := [none, none, some (av_R (some a1)), some (av_I a2), none, none, some (av_L v6), none, some (av_L v8), none, none, none, some (av_D v12), none, some (av_D (FP.dadd v14 (FP.dmul (FP.dmul 4598175219545276416 z9) v12))), none, some (av_I v16)]) d_PM_addEvent_114 (Nat.le_of_ble_eq_true rfl) rfl ?_
    refine A_pc (pc' := 116) rfl ?_
    have g10 := H.1
    replace H := H.2
    refine A_iincv (z := (v16 + 1)) (L' := [none, none, some (av_R (some a1)), some (av_I a2), none, none, some (av_L v6), none, some (av_L v8), none, none, none, some (av_D v12), none, some (av_D (FP.dadd v14 (FP.dmul (FP.dmul 4598175219545276416 z9) v12))), none, some (av_I (v16 + 1))]) d_PM_addEvent_116 rfl (w32_to (by omega) (by unfold i32; omega)) rfl ?_
    refine A_goto (tgt := 80) d_PM_addEvent_119 (by decide) ?_
    refine A_pc (pc' := 80) rfl ?_
    exact hX80 (v6) (v8) v12 (FP.dadd v14 (FP.dmul (FP.dmul 4598175219545276416 z9) v12)) ((v16 + 1)) h7  hb8 H
theorem lp_PM_addEvent_80 {G : cx_T} {s : Nat} {a0 : UInt64} {a1 : Nat} {a2 : Int} {a3 : Int} {a4 : Int} (ha1 : isV a1) {Q : Option av_T → ah_T → Prop} (I : Int → Int → UInt64 → UInt64 → Int → ah_T → Prop) (μ : Int → Int → UInt64 → UInt64 → Int → ah_T → Nat) (hI : ∀ (v6 : Int) (v8 : Int) (v12 : UInt64) (v14 : UInt64) (v16 : Int) (h : ah_T), hb s h → I v6 v8 v12 v14 v16 h → B_PM_addEvent_80 G s a0 a1 a2 a3 a4 v6 v8 v12 v14 v16 h Q (fun v6' v8' v12' v14' v16' h' => I v6' v8' v12' v14' v16' h' ∧ μ v6' v8' v12' v14' v16' h' < μ v6 v8 v12 v14 v16 h)) : ∀ (v6 : Int) (v8 : Int) (v12 : UInt64) (v14 : UInt64) (v16 : Int) (h : ah_T), hb s h → I v6 v8 v12 v14 v16 h → aw G (rm_R 3 0 0) m_PM_addEvent 0 0 80 [none, none, some (av_R (some a1)), some (av_I a2), none, none, some (av_L v6), none, some (av_L v8), none, none, none, some (av_D v12), none, some (av_D v14), none, some (av_I v16)] [] h Q := by
  have key : ∀ (n : Nat) (v6 : Int) (v8 : Int) (v12 : UInt64) (v14 : UInt64) (v16 : Int) (h : ah_T), hb s h → I v6 v8 v12 v14 v16 h → μ v6 v8 v12 v14 v16 h < n → aw G (rm_R 3 0 0) m_PM_addEvent 0 0 80 [none, none, some (av_R (some a1)), some (av_I a2), none, none, some (av_L v6), none, some (av_L v8), none, none, none, some (av_D v12), none, some (av_D v14), none, some (av_I v16)] [] h Q := by
    intro n
    induction n with
    | zero => intro v6 v8 v12 v14 v16 h  hb0 hi hm; omega
    | succ n ih => intro v6 v8 v12 v14 v16 h  hb0 hi hm; exact b_PM_addEvent_80 ha1 (fun v6' v8' v12' v14' v16' h'  hb' hx => ih v6' v8' v12' v14' v16' h'  hb' hx.1 (by have := hx.2; omega))  hb0 (hI v6 v8 v12 v14 v16 h  hb0 hi)
  exact fun v6 v8 v12 v14 v16 h  hb0 hi => key _ v6 v8 v12 v14 v16 h  hb0 hi (Nat.lt_succ_self _)
def B_PM_addEvent_0 (G : cx_T) (s : Nat) (a0 : UInt64) (a1 : Nat) (a2 : Int) (a3 : Int) (a4 : Int) (h : ah_T) (Q : Option av_T → ah_T → Prop) (X80 : Int → Int → UInt64 → UInt64 → Int → ah_T → Prop) : Prop :=
 (0 ≤ a2 ∧ a2 < 301) ∧ ∀ x2 : Int, x2 = h.2.2.1 (a1 + 10) (a2).toNat → -9223372036854775808 ≤ x2 → x2 ≤ 9223372036854775807 → ∀ x4 : Int, x4 = a3 * x2 → ((-9223372036854775808) ≤ x4 ∧ x4 ≤ 9223372036854775807) ∧ ∀ x7 : Int, x7 = h.2.2.1 (a1 + 9) (a2).toNat → -9223372036854775808 ≤ x7 → x7 ≤ 9223372036854775807 → ((-9223372036854775808) ≤ (2 * x7) ∧ (2 * x7) ≤ 9223372036854775807) ∧ ∀ x9 : Int, x9 = (2 * x7) * a4 → ((-9223372036854775808) ≤ x9 ∧ x9 ≤ 9223372036854775807) ∧ ((-9223372036854775808) ≤ (x4 - x9) ∧ (x4 - x9) ≤ 9223372036854775807) ∧ ∀ x14 : Int, x14 = a4 * x2 → ((-9223372036854775808) ≤ x14 ∧ x14 ≤ 9223372036854775807) ∧ (0 ≤ a2 ∧ a2 < 300) ∧ ∀ x17 : Int, x17 = h.2.2.1 (a1 + 11) (a2).toNat → -9223372036854775808 ≤ x17 → x17 ≤ 9223372036854775807 → ((-9223372036854775808) ≤ (2 * x17) ∧ (2 * x17) ≤ 9223372036854775807) ∧ ∀ x21 : Int, x21 = h.2.2.1 (a1 + 12) (a2).toNat → -9223372036854775808 ≤ x21 → x21 ≤ 9223372036854775807 → con G 1 0 0 m_PM_divided [av_L (2 * x17), av_L x21] h (fun r h22 => ∃ z24 : UInt64, r = some (av_D z24) ∧ hb s h22 ∧ con G 1 0 0 m_PM_divided [av_L (x4 - x9), av_L x14] h22 (fun r h25 => ∃ z27 : UInt64, r = some (av_D z27) ∧ hb s h25 ∧ (vf_n64 (FP.ddiv z27 z24)) ∧ (vf_n64 (FP.dsub FP.dconst1 (FP.ddiv z27 z24))) ∧ X80 ((x4 - x9)) (x14) (FP.dsub FP.dconst1 (FP.ddiv z27 z24)) a0 (0) h25))
theorem b_PM_addEvent_0 {G : cx_T} {s : Nat} {a0 : UInt64} {a1 : Nat} {a2 : Int} {a3 : Int} {a4 : Int} (ha1 : isV a1) {h : ah_T} {Q : Option av_T → ah_T → Prop} {X80 : Int → Int → UInt64 → UInt64 → Int → ah_T → Prop} (hX80 : ∀ (v6 : Int) (v8 : Int) (v12 : UInt64) (v14 : UInt64) (v16 : Int) (h : ah_T), hb s h → X80 v6 v8 v12 v14 v16 h → aw G (rm_R 3 0 0) m_PM_addEvent 0 0 80 [none, none, some (av_R (some a1)), some (av_I a2), none, none, some (av_L v6), none, some (av_L v8), none, none, none, some (av_D v12), none, some (av_D v14), none, some (av_I v16)] [] h Q) (hb0 : hb s h) (H : B_PM_addEvent_0 G s a0 a1 a2 a3 a4 h Q X80) : aw G (rm_R 3 0 0) m_PM_addEvent 0 0 0 [some (av_D a0), none, some (av_R (some a1)), some (av_I a2), some (av_I a3), some (av_I a4), none, none, none, none, none, none, none, none, none, none, none] [] h Q := by
  unfold B_PM_addEvent_0 at H
  have hS : isS s := hb0.2.1
  refine A_iload d_PM_addEvent_0 rfl ?_
  refine A_i2l d_PM_addEvent_2 ?_
  refine A_aload_n 2 d_PM_addEvent_3 rfl rfl ?_
  refine A_getAv (z := some (a1 + 10)) T_ok d_PM_addEvent_4 f_PM_213 (hs_V hb0 ha1) (hr_V_11 hb0 ha1) ?_
  refine A_iload_n 3 d_PM_addEvent_7 rfl rfl ?_
  refine A_pc (pc' := 8) rfl ?_
  have g3 := H.1
  replace H := H.2
  refine A_laloadf d_PM_addEvent_8 (hs_V_11 hb0 ha1) g3.1 g3.2 (fun x2 ex2 lx2 ux2 => ?_)
  replace H := H x2 ex2 lx2 ux2
  obtain ⟨x4, ex4⟩ : ∃ z : Int, z = a3 * x2 := ⟨_, rfl⟩
  replace H := H x4 ex4
  have g5 := H.1
  replace H := H.2
  refine A_lmulv (z := x4) d_PM_addEvent_9 (w64_to ex4.symm (by unfold i64; omega)) ?_
  refine A_ldc2 (z := 2) d_PM_addEvent_10 cst_PM_217 rfl ?_
  refine A_aload_n 2 d_PM_addEvent_13 rfl rfl ?_
  refine A_getAv (z := some (a1 + 9)) T_ok d_PM_addEvent_14 f_PM_219 (hs_V hb0 ha1) (hr_V_10 hb0 ha1) ?_
  refine A_iload_n 3 d_PM_addEvent_17 rfl rfl ?_
  refine A_pc (pc' := 18) rfl ?_
  refine A_laloadf d_PM_addEvent_18 (hs_V_10 hb0 ha1) g3.1 g3.2 (fun x7 ex7 lx7 ux7 => ?_)
  replace H := H x7 ex7 lx7 ux7
  have g8 := H.1
  replace H := H.2
  refine A_lmulv (z := (2 * x7)) d_PM_addEvent_19 (w64_to (by omega) (by unfold i64; omega)) ?_
  refine A_iload d_PM_addEvent_20 rfl ?_
  refine A_i2l d_PM_addEvent_22 ?_
  obtain ⟨x9, ex9⟩ : ∃ z : Int, z = (2 * x7) * a4 := ⟨_, rfl⟩
  replace H := H x9 ex9
  have g10 := H.1
  replace H := H.2
  refine A_lmulv (z := x9) d_PM_addEvent_23 (w64_to ex9.symm (by unfold i64; omega)) ?_
  have g11 := H.1
  replace H := H.2
  refine A_lsubv (z := (x4 - x9)) d_PM_addEvent_24 (w64_to (by omega) (by unfold i64; omega)) ?_
  refine A_pc (pc' := 25) rfl ?_
  refine A_lstore (L' := [some (av_D a0), none, some (av_R (some a1)), some (av_I a2), some (av_I a3), some (av_I a4), some (av_L (x4 - x9)), none, none, none, none, none, none, none, none, none, none]) d_PM_addEvent_25 (Nat.le_of_ble_eq_true rfl) rfl ?_
  refine A_iload d_PM_addEvent_27 rfl ?_
  refine A_i2l d_PM_addEvent_29 ?_
  refine A_aload_n 2 d_PM_addEvent_30 rfl rfl ?_
  refine A_getAv (z := some (a1 + 10)) T_ok d_PM_addEvent_31 f_PM_213 (hs_V hb0 ha1) (hr_V_11 hb0 ha1) ?_
  refine A_iload_n 3 d_PM_addEvent_34 rfl rfl ?_
  refine A_pc (pc' := 35) rfl ?_
  refine A_laloadv (z := x2) d_PM_addEvent_35 (hs_V_11 hb0 ha1) (by omega) (by omega) ex2.symm ?_
  obtain ⟨x14, ex14⟩ : ∃ z : Int, z = a4 * x2 := ⟨_, rfl⟩
  replace H := H x14 ex14
  have g15 := H.1
  replace H := H.2
  refine A_lmulv (z := x14) d_PM_addEvent_36 (w64_to ex14.symm (by unfold i64; omega)) ?_
  refine A_lstore (L' := [some (av_D a0), none, some (av_R (some a1)), some (av_I a2), some (av_I a3), some (av_I a4), some (av_L (x4 - x9)), none, some (av_L x14), none, none, none, none, none, none, none, none]) d_PM_addEvent_37 (Nat.le_of_ble_eq_true rfl) rfl ?_
  refine A_ldc2 (z := 2) d_PM_addEvent_39 cst_PM_217 rfl ?_
  refine A_aload_n 2 d_PM_addEvent_42 rfl rfl ?_
  refine A_getAv (z := some (a1 + 11)) T_ok d_PM_addEvent_43 f_PM_222 (hs_V hb0 ha1) (hr_V_12 hb0 ha1) ?_
  refine A_pc (pc' := 46) rfl ?_
  refine A_iload_n 3 d_PM_addEvent_46 rfl rfl ?_
  have g18 := H.1
  replace H := H.2
  refine A_laloadf d_PM_addEvent_47 (hs_V_12 hb0 ha1) g18.1 g18.2 (fun x17 ex17 lx17 ux17 => ?_)
  replace H := H x17 ex17 lx17 ux17
  have g19 := H.1
  replace H := H.2
  refine A_lmulv (z := (2 * x17)) d_PM_addEvent_48 (w64_to (by omega) (by unfold i64; omega)) ?_
  refine A_aload_n 2 d_PM_addEvent_49 rfl rfl ?_
  refine A_getAv (z := some (a1 + 12)) T_ok d_PM_addEvent_50 f_PM_225 (hs_V hb0 ha1) (hr_V_13 hb0 ha1) ?_
  refine A_iload_n 3 d_PM_addEvent_53 rfl rfl ?_
  refine A_pc (pc' := 54) rfl ?_
  refine A_laloadf d_PM_addEvent_54 (hs_V_13 hb0 ha1) g18.1 g18.2 (fun x21 ex21 lx21 ux21 => ?_)
  replace H := H x21 ex21 lx21 ux21
  refine A_callS2 m_PM_divided d_PM_addEvent_55 l_PM_228 k_PM_divided (by decide +kernel) (by decide) (Nat.le_of_ble_eq_true rfl) H (fun r h22 hq => ?_)
  clear H
  obtain ⟨z24, rfl, hb23, H⟩ := hq
  refine A_dstore (L' := [some (av_D a0), none, some (av_R (some a1)), some (av_I a2), some (av_I a3), some (av_I a4), some (av_L (x4 - x9)), none, some (av_L x14), none, some (av_D z24), none, none, none, none, none, none]) d_PM_addEvent_58 (Nat.le_of_ble_eq_true rfl) rfl ?_
  refine A_dconst_1 d_PM_addEvent_60 ?_
  refine A_lload d_PM_addEvent_61 rfl ?_
  refine A_lload d_PM_addEvent_63 rfl ?_
  refine A_callS2 m_PM_divided d_PM_addEvent_65 l_PM_228 k_PM_divided (by decide +kernel) (by decide) (Nat.le_of_ble_eq_true rfl) H (fun r h25 hq => ?_)
  clear H
  obtain ⟨z27, rfl, hb26, H⟩ := hq
  refine A_dload d_PM_addEvent_68 rfl ?_
  have H0 := H.1
  replace H := H.2
  refine A_ddiv d_PM_addEvent_70 H0 ?_
  have H0 := H.1
  replace H := H.2
  refine A_dsub d_PM_addEvent_71 H0 ?_
  refine A_dstore (L' := [some (av_D a0), none, some (av_R (some a1)), some (av_I a2), some (av_I a3), some (av_I a4), some (av_L (x4 - x9)), none, some (av_L x14), none, some (av_D z24), none, some (av_D (FP.dsub FP.dconst1 (FP.ddiv z27 z24))), none, none, none, none]) d_PM_addEvent_72 (Nat.le_of_ble_eq_true rfl) rfl ?_
  refine A_dload_n 0 d_PM_addEvent_74 rfl rfl ?_
  refine A_pc (pc' := 75) rfl ?_
  refine A_dstore (L' := [some (av_D a0), none, some (av_R (some a1)), some (av_I a2), some (av_I a3), some (av_I a4), some (av_L (x4 - x9)), none, some (av_L x14), none, some (av_D z24), none, some (av_D (FP.dsub FP.dconst1 (FP.ddiv z27 z24))), none, some (av_D a0), none, none]) d_PM_addEvent_75 (Nat.le_of_ble_eq_true rfl) rfl ?_
  refine A_iconst d_PM_addEvent_77 rfl ?_
  refine A_istore (L' := [some (av_D a0), none, some (av_R (some a1)), some (av_I a2), some (av_I a3), some (av_I a4), some (av_L (x4 - x9)), none, some (av_L x14), none, some (av_D z24), none, some (av_D (FP.dsub FP.dconst1 (FP.ddiv z27 z24))), none, some (av_D a0), none, some (av_I 0)]) d_PM_addEvent_78 (Nat.le_of_ble_eq_true rfl) rfl ?_
  refine A_pc (pc' := 80) rfl ?_
  refine A_free (L' := [none, none, some (av_R (some a1)), some (av_I a2), none, none, some (av_L (x4 - x9)), none, some (av_L x14), none, none, none, some (av_D (FP.dsub FP.dconst1 (FP.ddiv z27 z24))), none, some (av_D a0), none, some (av_I 0)]) (And.intro rfl (And.intro rfl (And.intro rfl (And.intro rfl (And.intro rfl (And.intro rfl (And.intro rfl trivial))))))) ?_
  exact hX80 ((x4 - x9)) (x14) (FP.dsub FP.dconst1 (FP.ddiv z27 z24)) a0 (0) h25  hb26 H
theorem c_PM_addEvent {G : cx_T} {s : Nat} {a0 : UInt64} {a1 : Nat} {a2 : Int} {a3 : Int} {a4 : Int} (ha1 : isV a1) {h : ah_T} {Q : Option av_T → ah_T → Prop} {X80 : Int → Int → UInt64 → UInt64 → Int → ah_T → Prop} (hX80 : ∀ (v6 : Int) (v8 : Int) (v12 : UInt64) (v14 : UInt64) (v16 : Int) (h : ah_T), hb s h → X80 v6 v8 v12 v14 v16 h → aw G (rm_R 3 0 0) m_PM_addEvent 0 0 80 [none, none, some (av_R (some a1)), some (av_I a2), none, none, some (av_L v6), none, some (av_L v8), none, none, none, some (av_D v12), none, some (av_D v14), none, some (av_I v16)] [] h Q) (hb0 : hb s h) (H : i32 a2 → i32 a3 → i32 a4 → B_PM_addEvent_0 G s a0 a1 a2 a3 a4 h Q X80) : con G 3 0 0 m_PM_addEvent [av_D a0, av_R (some a1), av_I a2, av_I a3, av_I a4] h Q := by
  have hS : isS s := hb0.2.1
  refine con_of (L := [some (av_D a0), none, some (av_R (some a1)), some (av_I a2), some (av_I a3), some (av_I a4), none, none, none, none, none, none, none, none, none, none, none]) (by decide +kernel) (Nat.le_of_ble_eq_true rfl) rfl ?_
  refine A_locI 3 rfl (fun ra3 => ?_)
  refine A_locI 4 rfl (fun ra4 => ?_)
  refine A_locI 5 rfl (fun ra5 => ?_)
  exact b_PM_addEvent_0 ha1 hX80 hb0 (H ra3 ra4 ra5)
def B_PM_addVoice_58 (G : cx_T) (s : Nat) (a0 : UInt64) (a1 : Nat) (a2 : Int) (a3 : Int) (v5 : UInt64) (v7 : Int) (h : ah_T) (Q : Option av_T → ah_T → Prop) (X6 : UInt64 → Int → ah_T → Prop) : Prop :=
 ((-2147483648) ≤ (v7 + 1) ∧ (v7 + 1) ≤ 2147483647) ∧ X6 v5 ((v7 + 1)) h
theorem b_PM_addVoice_58 {G : cx_T} {s : Nat} {a0 : UInt64} {a1 : Nat} {a2 : Int} {a3 : Int} (ha1 : isV a1) {v5 : UInt64} {v7 : Int} {h : ah_T} {Q : Option av_T → ah_T → Prop} {X6 : UInt64 → Int → ah_T → Prop} (hX6 : ∀ (v5 : UInt64) (v7 : Int) (h : ah_T), hb s h → X6 v5 v7 h → aw G (rm_R 4 0 0) m_PM_addVoice 0 0 6 [none, none, some (av_R (some a1)), some (av_I a2), some (av_I a3), some (av_D v5), none, some (av_I v7)] [] h Q) (hb0 : hb s h) (H : B_PM_addVoice_58 G s a0 a1 a2 a3 v5 v7 h Q X6) : aw G (rm_R 4 0 0) m_PM_addVoice 0 0 58 [none, none, some (av_R (some a1)), some (av_I a2), some (av_I a3), some (av_D v5), none, some (av_I v7)] [] h Q := by
  unfold B_PM_addVoice_58 at H
  have hS : isS s := hb0.2.1
  have g1 := H.1
  replace H := H.2
  refine A_iincv (z := (v7 + 1)) (L' := [none, none, some (av_R (some a1)), some (av_I a2), some (av_I a3), some (av_D v5), none, some (av_I (v7 + 1))]) d_PM_addVoice_58 rfl (w32_to (by omega) (by unfold i32; omega)) rfl ?_
  refine A_goto (tgt := 6) d_PM_addVoice_61 (by decide) ?_
  refine A_pc (pc' := 6) rfl ?_
  exact hX6 v5 ((v7 + 1)) h  hb0 H
def B_PM_addVoice_6 (G : cx_T) (s : Nat) (a0 : UInt64) (a1 : Nat) (a2 : Int) (a3 : Int) (v5 : UInt64) (v7 : Int) (h : ah_T) (Q : Option av_T → ah_T → Prop) (X6 : UInt64 → Int → ah_T → Prop) : Prop :=
 ∀ x1 : Int, x1 = h.2.1 a1 14 → -2147483648 ≤ x1 → x1 ≤ 2147483647 → ((x1 ≤ v7 → Q (some (av_D v5)) h) ∧ (¬ x1 ≤ v7 → con G 0 0 0 m_Voice_isReached [av_R (some a1), av_I v7, av_L a2, av_L a3] h (fun r h2 => ∃ z4 : Int, r = some (av_I z4) ∧ hb s h2 ∧ ((z4 = 0 → B_PM_addVoice_58 G s a0 a1 a2 a3 v5 (v7) h2 Q X6) ∧ (¬ z4 = 0 → ((-2147483648) ≤ (v7 + 1) ∧ (v7 + 1) ≤ 2147483647) ∧ con G 0 0 0 m_Voice_isReached [av_R (some a1), av_I (v7 + 1), av_L a2, av_L a3] h2 (fun r h6 => ∃ z8 : Int, r = some (av_I z8) ∧ hb s h6 ∧ ((z8 = 0 → con G 3 0 0 m_PM_addEvent [av_D v5, av_R (some a1), av_I v7, av_I a2, av_I a3] h6 (fun r h9 => ∃ z11 : UInt64, r = some (av_D z11) ∧ hb s h9 ∧ B_PM_addVoice_58 G s a0 a1 a2 a3 z11 (v7) h9 Q X6)) ∧ (¬ z8 = 0 → B_PM_addVoice_58 G s a0 a1 a2 a3 v5 (v7) h6 Q X6))))))))
theorem b_PM_addVoice_6 {G : cx_T} {s : Nat} {a0 : UInt64} {a1 : Nat} {a2 : Int} {a3 : Int} (ha1 : isV a1) {v5 : UInt64} {v7 : Int} {h : ah_T} {Q : Option av_T → ah_T → Prop} {X6 : UInt64 → Int → ah_T → Prop} (hX6 : ∀ (v5 : UInt64) (v7 : Int) (h : ah_T), hb s h → X6 v5 v7 h → aw G (rm_R 4 0 0) m_PM_addVoice 0 0 6 [none, none, some (av_R (some a1)), some (av_I a2), some (av_I a3), some (av_D v5), none, some (av_I v7)] [] h Q) (hb0 : hb s h) (H : B_PM_addVoice_6 G s a0 a1 a2 a3 v5 v7 h Q X6) : aw G (rm_R 4 0 0) m_PM_addVoice 0 0 6 [none, none, some (av_R (some a1)), some (av_I a2), some (av_I a3), some (av_D v5), none, some (av_I v7)] [] h Q := by
  unfold B_PM_addVoice_6 at H
  have hS : isS s := hb0.2.1
  refine A_iload d_PM_addVoice_6 rfl ?_
  refine A_aload_n 2 d_PM_addVoice_8 rfl rfl ?_
  refine A_getIf T_ok d_PM_addVoice_9 f_PM_129 (hs_V hb0 ha1) (fun x1 ex1 lx1 ux1 => ?_)
  replace H := H x1 ex1 lx1 ux1
  refine A_icmp_ge (tgt := 64) d_PM_addVoice_12 (by decide) (fun c => ?_) (fun c => ?_)
  · replace H := H.1 c
    refine A_dload d_PM_addVoice_64 rfl ?_
    exact A_dret d_PM_addVoice_66 (by decide) rfl H
  · replace H := H.2 c
    refine A_aload_n 2 d_PM_addVoice_15 rfl rfl ?_
    refine A_iload d_PM_addVoice_16 rfl ?_
    refine A_iload_n 3 d_PM_addVoice_18 rfl rfl ?_
    refine A_i2l d_PM_addVoice_19 ?_
    refine A_iload d_PM_addVoice_20 rfl ?_
    refine A_pc (pc' := 22) rfl ?_
    refine A_i2l d_PM_addVoice_22 ?_
    refine A_callV3 m_Voice_isReached T_ok d_PM_addVoice_23 l_PM_205 k_Voice_isReached (hs_V hb0 ha1) rfl (by decide +kernel) (by decide) (Nat.le_of_ble_eq_true rfl) H (fun r h2 hq => ?_)
    clear H
    obtain ⟨z4, rfl, hb3, H⟩ := hq
    refine A_if_eq (tgt := 58) d_PM_addVoice_26 (by decide) (fun c => ?_) (fun c => ?_)
    · replace H := H.1 c
      refine A_pc (pc' := 58) rfl ?_
      exact b_PM_addVoice_58 ha1 hX6  hb3 H
    · replace H := H.2 c
      refine A_aload_n 2 d_PM_addVoice_29 rfl rfl ?_
      refine A_iload d_PM_addVoice_30 rfl ?_
      refine A_iconst d_PM_addVoice_32 rfl ?_
      have g5 := H.1
      replace H := H.2
      refine A_iaddv (z := (v7 + 1)) d_PM_addVoice_33 (w32_to (by omega) (by unfold i32; omega)) ?_
      refine A_iload_n 3 d_PM_addVoice_34 rfl rfl ?_
      refine A_pc (pc' := 35) rfl ?_
      refine A_i2l d_PM_addVoice_35 ?_
      refine A_iload d_PM_addVoice_36 rfl ?_
      refine A_i2l d_PM_addVoice_38 ?_
      refine A_callV3 m_Voice_isReached T_ok d_PM_addVoice_39 l_PM_205 k_Voice_isReached (hs_V hb3 ha1) rfl (by decide +kernel) (by decide) (Nat.le_of_ble_eq_true rfl) H (fun r h6 hq => ?_)
      clear H
      obtain ⟨z8, rfl, hb7, H⟩ := hq
      refine A_if_ne (tgt := 58) d_PM_addVoice_42 (by decide) (fun c => ?_) (fun c => ?_)
      · replace H := H.2 c
        refine A_pc (pc' := 58) rfl ?_
        exact b_PM_addVoice_58 ha1 hX6  hb7 H
      · replace H := H.1 c
        refine A_dload d_PM_addVoice_45 rfl ?_
        refine A_aload_n 2 d_PM_addVoice_47 rfl rfl ?_
        refine A_iload d_PM_addVoice_48 rfl ?_
        refine A_iload_n 3 d_PM_addVoice_50 rfl rfl ?_
        refine A_iload d_PM_addVoice_51 rfl ?_
        refine A_pc (pc' := 53) rfl ?_
        refine A_callS5 m_PM_addEvent d_PM_addVoice_53 l_PM_209 k_PM_addEvent (by decide +kernel) (by decide) (Nat.le_of_ble_eq_true rfl) H (fun r h9 hq => ?_)
        clear H
        obtain ⟨z11, rfl, hb10, H⟩ := hq
        refine A_dstore (L' := [none, none, some (av_R (some a1)), some (av_I a2), some (av_I a3), some (av_D z11), none, some (av_I v7)]) d_PM_addVoice_56 (Nat.le_of_ble_eq_true rfl) rfl ?_
        refine A_pc (pc' := 58) rfl ?_
        exact b_PM_addVoice_58 ha1 hX6  hb10 H
theorem lp_PM_addVoice_6 {G : cx_T} {s : Nat} {a0 : UInt64} {a1 : Nat} {a2 : Int} {a3 : Int} (ha1 : isV a1) {Q : Option av_T → ah_T → Prop} (I : UInt64 → Int → ah_T → Prop) (μ : UInt64 → Int → ah_T → Nat) (hI : ∀ (v5 : UInt64) (v7 : Int) (h : ah_T), hb s h → I v5 v7 h → B_PM_addVoice_6 G s a0 a1 a2 a3 v5 v7 h Q (fun v5' v7' h' => I v5' v7' h' ∧ μ v5' v7' h' < μ v5 v7 h)) : ∀ (v5 : UInt64) (v7 : Int) (h : ah_T), hb s h → I v5 v7 h → aw G (rm_R 4 0 0) m_PM_addVoice 0 0 6 [none, none, some (av_R (some a1)), some (av_I a2), some (av_I a3), some (av_D v5), none, some (av_I v7)] [] h Q := by
  have key : ∀ (n : Nat) (v5 : UInt64) (v7 : Int) (h : ah_T), hb s h → I v5 v7 h → μ v5 v7 h < n → aw G (rm_R 4 0 0) m_PM_addVoice 0 0 6 [none, none, some (av_R (some a1)), some (av_I a2), some (av_I a3), some (av_D v5), none, some (av_I v7)] [] h Q := by
    intro n
    induction n with
    | zero => intro v5 v7 h  hb0 hi hm; omega
    | succ n ih => intro v5 v7 h  hb0 hi hm; exact b_PM_addVoice_6 ha1 (fun v5' v7' h'  hb' hx => ih v5' v7' h'  hb' hx.1 (by have := hx.2; omega))  hb0 (hI v5 v7 h  hb0 hi)
  exact fun v5 v7 h  hb0 hi => key _ v5 v7 h  hb0 hi (Nat.lt_succ_self _)
def B_PM_addVoice_0 (G : cx_T) (s : Nat) (a0 : UInt64) (a1 : Nat) (a2 : Int) (a3 : Int) (h : ah_T) (Q : Option av_T → ah_T → Prop) (X6 : UInt64 → Int → ah_T → Prop) : Prop :=
 X6 a0 (0) h
theorem b_PM_addVoice_0 {G : cx_T} {s : Nat} {a0 : UInt64} {a1 : Nat} {a2 : Int} {a3 : Int} (ha1 : isV a1) {h : ah_T} {Q : Option av_T → ah_T → Prop} {X6 : UInt64 → Int → ah_T → Prop} (hX6 : ∀ (v5 : UInt64) (v7 : Int) (h : ah_T), hb s h → X6 v5 v7 h → aw G (rm_R 4 0 0) m_PM_addVoice 0 0 6 [none, none, some (av_R (some a1)), some (av_I a2), some (av_I a3), some (av_D v5), none, some (av_I v7)] [] h Q) (hb0 : hb s h) (H : B_PM_addVoice_0 G s a0 a1 a2 a3 h Q X6) : aw G (rm_R 4 0 0) m_PM_addVoice 0 0 0 [some (av_D a0), none, some (av_R (some a1)), some (av_I a2), some (av_I a3), none, none, none] [] h Q := by
  unfold B_PM_addVoice_0 at H
  have hS : isS s := hb0.2.1
  refine A_dload_n 0 d_PM_addVoice_0 rfl rfl ?_
  refine A_dstore (L' := [some (av_D a0), none, some (av_R (some a1)), some (av_I a2), some (av_I a3), some (av_D a0), none, none]) d_PM_addVoice_1 (Nat.le_of_ble_eq_true rfl) rfl ?_
  refine A_iconst d_PM_addVoice_3 rfl ?_
  refine A_istore (L' := [some (av_D a0), none, some (av_R (some a1)), some (av_I a2), some (av_I a3), some (av_D a0), none, some (av_I 0)]) d_PM_addVoice_4 (Nat.le_of_ble_eq_true rfl) rfl ?_
  refine A_pc (pc' := 6) rfl ?_
  refine A_free (L' := [none, none, some (av_R (some a1)), some (av_I a2), some (av_I a3), some (av_D a0), none, some (av_I 0)]) (And.intro rfl (And.intro rfl (And.intro rfl (And.intro rfl (And.intro rfl trivial))))) ?_
  exact hX6 a0 (0) h  hb0 H
theorem c_PM_addVoice {G : cx_T} {s : Nat} {a0 : UInt64} {a1 : Nat} {a2 : Int} {a3 : Int} (ha1 : isV a1) {h : ah_T} {Q : Option av_T → ah_T → Prop} {X6 : UInt64 → Int → ah_T → Prop} (hX6 : ∀ (v5 : UInt64) (v7 : Int) (h : ah_T), hb s h → X6 v5 v7 h → aw G (rm_R 4 0 0) m_PM_addVoice 0 0 6 [none, none, some (av_R (some a1)), some (av_I a2), some (av_I a3), some (av_D v5), none, some (av_I v7)] [] h Q) (hb0 : hb s h) (H : i32 a2 → i32 a3 → B_PM_addVoice_0 G s a0 a1 a2 a3 h Q X6) : con G 4 0 0 m_PM_addVoice [av_D a0, av_R (some a1), av_I a2, av_I a3] h Q := by
  have hS : isS s := hb0.2.1
  refine con_of (L := [some (av_D a0), none, some (av_R (some a1)), some (av_I a2), some (av_I a3), none, none, none]) (by decide +kernel) (Nat.le_of_ble_eq_true rfl) rfl ?_
  refine A_locI 3 rfl (fun ra3 => ?_)
  refine A_locI 4 rfl (fun ra4 => ?_)
  exact b_PM_addVoice_0 ha1 hX6 hb0 (H ra3 ra4)
def B_PM_sample_60 (G : cx_T) (s : Nat) (a1 : Int) (a2 : Int) (v3 : UInt64) (v5 : Int) (h : ah_T) (Q : Option av_T → ah_T → Prop) (X23 : UInt64 → Int → ah_T → Prop) : Prop :=
 ((-2147483648) ≤ (v5 + 1) ∧ (v5 + 1) ≤ 2147483647) ∧ X23 v3 ((v5 + 1)) h
theorem b_PM_sample_60 {G : cx_T} {s : Nat} {a1 : Int} {a2 : Int} {v3 : UInt64} {v5 : Int} {h : ah_T} {Q : Option av_T → ah_T → Prop} {X23 : UInt64 → Int → ah_T → Prop} (hX23 : ∀ (v3 : UInt64) (v5 : Int) (h : ah_T), hb s h → X23 v3 v5 h → aw G (rm_R 5 0 0) m_PM_sample 0 0 23 [some (av_R (some 0)), some (av_I a1), some (av_I a2), some (av_D v3), none, some (av_I v5), none] [] h Q) (hb0 : hb s h) (H : B_PM_sample_60 G s a1 a2 v3 v5 h Q X23) : aw G (rm_R 5 0 0) m_PM_sample 0 0 60 [some (av_R (some 0)), some (av_I a1), some (av_I a2), some (av_D v3), none, some (av_I v5), none] [] h Q := by
  unfold B_PM_sample_60 at H
  have hS : isS s := hb0.2.1
  have g1 := H.1
  replace H := H.2
  refine A_iincv (z := (v5 + 1)) (L' := [some (av_R (some 0)), some (av_I a1), some (av_I a2), some (av_D v3), none, some (av_I (v5 + 1)), none]) d_PM_sample_60 rfl (w32_to (by omega) (by unfold i32; omega)) rfl ?_
  refine A_goto (tgt := 23) d_PM_sample_63 (by decide) ?_
  refine A_pc (pc' := 23) rfl ?_
  exact hX23 v3 ((v5 + 1)) h  hb0 H
def B_PM_sample_23 (G : cx_T) (s : Nat) (a1 : Int) (a2 : Int) (v3 : UInt64) (v5 : Int) (h : ah_T) (Q : Option av_T → ah_T → Prop) (X23 : UInt64 → Int → ah_T → Prop) : Prop :=
 ∀ x2 : Int, x2 = h.2.1 (97 - s) 1 → -2147483648 ≤ x2 → x2 ≤ 2147483647 → ((x2 ≤ v5 → Q (some (av_D v3)) h) ∧ (¬ x2 ≤ v5 → con G 0 0 0 m_Score_voiceAt [av_R (some (97 - s)), av_I v5] h (fun r h4 => ∃ oz6 : Option Nat, r = some (av_R oz6) ∧ hb s h4 ∧ ((oz6 = none ∧ B_PM_sample_60 G s a1 a2 v3 (v5) h4 Q X23) ∨ ∃ z6 : Nat, oz6 = some z6 ∧ isV z6 ∧ con G 4 0 0 m_PM_addVoice [av_D v3, av_R (some z6), av_I a1, av_I a2] h4 (fun r h7 => ∃ z9 : UInt64, r = some (av_D z9) ∧ hb s h7 ∧ B_PM_sample_60 G s a1 a2 z9 (v5) h7 Q X23)))))
theorem b_PM_sample_23 {G : cx_T} {s : Nat} {a1 : Int} {a2 : Int} {v3 : UInt64} {v5 : Int} {h : ah_T} {Q : Option av_T → ah_T → Prop} {X23 : UInt64 → Int → ah_T → Prop} (hX23 : ∀ (v3 : UInt64) (v5 : Int) (h : ah_T), hb s h → X23 v3 v5 h → aw G (rm_R 5 0 0) m_PM_sample 0 0 23 [some (av_R (some 0)), some (av_I a1), some (av_I a2), some (av_D v3), none, some (av_I v5), none] [] h Q) (hb0 : hb s h) (H : B_PM_sample_23 G s a1 a2 v3 v5 h Q X23) : aw G (rm_R 5 0 0) m_PM_sample 0 0 23 [some (av_R (some 0)), some (av_I a1), some (av_I a2), some (av_D v3), none, some (av_I v5), none] [] h Q := by
  unfold B_PM_sample_23 at H
  have hS : isS s := hb0.2.1
  refine A_iload d_PM_sample_23 rfl ?_
  refine A_aload_n 0 d_PM_sample_25 rfl rfl ?_
  refine A_getOv (z := some (97 - s)) T_ok d_PM_sample_26 f_PM_27 (hb_s hb0 sf_0) hb0.2.2.1 ?_
  refine A_getIf T_ok d_PM_sample_29 f_PM_104 (hs_S hb0 (isS_o hS)) (fun x2 ex2 lx2 ux2 => ?_)
  replace H := H x2 ex2 lx2 ux2
  refine A_icmp_ge (tgt := 66) d_PM_sample_32 (by decide) (fun c => ?_) (fun c => ?_)
  · replace H := H.1 c
    refine A_dload_n 3 d_PM_sample_66 rfl rfl ?_
    exact A_dret d_PM_sample_67 (by decide) rfl H
  · replace H := H.2 c
    refine A_aload_n 0 d_PM_sample_35 rfl rfl ?_
    refine A_getOv (z := some (97 - s)) T_ok d_PM_sample_36 f_PM_27 (hb_s hb0 sf_0) hb0.2.2.1 ?_
    refine A_iload d_PM_sample_39 rfl ?_
    refine A_callV1 m_Score_voiceAt T_ok d_PM_sample_41 l_PM_125 k_Score_voiceAt (hs_S hb0 (isS_o hS)) rfl (by decide +kernel) (by decide) (Nat.le_of_ble_eq_true rfl) H (fun r h4 hq => ?_)
    clear H
    obtain ⟨oz6, rfl, hb5, H⟩ := hq
    rcases H with ⟨H1, H⟩ | ⟨z6, H1, tz6, H⟩
    · subst H1
      refine A_astore (L' := [some (av_R (some 0)), some (av_I a1), some (av_I a2), some (av_D v3), none, some (av_I v5), some (av_R none)]) d_PM_sample_44 (Nat.le_of_ble_eq_true rfl) rfl ?_
      refine A_aload d_PM_sample_46 rfl ?_
      refine A_ifnull (tgt := 60) d_PM_sample_48 (by decide) (fun _ => ?_) (fun a q => by cases q)
      refine A_pc (pc' := 60) rfl ?_
      refine A_free (L' := [some (av_R (some 0)), some (av_I a1), some (av_I a2), some (av_D v3), none, some (av_I v5), none]) (And.intro rfl (And.intro rfl (And.intro rfl (And.intro rfl (And.intro rfl trivial))))) ?_
      exact b_PM_sample_60  hX23  hb5 H
    · subst H1
      refine A_astore (L' := [some (av_R (some 0)), some (av_I a1), some (av_I a2), some (av_D v3), none, some (av_I v5), some (av_R (some z6))]) d_PM_sample_44 (Nat.le_of_ble_eq_true rfl) rfl ?_
      refine A_aload d_PM_sample_46 rfl ?_
      refine A_ifnull (tgt := 60) d_PM_sample_48 (by decide) (fun q => by cases q) (fun _ _ => ?_)
      refine A_dload_n 3 d_PM_sample_51 rfl rfl ?_
      refine A_aload d_PM_sample_52 rfl ?_
      refine A_iload_n 1 d_PM_sample_54 rfl rfl ?_
      refine A_iload_n 2 d_PM_sample_55 rfl rfl ?_
      refine A_callS4 m_PM_addVoice d_PM_sample_56 l_PM_201 k_PM_addVoice (by decide +kernel) (by decide) (Nat.le_of_ble_eq_true rfl) H (fun r h7 hq => ?_)
      clear H
      obtain ⟨z9, rfl, hb8, H⟩ := hq
      refine A_dstore_n 3 (L' := [some (av_R (some 0)), some (av_I a1), some (av_I a2), some (av_D z9), none, some (av_I v5), some (av_R (some z6))]) d_PM_sample_59 rfl (Nat.le_of_ble_eq_true rfl) rfl ?_
      refine A_pc (pc' := 60) rfl ?_
      refine A_free (L' := [some (av_R (some 0)), some (av_I a1), some (av_I a2), some (av_D z9), none, some (av_I v5), none]) (And.intro rfl (And.intro rfl (And.intro rfl (And.intro rfl (And.intro rfl trivial))))) ?_
      exact b_PM_sample_60  hX23  hb8 H
theorem lp_PM_sample_23 {G : cx_T} {s : Nat} {a1 : Int} {a2 : Int} {Q : Option av_T → ah_T → Prop} (I : UInt64 → Int → ah_T → Prop) (μ : UInt64 → Int → ah_T → Nat) (hI : ∀ (v3 : UInt64) (v5 : Int) (h : ah_T), hb s h → I v3 v5 h → B_PM_sample_23 G s a1 a2 v3 v5 h Q (fun v3' v5' h' => I v3' v5' h' ∧ μ v3' v5' h' < μ v3 v5 h)) : ∀ (v3 : UInt64) (v5 : Int) (h : ah_T), hb s h → I v3 v5 h → aw G (rm_R 5 0 0) m_PM_sample 0 0 23 [some (av_R (some 0)), some (av_I a1), some (av_I a2), some (av_D v3), none, some (av_I v5), none] [] h Q := by
  have key : ∀ (n : Nat) (v3 : UInt64) (v5 : Int) (h : ah_T), hb s h → I v3 v5 h → μ v3 v5 h < n → aw G (rm_R 5 0 0) m_PM_sample 0 0 23 [some (av_R (some 0)), some (av_I a1), some (av_I a2), some (av_D v3), none, some (av_I v5), none] [] h Q := by
    intro n
    induction n with
    | zero => intro v3 v5 h  hb0 hi hm; omega
    | succ n ih => intro v3 v5 h  hb0 hi hm; exact b_PM_sample_23  (fun v3' v5' h'  hb' hx => ih v3' v5' h'  hb' hx.1 (by have := hx.2; omega))  hb0 (hI v3 v5 h  hb0 hi)
  exact fun v3 v5 h  hb0 hi => key _ v3 v5 h  hb0 hi (Nat.lt_succ_self _)
def B_PM_sample_18 (G : cx_T) (s : Nat) (a1 : Int) (a2 : Int) (v3 : UInt64) (h : ah_T) (Q : Option av_T → ah_T → Prop) : Prop :=
 Q (some (av_D v3)) h
theorem b_PM_sample_18 {G : cx_T} {s : Nat} {a1 : Int} {a2 : Int} {v3 : UInt64} {h : ah_T} {Q : Option av_T → ah_T → Prop} (hb0 : hb s h) (H : B_PM_sample_18 G s a1 a2 v3 h Q ) : aw G (rm_R 5 0 0) m_PM_sample 0 0 18 [none, none, none, some (av_D v3), none, none, none] [] h Q := by
  unfold B_PM_sample_18 at H
  have hS : isS s := hb0.2.1
  refine A_dload_n 3 d_PM_sample_18 rfl rfl ?_
  exact A_dret d_PM_sample_19 (by decide) rfl H
def B_PM_sample_0 (G : cx_T) (s : Nat) (a1 : Int) (a2 : Int) (h : ah_T) (Q : Option av_T → ah_T → Prop) (X23 : UInt64 → Int → ah_T → Prop) : Prop :=
 ((a1 < 0 → B_PM_sample_18 G s a1 a2 FP.dconst0 h Q ) ∧ (¬ a1 < 0 → ((a2 < 1 → B_PM_sample_18 G s a1 a2 FP.dconst0 h Q ) ∧ (¬ a2 < 1 → ((a2 ≤ 10000 → X23 FP.dconst0 (0) h) ∧ (¬ a2 ≤ 10000 → B_PM_sample_18 G s a1 a2 FP.dconst0 h Q ))))))
theorem b_PM_sample_0 {G : cx_T} {s : Nat} {a1 : Int} {a2 : Int} {h : ah_T} {Q : Option av_T → ah_T → Prop} {X23 : UInt64 → Int → ah_T → Prop} (hX23 : ∀ (v3 : UInt64) (v5 : Int) (h : ah_T), hb s h → X23 v3 v5 h → aw G (rm_R 5 0 0) m_PM_sample 0 0 23 [some (av_R (some 0)), some (av_I a1), some (av_I a2), some (av_D v3), none, some (av_I v5), none] [] h Q) (hb0 : hb s h) (H : B_PM_sample_0 G s a1 a2 h Q X23) : aw G (rm_R 5 0 0) m_PM_sample 0 0 0 [some (av_R (some 0)), some (av_I a1), some (av_I a2), none, none, none, none] [] h Q := by
  unfold B_PM_sample_0 at H
  have hS : isS s := hb0.2.1
  refine A_dconst_0 d_PM_sample_0 ?_
  refine A_dstore_n 3 (L' := [some (av_R (some 0)), some (av_I a1), some (av_I a2), some (av_D FP.dconst0), none, none, none]) d_PM_sample_1 rfl (Nat.le_of_ble_eq_true rfl) rfl ?_
  refine A_iload_n 1 d_PM_sample_2 rfl rfl ?_
  refine A_if_lt (tgt := 18) d_PM_sample_3 (by decide) (fun c => ?_) (fun c => ?_)
  · replace H := H.1 c
    refine A_pc (pc' := 18) rfl ?_
    refine A_free (L' := [none, none, none, some (av_D FP.dconst0), none, none, none]) (And.intro rfl trivial) ?_
    exact b_PM_sample_18    hb0 H
  · replace H := H.2 c
    refine A_iload_n 2 d_PM_sample_6 rfl rfl ?_
    refine A_iconst d_PM_sample_7 rfl ?_
    refine A_icmp_lt (tgt := 18) d_PM_sample_8 (by decide) (fun c => ?_) (fun c => ?_)
    · replace H := H.1 c
      refine A_pc (pc' := 18) rfl ?_
      refine A_free (L' := [none, none, none, some (av_D FP.dconst0), none, none, none]) (And.intro rfl trivial) ?_
      exact b_PM_sample_18    hb0 H
    · replace H := H.2 c
      refine A_iload_n 2 d_PM_sample_11 rfl rfl ?_
      refine A_sipush d_PM_sample_12 rfl ?_
      refine A_icmp_le (tgt := 20) d_PM_sample_15 (by decide) (fun c => ?_) (fun c => ?_)
      · replace H := H.1 c
        refine A_iconst d_PM_sample_20 rfl ?_
        refine A_istore (L' := [some (av_R (some 0)), some (av_I a1), some (av_I a2), some (av_D FP.dconst0), none, some (av_I 0), none]) d_PM_sample_21 (Nat.le_of_ble_eq_true rfl) rfl ?_
        refine A_pc (pc' := 23) rfl ?_
        exact hX23 FP.dconst0 (0) h  hb0 H
      · replace H := H.2 c
        refine A_pc (pc' := 18) rfl ?_
        refine A_free (L' := [none, none, none, some (av_D FP.dconst0), none, none, none]) (And.intro rfl trivial) ?_
        exact b_PM_sample_18    hb0 H
theorem c_PM_sample {G : cx_T} {s : Nat} {a1 : Int} {a2 : Int} {h : ah_T} {Q : Option av_T → ah_T → Prop} {X23 : UInt64 → Int → ah_T → Prop} (hX23 : ∀ (v3 : UInt64) (v5 : Int) (h : ah_T), hb s h → X23 v3 v5 h → aw G (rm_R 5 0 0) m_PM_sample 0 0 23 [some (av_R (some 0)), some (av_I a1), some (av_I a2), some (av_D v3), none, some (av_I v5), none] [] h Q) (hb0 : hb s h) (H : i32 a1 → i32 a2 → B_PM_sample_0 G s a1 a2 h Q X23) : con G 5 0 0 m_PM_sample [av_R (some 0), av_I a1, av_I a2] h Q := by
  have hS : isS s := hb0.2.1
  refine con_of (L := [some (av_R (some 0)), some (av_I a1), some (av_I a2), none, none, none, none]) (by decide +kernel) (Nat.le_of_ble_eq_true rfl) rfl ?_
  refine A_locI 1 rfl (fun ra1 => ?_)
  refine A_locI 2 rfl (fun ra2 => ?_)
  exact b_PM_sample_0  hX23 hb0 (H ra1 ra2)
