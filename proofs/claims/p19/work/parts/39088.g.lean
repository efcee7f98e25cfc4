/-! ===== verification conditions, 511 ===== -/
def B_JLong_compare_21 (G : cx_T) (s : Nat) (a0 : Int) (a1 : Int) (t0 : Int) (h : ah_T) (Q : Option av_T → ah_T → Prop) : Prop :=
 Q (some (av_I t0)) h
theorem b_JLong_compare_21 {G : cx_T} {s : Nat} {a0 : Int} {a1 : Int} {t0 : Int} {h : ah_T} {Q : Option av_T → ah_T → Prop} (hb0 : hb s h) (H : B_JLong_compare_21 G s a0 a1 t0 h Q ) : aw G (rm_R 0 0 0) m_JLong_compare 0 0 21 [none, none, none, none] [av_I t0] h Q := by
  unfold B_JLong_compare_21 at H
  have hS : isS s := hb0.2.1
  exact A_iret d_JLong_compare_21 (by decide) rfl H
def B_JLong_compare_0 (G : cx_T) (s : Nat) (a0 : Int) (a1 : Int) (h : ah_T) (Q : Option av_T → ah_T → Prop) : Prop :=
 ((a1 ≤ a0 → ((a0 = a1 → B_JLong_compare_21 G s a0 a1 (0) h Q ) ∧ (¬ a0 = a1 → B_JLong_compare_21 G s a0 a1 (1) h Q ))) ∧ (¬ a1 ≤ a0 → B_JLong_compare_21 G s a0 a1 ((-1)) h Q ))
theorem b_JLong_compare_0 {G : cx_T} {s : Nat} {a0 : Int} {a1 : Int} {h : ah_T} {Q : Option av_T → ah_T → Prop} (hb0 : hb s h) (H : B_JLong_compare_0 G s a0 a1 h Q ) : aw G (rm_R 0 0 0) m_JLong_compare 0 0 0 [some (av_L a0), none, some (av_L a1), none] [] h Q := by
  unfold B_JLong_compare_0 at H
  have hS : isS s := hb0.2.1
  refine A_lload_n 0 d_JLong_compare_0 rfl rfl ?_
  refine A_lload_n 2 d_JLong_compare_1 rfl rfl ?_
  refine A_lcmpn d_JLong_compare_2 (fun x1 lx1 ex1 gx1 _ _ => ?_)
  refine A_if_ge (tgt := 10) d_JLong_compare_3 (by decide) (fun c => ?_) (fun c => ?_)
  · replace H := H.1 (by omega)
    refine A_lload_n 0 d_JLong_compare_10 rfl rfl ?_
    refine A_lload_n 2 d_JLong_compare_11 rfl rfl ?_
    refine A_lcmpn d_JLong_compare_12 (fun x2 lx2 ex2 gx2 _ _ => ?_)
    refine A_if_ne (tgt := 20) d_JLong_compare_13 (by decide) (fun c => ?_) (fun c => ?_)
    · replace H := H.2 (by omega)
      refine A_iconst d_JLong_compare_20 rfl ?_
      refine A_pc (pc' := 21) rfl ?_
      refine A_free (L' := [none, none, none, none]) trivial ?_
      exact b_JLong_compare_21    hb0 H
    · replace H := H.1 (by omega)
      refine A_iconst d_JLong_compare_16 rfl ?_
      refine A_goto (tgt := 21) d_JLong_compare_17 (by decide) ?_
      refine A_pc (pc' := 21) rfl ?_
      refine A_free (L' := [none, none, none, none]) trivial ?_
      exact b_JLong_compare_21    hb0 H
  · replace H := H.2 (by omega)
    refine A_iconst d_JLong_compare_6 rfl ?_
    refine A_goto (tgt := 21) d_JLong_compare_7 (by decide) ?_
    refine A_pc (pc' := 21) rfl ?_
    refine A_free (L' := [none, none, none, none]) trivial ?_
    exact b_JLong_compare_21    hb0 H
theorem c_JLong_compare {G : cx_T} {s : Nat} {a0 : Int} {a1 : Int} {h : ah_T} {Q : Option av_T → ah_T → Prop} (hb0 : hb s h) (H : i64 a0 → i64 a1 → B_JLong_compare_0 G s a0 a1 h Q ) : con G 0 0 0 m_JLong_compare [av_L a0, av_L a1] h Q := by
  have hS : isS s := hb0.2.1
  refine con_of (L := [some (av_L a0), none, some (av_L a1), none]) (by decide +kernel) (Nat.le_of_ble_eq_true rfl) rfl ?_
  refine A_locL 0 rfl (fun ra0 => ?_)
  refine A_locL 2 rfl (fun ra2 => ?_)
  exact b_JLong_compare_0   hb0 (H ra0 ra2)
def B_JMath_floorMod_18 (G : cx_T) (s : Nat) (a0 : Int) (a1 : Int) (v2 : Int) (h : ah_T) (Q : Option av_T → ah_T → Prop) : Prop :=
 Q (some (av_I v2)) h
theorem b_JMath_floorMod_18 {G : cx_T} {s : Nat} {a0 : Int} {a1 : Int} {v2 : Int} {h : ah_T} {Q : Option av_T → ah_T → Prop} (hb0 : hb s h) (H : B_JMath_floorMod_18 G s a0 a1 v2 h Q ) : aw G (rm_R 0 0 0) m_JMath_floorMod 0 0 18 [none, none, some (av_I v2)] [] h Q := by
  unfold B_JMath_floorMod_18 at H
  have hS : isS s := hb0.2.1
  refine A_iload_n 2 d_JMath_floorMod_18 rfl rfl ?_
  exact A_iret d_JMath_floorMod_19 (by decide) rfl H
def B_JMath_floorMod_0 (G : cx_T) (s : Nat) (a0 : Int) (a1 : Int) (h : ah_T) (Q : Option av_T → ah_T → Prop) : Prop :=
 (a1 ≠ 0) ∧ ∀ x1 : Int, x1 = (a0).tmod a1 → (-2147483648) ≤ x1 → x1 ≤ 2147483647 → ∀ x2 : Int, x2 = ((Int32.ofInt a0) ^^^ (Int32.ofInt a1)).toInt → (-2147483648) ≤ x2 → x2 ≤ 2147483647 → ((0 ≤ x2 → B_JMath_floorMod_18 G s a0 a1 (x1) h Q ) ∧ (¬ 0 ≤ x2 → ((x1 = 0 → B_JMath_floorMod_18 G s a0 a1 (x1) h Q ) ∧ (¬ x1 = 0 → ((-2147483648) ≤ (x1 + a1) ∧ (x1 + a1) ≤ 2147483647) ∧ Q (some (av_I (x1 + a1))) h))))
theorem b_JMath_floorMod_0 {G : cx_T} {s : Nat} {a0 : Int} {a1 : Int} {h : ah_T} {Q : Option av_T → ah_T → Prop} (hb0 : hb s h) (H : B_JMath_floorMod_0 G s a0 a1 h Q ) : aw G (rm_R 0 0 0) m_JMath_floorMod 0 0 0 [some (av_I a0), some (av_I a1), none] [] h Q := by
  unfold B_JMath_floorMod_0 at H
  have hS : isS s := hb0.2.1
  refine A_iload_n 0 d_JMath_floorMod_0 rfl rfl ?_
  refine A_iload_n 1 d_JMath_floorMod_1 rfl rfl ?_
  have H0 := H.1
  replace H := H.2
  refine A_iremc d_JMath_floorMod_2 H0 (fun x1 ex1 lx1 ux1 => ?_)
  replace H := H x1 ex1 lx1 ux1
  refine A_istore_n 2 (L' := [some (av_I a0), some (av_I a1), some (av_I x1)]) d_JMath_floorMod_3 rfl (Nat.le_of_ble_eq_true rfl) rfl ?_
  refine A_iload_n 0 d_JMath_floorMod_4 rfl rfl ?_
  refine A_pc (pc' := 5) rfl ?_
  refine A_iload_n 1 d_JMath_floorMod_5 rfl rfl ?_
  refine A_ixor d_JMath_floorMod_6 ?_
  refine A_nrI (fun x2 ex2 lx2 ux2 => ?_)
  replace H := H x2 ex2 lx2 ux2
  refine A_if_ge (tgt := 18) d_JMath_floorMod_7 (by decide) (fun c => ?_) (fun c => ?_)
  · replace H := H.1 c
    refine A_pc (pc' := 18) rfl ?_
    refine A_free (L' := [none, none, some (av_I x1)]) (And.intro rfl trivial) ?_
    exact b_JMath_floorMod_18    hb0 H
  · replace H := H.2 c
    refine A_iload_n 2 d_JMath_floorMod_10 rfl rfl ?_
    refine A_if_eq (tgt := 18) d_JMath_floorMod_11 (by decide) (fun c => ?_) (fun c => ?_)
    · replace H := H.1 c
      refine A_pc (pc' := 18) rfl ?_
      refine A_free (L' := [none, none, some (av_I x1)]) (And.intro rfl trivial) ?_
      exact b_JMath_floorMod_18    hb0 H
    · replace H := H.2 c
      refine A_iload_n 2 d_JMath_floorMod_14 rfl rfl ?_
      refine A_iload_n 1 d_JMath_floorMod_15 rfl rfl ?_
      have g3 := H.1
      replace H := H.2
      refine A_iaddv (z := (x1 + a1)) d_JMath_floorMod_16 (w32_to (by omega) (by unfold i32; omega)) ?_
      exact A_iret d_JMath_floorMod_17 (by decide) rfl H
theorem c_JMath_floorMod {G : cx_T} {s : Nat} {a0 : Int} {a1 : Int} {h : ah_T} {Q : Option av_T → ah_T → Prop} (hb0 : hb s h) (H : i32 a0 → i32 a1 → B_JMath_floorMod_0 G s a0 a1 h Q ) : con G 0 0 0 m_JMath_floorMod [av_I a0, av_I a1] h Q := by
  have hS : isS s := hb0.2.1
  refine con_ofF (L := [some (av_I a0), some (av_I a1), none]) (mathPlain0 rfl (by decide)) (Nat.le_of_ble_eq_true rfl) rfl ?_
  refine A_locI 0 rfl (fun ra0 => ?_)
  refine A_locI 1 rfl (fun ra1 => ?_)
  exact b_JMath_floorMod_0   hb0 (H ra0 ra1)
def B_JMath_floorDiv_21 (G : cx_T) (s : Nat) (a0 : Int) (a1 : Int) (v2 : Int) (h : ah_T) (Q : Option av_T → ah_T → Prop) : Prop :=
 Q (some (av_I v2)) h
theorem b_JMath_floorDiv_21 {G : cx_T} {s : Nat} {a0 : Int} {a1 : Int} {v2 : Int} {h : ah_T} {Q : Option av_T → ah_T → Prop} (hb0 : hb s h) (H : B_JMath_floorDiv_21 G s a0 a1 v2 h Q ) : aw G (rm_R 0 0 0) m_JMath_floorDiv 0 0 21 [none, none, some (av_I v2)] [] h Q := by
  unfold B_JMath_floorDiv_21 at H
  have hS : isS s := hb0.2.1
  refine A_iload_n 2 d_JMath_floorDiv_21 rfl rfl ?_
  exact A_iret d_JMath_floorDiv_22 (by decide) rfl H
def B_JMath_floorDiv_0 (G : cx_T) (s : Nat) (a0 : Int) (a1 : Int) (h : ah_T) (Q : Option av_T → ah_T → Prop) : Prop :=
 (a1 ≠ 0) ∧ ∀ x1 : Int, x1 = w32 ((a0).tdiv a1) → (-2147483648) ≤ x1 → x1 ≤ 2147483647 → ∀ x2 : Int, x2 = ((Int32.ofInt a0) ^^^ (Int32.ofInt a1)).toInt → (-2147483648) ≤ x2 → x2 ≤ 2147483647 → ((0 ≤ x2 → B_JMath_floorDiv_21 G s a0 a1 (x1) h Q ) ∧ (¬ 0 ≤ x2 → ∀ x3 : Int, x3 = x1 * a1 → ((-2147483648) ≤ x3 ∧ x3 ≤ 2147483647) ∧ ((x3 = a0 → B_JMath_floorDiv_21 G s a0 a1 (x1) h Q ) ∧ (¬ x3 = a0 → ((-2147483648) ≤ (x1 - 1) ∧ (x1 - 1) ≤ 2147483647) ∧ Q (some (av_I (x1 - 1))) h))))
theorem b_JMath_floorDiv_0 {G : cx_T} {s : Nat} {a0 : Int} {a1 : Int} {h : ah_T} {Q : Option av_T → ah_T → Prop} (hb0 : hb s h) (H : B_JMath_floorDiv_0 G s a0 a1 h Q ) : aw G (rm_R 0 0 0) m_JMath_floorDiv 0 0 0 [some (av_I a0), some (av_I a1), none] [] h Q := by
  unfold B_JMath_floorDiv_0 at H
  have hS : isS s := hb0.2.1
  refine A_iload_n 0 d_JMath_floorDiv_0 rfl rfl ?_
  refine A_iload_n 1 d_JMath_floorDiv_1 rfl rfl ?_
  have H0 := H.1
  replace H := H.2
  refine A_idivc d_JMath_floorDiv_2 H0 (fun x1 ex1 lx1 ux1 => ?_)
  replace H := H x1 ex1 lx1 ux1
  refine A_istore_n 2 (L' := [some (av_I a0), some (av_I a1), some (av_I x1)]) d_JMath_floorDiv_3 rfl (Nat.le_of_ble_eq_true rfl) rfl ?_
  refine A_iload_n 0 d_JMath_floorDiv_4 rfl rfl ?_
  refine A_pc (pc' := 5) rfl ?_
  refine A_iload_n 1 d_JMath_floorDiv_5 rfl rfl ?_
  refine A_ixor d_JMath_floorDiv_6 ?_
  refine A_nrI (fun x2 ex2 lx2 ux2 => ?_)
  replace H := H x2 ex2 lx2 ux2
  refine A_if_ge (tgt := 21) d_JMath_floorDiv_7 (by decide) (fun c => ?_) (fun c => ?_)
  · replace H := H.1 c
    refine A_pc (pc' := 21) rfl ?_
    refine A_free (L' := [none, none, some (av_I x1)]) (And.intro rfl trivial) ?_
    exact b_JMath_floorDiv_21    hb0 H
  · replace H := H.2 c
    refine A_iload_n 2 d_JMath_floorDiv_10 rfl rfl ?_
    refine A_iload_n 1 d_JMath_floorDiv_11 rfl rfl ?_
    obtain ⟨x3, ex3⟩ : ∃ z : Int, z = x1 * a1 := ⟨_, rfl⟩
    replace H := H x3 ex3
    have g4 := H.1
    replace H := H.2
    refine A_imulv (z := x3) d_JMath_floorDiv_12 (w32_to ex3.symm (by unfold i32; omega)) ?_
    refine A_iload_n 0 d_JMath_floorDiv_13 rfl rfl ?_
    refine A_icmp_eq (tgt := 21) d_JMath_floorDiv_14 (by decide) (fun c => ?_) (fun c => ?_)
    · replace H := H.1 c
      refine A_pc (pc' := 21) rfl ?_
      refine A_free (L' := [none, none, some (av_I x1)]) (And.intro rfl trivial) ?_
      exact b_JMath_floorDiv_21    hb0 H
    · replace H := H.2 c
      refine A_iload_n 2 d_JMath_floorDiv_17 rfl rfl ?_
      refine A_iconst d_JMath_floorDiv_18 rfl ?_
      have g5 := H.1
      replace H := H.2
      refine A_isubv (z := (x1 - 1)) d_JMath_floorDiv_19 (w32_to (by omega) (by unfold i32; omega)) ?_
      exact A_iret d_JMath_floorDiv_20 (by decide) rfl H
theorem c_JMath_floorDiv {G : cx_T} {s : Nat} {a0 : Int} {a1 : Int} {h : ah_T} {Q : Option av_T → ah_T → Prop} (hb0 : hb s h) (H : i32 a0 → i32 a1 → B_JMath_floorDiv_0 G s a0 a1 h Q ) : con G 0 0 0 m_JMath_floorDiv [av_I a0, av_I a1] h Q := by
  have hS : isS s := hb0.2.1
  refine con_ofF (L := [some (av_I a0), some (av_I a1), none]) (mathPlain0 rfl (by decide)) (Nat.le_of_ble_eq_true rfl) rfl ?_
  refine A_locI 0 rfl (fun ra0 => ?_)
  refine A_locI 1 rfl (fun ra1 => ?_)
  exact b_JMath_floorDiv_0   hb0 (H ra0 ra1)
def B_Voice_lowestKey_0 (G : cx_T) (s : Nat) (a0 : Nat) (a1 : Int) (h : ah_T) (Q : Option av_T → ah_T → Prop) : Prop :=
 con G 0 0 0 m_Voice_keyOf [av_R (some a0), av_I a1, av_I 0] h (fun r h1 => ∃ z3 : Int, r = some (av_I z3) ∧ hb s h1 ∧ Q (some (av_I z3)) h1)
theorem b_Voice_lowestKey_0 {G : cx_T} {s : Nat} {a0 : Nat} {a1 : Int} (ha0 : isV a0) {h : ah_T} {Q : Option av_T → ah_T → Prop} (hb0 : hb s h) (H : B_Voice_lowestKey_0 G s a0 a1 h Q ) : aw G (rm_R 1 0 0) m_Voice_lowestKey 0 0 0 [some (av_R (some a0)), some (av_I a1)] [] h Q := by
  unfold B_Voice_lowestKey_0 at H
  have hS : isS s := hb0.2.1
  refine A_aload_n 0 d_Voice_lowestKey_0 rfl rfl ?_
  refine A_iload_n 1 d_Voice_lowestKey_1 rfl rfl ?_
  refine A_iconst d_Voice_lowestKey_2 rfl ?_
  refine A_callV2 m_Voice_keyOf T_ok d_Voice_lowestKey_3 l_Voice_91 k_Voice_keyOf (hs_V hb0 ha0) rfl (by decide +kernel) (by decide) (Nat.le_of_ble_eq_true rfl) H (fun r h1 hq => ?_)
  clear H
  obtain ⟨z3, rfl, hb2, H⟩ := hq
  exact A_iret d_Voice_lowestKey_6 (by decide) rfl H
theorem c_Voice_lowestKey {G : cx_T} {s : Nat} {a0 : Nat} {a1 : Int} (ha0 : isV a0) {h : ah_T} {Q : Option av_T → ah_T → Prop} (hb0 : hb s h) (H : i32 a1 → B_Voice_lowestKey_0 G s a0 a1 h Q ) : con G 1 0 0 m_Voice_lowestKey [av_R (some a0), av_I a1] h Q := by
  have hS : isS s := hb0.2.1
  refine con_of (L := [some (av_R (some a0)), some (av_I a1)]) (by decide +kernel) (Nat.le_of_ble_eq_true rfl) rfl ?_
  refine A_locI 1 rfl (fun ra1 => ?_)
  exact b_Voice_lowestKey_0 ha0  hb0 (H ra1)
def B_Voice_highestKey_0 (G : cx_T) (s : Nat) (a0 : Nat) (a1 : Int) (h : ah_T) (Q : Option av_T → ah_T → Prop) : Prop :=
 con G 0 0 0 m_Voice_pitchesOf [av_R (some a0), av_I a1] h (fun r h1 => ∃ z3 : Int, r = some (av_I z3) ∧ hb s h1 ∧ ((-2147483648) ≤ (z3 - 1) ∧ (z3 - 1) ≤ 2147483647) ∧ con G 0 0 0 m_Voice_keyOf [av_R (some a0), av_I a1, av_I (z3 - 1)] h1 (fun r h5 => ∃ z7 : Int, r = some (av_I z7) ∧ hb s h5 ∧ Q (some (av_I z7)) h5))
theorem b_Voice_highestKey_0 {G : cx_T} {s : Nat} {a0 : Nat} {a1 : Int} (ha0 : isV a0) {h : ah_T} {Q : Option av_T → ah_T → Prop} (hb0 : hb s h) (H : B_Voice_highestKey_0 G s a0 a1 h Q ) : aw G (rm_R 1 0 0) m_Voice_highestKey 0 0 0 [some (av_R (some a0)), some (av_I a1)] [] h Q := by
  unfold B_Voice_highestKey_0 at H
  have hS : isS s := hb0.2.1
  refine A_aload_n 0 d_Voice_highestKey_0 rfl rfl ?_
  refine A_iload_n 1 d_Voice_highestKey_1 rfl rfl ?_
  refine A_aload_n 0 d_Voice_highestKey_2 rfl rfl ?_
  refine A_iload_n 1 d_Voice_highestKey_3 rfl rfl ?_
  refine A_callV1 m_Voice_pitchesOf T_ok d_Voice_highestKey_4 l_Voice_80 k_Voice_pitchesOf (hs_V hb0 ha0) rfl (by decide +kernel) (by decide) (Nat.le_of_ble_eq_true rfl) H (fun r h1 hq => ?_)
  clear H
  obtain ⟨z3, rfl, hb2, H⟩ := hq
  refine A_iconst d_Voice_highestKey_7 rfl ?_
  have g4 := H.1
  replace H := H.2
  refine A_isubv (z := (z3 - 1)) d_Voice_highestKey_8 (w32_to (by omega) (by unfold i32; omega)) ?_
  refine A_callV2 m_Voice_keyOf T_ok d_Voice_highestKey_9 l_Voice_91 k_Voice_keyOf (hs_V hb2 ha0) rfl (by decide +kernel) (by decide) (Nat.le_of_ble_eq_true rfl) H (fun r h5 hq => ?_)
  clear H
  obtain ⟨z7, rfl, hb6, H⟩ := hq
  exact A_iret d_Voice_highestKey_12 (by decide) rfl H
theorem c_Voice_highestKey {G : cx_T} {s : Nat} {a0 : Nat} {a1 : Int} (ha0 : isV a0) {h : ah_T} {Q : Option av_T → ah_T → Prop} (hb0 : hb s h) (H : i32 a1 → B_Voice_highestKey_0 G s a0 a1 h Q ) : con G 1 0 0 m_Voice_highestKey [av_R (some a0), av_I a1] h Q := by
  have hS : isS s := hb0.2.1
  refine con_of (L := [some (av_R (some a0)), some (av_I a1)]) (by decide +kernel) (Nat.le_of_ble_eq_true rfl) rfl ?_
  refine A_locI 1 rfl (fun ra1 => ?_)
  exact b_Voice_highestKey_0 ha0  hb0 (H ra1)
def B_Voice_hasKey_2 (G : cx_T) (s : Nat) (a0 : Nat) (a1 : Int) (a2 : Int) (v3 : Int) (h : ah_T) (Q : Option av_T → ah_T → Prop) (X2 : Int → ah_T → Prop) : Prop :=
 con G 0 0 0 m_Voice_pitchesOf [av_R (some a0), av_I a1] h (fun r h1 => ∃ z3 : Int, r = some (av_I z3) ∧ hb s h1 ∧ ((z3 ≤ v3 → Q (some (av_I 0)) h1) ∧ (¬ z3 ≤ v3 → con G 0 0 0 m_Voice_keyOf [av_R (some a0), av_I a1, av_I v3] h1 (fun r h4 => ∃ z6 : Int, r = some (av_I z6) ∧ hb s h4 ∧ ((z6 = a2 → Q (some (av_I 1)) h4) ∧ (¬ z6 = a2 → ((-2147483648) ≤ (v3 + 1) ∧ (v3 + 1) ≤ 2147483647) ∧ X2 ((v3 + 1)) h4))))))
theorem b_Voice_hasKey_2 {G : cx_T} {s : Nat} {a0 : Nat} {a1 : Int} {a2 : Int} (ha0 : isV a0) {v3 : Int} {h : ah_T} {Q : Option av_T → ah_T → Prop} {X2 : Int → ah_T → Prop} (hX2 : ∀ (v3 : Int) (h : ah_T), hb s h → X2 v3 h → aw G (rm_R 1 0 0) m_Voice_hasKey 0 0 2 [some (av_R (some a0)), some (av_I a1), some (av_I a2), some (av_I v3)] [] h Q) (hb0 : hb s h) (H : B_Voice_hasKey_2 G s a0 a1 a2 v3 h Q X2) : aw G (rm_R 1 0 0) m_Voice_hasKey 0 0 2 [some (av_R (some a0)), some (av_I a1), some (av_I a2), some (av_I v3)] [] h Q := by
  unfold B_Voice_hasKey_2 at H
  have hS : isS s := hb0.2.1
  refine A_iload_n 3 d_Voice_hasKey_2 rfl rfl ?_
  refine A_aload_n 0 d_Voice_hasKey_3 rfl rfl ?_
  refine A_iload_n 1 d_Voice_hasKey_4 rfl rfl ?_
  refine A_callV1 m_Voice_pitchesOf T_ok d_Voice_hasKey_5 l_Voice_80 k_Voice_pitchesOf (hs_V hb0 ha0) rfl (by decide +kernel) (by decide) (Nat.le_of_ble_eq_true rfl) H (fun r h1 hq => ?_)
  clear H
  obtain ⟨z3, rfl, hb2, H⟩ := hq
  refine A_icmp_ge (tgt := 29) d_Voice_hasKey_8 (by decide) (fun c => ?_) (fun c => ?_)
  · replace H := H.1 c
    refine A_iconst d_Voice_hasKey_29 rfl ?_
    exact A_zret d_Voice_hasKey_30 (by decide) rfl (by decide) H
  · replace H := H.2 c
    refine A_aload_n 0 d_Voice_hasKey_11 rfl rfl ?_
    refine A_iload_n 1 d_Voice_hasKey_12 rfl rfl ?_
    refine A_iload_n 3 d_Voice_hasKey_13 rfl rfl ?_
    refine A_callV2 m_Voice_keyOf T_ok d_Voice_hasKey_14 l_Voice_91 k_Voice_keyOf (hs_V hb2 ha0) rfl (by decide +kernel) (by decide) (Nat.le_of_ble_eq_true rfl) H (fun r h4 hq => ?_)
    clear H
    obtain ⟨z6, rfl, hb5, H⟩ := hq
    refine A_iload_n 2 d_Voice_hasKey_17 rfl rfl ?_
    refine A_icmp_ne (tgt := 23) d_Voice_hasKey_18 (by decide) (fun c => ?_) (fun c => ?_)
    · replace H := H.2 c
      have g7 := H.1
      replace H := H.2
      refine A_iincv (z := (v3 + 1)) (L' := [some (av_R (some a0)), some (av_I a1), some (av_I a2), some (av_I (v3 + 1))]) d_Voice_hasKey_23 rfl (w32_to (by omega) (by unfold i32; omega)) rfl ?_
      refine A_goto (tgt := 2) d_Voice_hasKey_26 (by decide) ?_
      refine A_pc (pc' := 2) rfl ?_
      exact hX2 ((v3 + 1)) h4  hb5 H
    · replace H := H.1 c
      refine A_iconst d_Voice_hasKey_21 rfl ?_
      exact A_zret d_Voice_hasKey_22 (by decide) rfl (by decide) H
theorem lp_Voice_hasKey_2 {G : cx_T} {s : Nat} {a0 : Nat} {a1 : Int} {a2 : Int} (ha0 : isV a0) {Q : Option av_T → ah_T → Prop} (I : Int → ah_T → Prop) (μ : Int → ah_T → Nat) (hI : ∀ (v3 : Int) (h : ah_T), hb s h → I v3 h → B_Voice_hasKey_2 G s a0 a1 a2 v3 h Q (fun v3' h' => I v3' h' ∧ μ v3' h' < μ v3 h)) : ∀ (v3 : Int) (h : ah_T), hb s h → I v3 h → aw G (rm_R 1 0 0) m_Voice_hasKey 0 0 2 [some (av_R (some a0)), some (av_I a1), some (av_I a2), some (av_I v3)] [] h Q := by
  have key : ∀ (n : Nat) (v3 : Int) (h : ah_T), hb s h → I v3 h → μ v3 h < n → aw G (rm_R 1 0 0) m_Voice_hasKey 0 0 2 [some (av_R (some a0)), some (av_I a1), some (av_I a2), some (av_I v3)] [] h Q := by
    intro n
    induction n with
    | zero => intro v3 h  hb0 hi hm; omega
    | succ n ih => intro v3 h  hb0 hi hm; exact b_Voice_hasKey_2 ha0 (fun v3' h'  hb' hx => ih v3' h'  hb' hx.1 (by have := hx.2; omega))  hb0 (hI v3 h  hb0 hi)
  exact fun v3 h  hb0 hi => key _ v3 h  hb0 hi (Nat.lt_succ_self _)
def B_Voice_hasKey_0 (G : cx_T) (s : Nat) (a0 : Nat) (a1 : Int) (a2 : Int) (h : ah_T) (Q : Option av_T → ah_T → Prop) (X2 : Int → ah_T → Prop) : Prop :=
 X2 (0) h
theorem b_Voice_hasKey_0 {G : cx_T} {s : Nat} {a0 : Nat} {a1 : Int} {a2 : Int} (ha0 : isV a0) {h : ah_T} {Q : Option av_T → ah_T → Prop} {X2 : Int → ah_T → Prop} (hX2 : ∀ (v3 : Int) (h : ah_T), hb s h → X2 v3 h → aw G (rm_R 1 0 0) m_Voice_hasKey 0 0 2 [some (av_R (some a0)), some (av_I a1), some (av_I a2), some (av_I v3)] [] h Q) (hb0 : hb s h) (H : B_Voice_hasKey_0 G s a0 a1 a2 h Q X2) : aw G (rm_R 1 0 0) m_Voice_hasKey 0 0 0 [some (av_R (some a0)), some (av_I a1), some (av_I a2), none] [] h Q := by
  unfold B_Voice_hasKey_0 at H
  have hS : isS s := hb0.2.1
  refine A_iconst d_Voice_hasKey_0 rfl ?_
  refine A_istore_n 3 (L' := [some (av_R (some a0)), some (av_I a1), some (av_I a2), some (av_I 0)]) d_Voice_hasKey_1 rfl (Nat.le_of_ble_eq_true rfl) rfl ?_
  refine A_pc (pc' := 2) rfl ?_
  exact hX2 (0) h  hb0 H
theorem c_Voice_hasKey {G : cx_T} {s : Nat} {a0 : Nat} {a1 : Int} {a2 : Int} (ha0 : isV a0) {h : ah_T} {Q : Option av_T → ah_T → Prop} {X2 : Int → ah_T → Prop} (hX2 : ∀ (v3 : Int) (h : ah_T), hb s h → X2 v3 h → aw G (rm_R 1 0 0) m_Voice_hasKey 0 0 2 [some (av_R (some a0)), some (av_I a1), some (av_I a2), some (av_I v3)] [] h Q) (hb0 : hb s h) (H : i32 a1 → i32 a2 → B_Voice_hasKey_0 G s a0 a1 a2 h Q X2) : con G 1 0 0 m_Voice_hasKey [av_R (some a0), av_I a1, av_I a2] h Q := by
  have hS : isS s := hb0.2.1
  refine con_of (L := [some (av_R (some a0)), some (av_I a1), some (av_I a2), none]) (by decide +kernel) (Nat.le_of_ble_eq_true rfl) rfl ?_
  refine A_locI 1 rfl (fun ra1 => ?_)
  refine A_locI 2 rfl (fun ra2 => ?_)
  exact b_Voice_hasKey_0 ha0 hX2 hb0 (H ra1 ra2)
def B_Voice_sinceBarTop_0 (G : cx_T) (s : Nat) (a0 : Nat) (a1 : Int) (a2 : Int) (h : ah_T) (Q : Option av_T → ah_T → Prop) : Prop :=
 (0 ≤ a1 ∧ a1 < 102) ∧ ∀ x2 : Int, x2 = h.2.1 (a0 + 13) (a1).toNat → -2147483648 ≤ x2 → x2 ≤ 2147483647 → (0 ≤ a2 ∧ a2 < 301) ∧ ∀ x5 : Int, x5 = h.2.2.1 (a0 + 9) (a2).toNat → -9223372036854775808 ≤ x5 → x5 ≤ 9223372036854775807 → (0 ≤ x2 ∧ x2 < 301) ∧ ∀ x8 : Int, x8 = h.2.2.1 (a0 + 10) (x2).toNat → -9223372036854775808 ≤ x8 → x8 ≤ 9223372036854775807 → ∀ x10 : Int, x10 = x5 * x8 → ((-9223372036854775808) ≤ x10 ∧ x10 ≤ 9223372036854775807) ∧ ∀ x13 : Int, x13 = h.2.2.1 (a0 + 9) (x2).toNat → -9223372036854775808 ≤ x13 → x13 ≤ 9223372036854775807 → ∀ x15 : Int, x15 = h.2.2.1 (a0 + 10) (a2).toNat → -9223372036854775808 ≤ x15 → x15 ≤ 9223372036854775807 → ∀ x16 : Int, x16 = x13 * x15 → ((-9223372036854775808) ≤ x16 ∧ x16 ≤ 9223372036854775807) ∧ ((-9223372036854775808) ≤ (x10 - x16) ∧ (x10 - x16) ≤ 9223372036854775807) ∧ Q (some (av_L (x10 - x16))) h
theorem b_Voice_sinceBarTop_0 {G : cx_T} {s : Nat} {a0 : Nat} {a1 : Int} {a2 : Int} (ha0 : isV a0) {h : ah_T} {Q : Option av_T → ah_T → Prop} (hb0 : hb s h) (H : B_Voice_sinceBarTop_0 G s a0 a1 a2 h Q ) : aw G (rm_R 0 0 0) m_Voice_sinceBarTop 0 0 0 [some (av_R (some a0)), some (av_I a1), some (av_I a2), none] [] h Q := by
  unfold B_Voice_sinceBarTop_0 at H
  have hS : isS s := hb0.2.1
  refine A_aload_n 0 d_Voice_sinceBarTop_0 rfl rfl ?_
  refine A_getAv (z := some (a0 + 13)) T_ok d_Voice_sinceBarTop_1 f_Voice_50 (hs_V hb0 ha0) (hr_V_15 hb0 ha0) ?_
  refine A_iload_n 1 d_Voice_sinceBarTop_4 rfl rfl ?_
  have g3 := H.1
  replace H := H.2
  refine A_ialoadf d_Voice_sinceBarTop_5 (hs_V_15 hb0 ha0) g3.1 g3.2 (fun x2 ex2 lx2 ux2 => ?_)
  replace H := H x2 ex2 lx2 ux2
  refine A_istore_n 3 (L' := [some (av_R (some a0)), some (av_I a1), some (av_I a2), some (av_I x2)]) d_Voice_sinceBarTop_6 rfl (Nat.le_of_ble_eq_true rfl) rfl ?_
  refine A_pc (pc' := 7) rfl ?_
  refine A_aload_n 0 d_Voice_sinceBarTop_7 rfl rfl ?_
  refine A_getAv (z := some (a0 + 9)) T_ok d_Voice_sinceBarTop_8 f_Voice_37 (hs_V hb0 ha0) (hr_V_10 hb0 ha0) ?_
  refine A_iload_n 2 d_Voice_sinceBarTop_11 rfl rfl ?_
  have g6 := H.1
  replace H := H.2
  refine A_laloadf d_Voice_sinceBarTop_12 (hs_V_10 hb0 ha0) g6.1 g6.2 (fun x5 ex5 lx5 ux5 => ?_)
  replace H := H x5 ex5 lx5 ux5
  refine A_aload_n 0 d_Voice_sinceBarTop_13 rfl rfl ?_
  refine A_getAv (z := some (a0 + 10)) T_ok d_Voice_sinceBarTop_14 f_Voice_41 (hs_V hb0 ha0) (hr_V_11 hb0 ha0) ?_
  refine A_pc (pc' := 17) rfl ?_
  refine A_iload_n 3 d_Voice_sinceBarTop_17 rfl rfl ?_
  have g9 := H.1
  replace H := H.2
  refine A_laloadf d_Voice_sinceBarTop_18 (hs_V_11 hb0 ha0) g9.1 g9.2 (fun x8 ex8 lx8 ux8 => ?_)
  replace H := H x8 ex8 lx8 ux8
  obtain ⟨x10, ex10⟩ : ∃ z : Int, z = x5 * x8 := ⟨_, rfl⟩
  replace H := H x10 ex10
  have g11 := H.1
  replace H := H.2
  refine A_lmulv (z := x10) d_Voice_sinceBarTop_19 (w64_to ex10.symm (by unfold i64; omega)) ?_
  refine A_aload_n 0 d_Voice_sinceBarTop_20 rfl rfl ?_
  refine A_getAv (z := some (a0 + 9)) T_ok d_Voice_sinceBarTop_21 f_Voice_37 (hs_V hb0 ha0) (hr_V_10 hb0 ha0) ?_
  refine A_iload_n 3 d_Voice_sinceBarTop_24 rfl rfl ?_
  refine A_pc (pc' := 25) rfl ?_
  refine A_laloadf d_Voice_sinceBarTop_25 (hs_V_10 hb0 ha0) g9.1 g9.2 (fun x13 ex13 lx13 ux13 => ?_)
  replace H := H x13 ex13 lx13 ux13
  refine A_aload_n 0 d_Voice_sinceBarTop_26 rfl rfl ?_
  refine A_getAv (z := some (a0 + 10)) T_ok d_Voice_sinceBarTop_27 f_Voice_41 (hs_V hb0 ha0) (hr_V_11 hb0 ha0) ?_
  refine A_iload_n 2 d_Voice_sinceBarTop_30 rfl rfl ?_
  refine A_laloadf d_Voice_sinceBarTop_31 (hs_V_11 hb0 ha0) g6.1 g6.2 (fun x15 ex15 lx15 ux15 => ?_)
  replace H := H x15 ex15 lx15 ux15
  obtain ⟨x16, ex16⟩ : ∃ z : Int, z = x13 * x15 := ⟨_, rfl⟩
  replace H := H x16 ex16
  have g17 := H.1
  replace H := H.2
  refine A_lmulv (z := x16) d_Voice_sinceBarTop_32 (w64_to ex16.symm (by unfold i64; omega)) ?_
  refine A_pc (pc' := 33) rfl ?_
  have g18 := H.1
  replace H := H.2
  refine A_lsubv (z := (x10 - x16)) d_Voice_sinceBarTop_33 (w64_to (by omega) (by unfold i64; omega)) ?_
  exact A_lret d_Voice_sinceBarTop_34 (by decide) rfl H
theorem c_Voice_sinceBarTop {G : cx_T} {s : Nat} {a0 : Nat} {a1 : Int} {a2 : Int} (ha0 : isV a0) {h : ah_T} {Q : Option av_T → ah_T → Prop} (hb0 : hb s h) (H : i32 a1 → i32 a2 → B_Voice_sinceBarTop_0 G s a0 a1 a2 h Q ) : con G 0 0 0 m_Voice_sinceBarTop [av_R (some a0), av_I a1, av_I a2] h Q := by
  have hS : isS s := hb0.2.1
  refine con_of (L := [some (av_R (some a0)), some (av_I a1), some (av_I a2), none]) (by decide +kernel) (Nat.le_of_ble_eq_true rfl) rfl ?_
  refine A_locI 1 rfl (fun ra1 => ?_)
  refine A_locI 2 rfl (fun ra2 => ?_)
  exact b_Voice_sinceBarTop_0 ha0  hb0 (H ra1 ra2)
def B_Voice_sinceBarBottom_0 (G : cx_T) (s : Nat) (a0 : Nat) (a1 : Int) (a2 : Int) (h : ah_T) (Q : Option av_T → ah_T → Prop) : Prop :=
 (0 ≤ a2 ∧ a2 < 301) ∧ ∀ x2 : Int, x2 = h.2.2.1 (a0 + 10) (a2).toNat → -9223372036854775808 ≤ x2 → x2 ≤ 9223372036854775807 → (0 ≤ a1 ∧ a1 < 102) ∧ ∀ x6 : Int, x6 = h.2.1 (a0 + 13) (a1).toNat → -2147483648 ≤ x6 → x6 ≤ 2147483647 → (0 ≤ x6 ∧ x6 < 301) ∧ ∀ x8 : Int, x8 = h.2.2.1 (a0 + 10) (x6).toNat → -9223372036854775808 ≤ x8 → x8 ≤ 9223372036854775807 → ∀ x10 : Int, x10 = x2 * x8 → ((-9223372036854775808) ≤ x10 ∧ x10 ≤ 9223372036854775807) ∧ Q (some (av_L x10)) h
theorem b_Voice_sinceBarBottom_0 {G : cx_T} {s : Nat} {a0 : Nat} {a1 : Int} {a2 : Int} (ha0 : isV a0) {h : ah_T} {Q : Option av_T → ah_T → Prop} (hb0 : hb s h) (H : B_Voice_sinceBarBottom_0 G s a0 a1 a2 h Q ) : aw G (rm_R 0 0 0) m_Voice_sinceBarBottom 0 0 0 [some (av_R (some a0)), some (av_I a1), some (av_I a2)] [] h Q := by
  unfold B_Voice_sinceBarBottom_0 at H
  have hS : isS s := hb0.2.1
  refine A_aload_n 0 d_Voice_sinceBarBottom_0 rfl rfl ?_
  refine A_getAv (z := some (a0 + 10)) T_ok d_Voice_sinceBarBottom_1 f_Voice_41 (hs_V hb0 ha0) (hr_V_11 hb0 ha0) ?_
  refine A_iload_n 2 d_Voice_sinceBarBottom_4 rfl rfl ?_
  have g3 := H.1
  replace H := H.2
  refine A_laloadf d_Voice_sinceBarBottom_5 (hs_V_11 hb0 ha0) g3.1 g3.2 (fun x2 ex2 lx2 ux2 => ?_)
  replace H := H x2 ex2 lx2 ux2
  refine A_aload_n 0 d_Voice_sinceBarBottom_6 rfl rfl ?_
  refine A_pc (pc' := 7) rfl ?_
  refine A_getAv (z := some (a0 + 10)) T_ok d_Voice_sinceBarBottom_7 f_Voice_41 (hs_V hb0 ha0) (hr_V_11 hb0 ha0) ?_
  refine A_aload_n 0 d_Voice_sinceBarBottom_10 rfl rfl ?_
  refine A_getAv (z := some (a0 + 13)) T_ok d_Voice_sinceBarBottom_11 f_Voice_50 (hs_V hb0 ha0) (hr_V_15 hb0 ha0) ?_
  refine A_iload_n 1 d_Voice_sinceBarBottom_14 rfl rfl ?_
  have g7 := H.1
  replace H := H.2
  refine A_ialoadf d_Voice_sinceBarBottom_15 (hs_V_15 hb0 ha0) g7.1 g7.2 (fun x6 ex6 lx6 ux6 => ?_)
  replace H := H x6 ex6 lx6 ux6
  have g9 := H.1
  replace H := H.2
  refine A_laloadf d_Voice_sinceBarBottom_16 (hs_V_11 hb0 ha0) g9.1 g9.2 (fun x8 ex8 lx8 ux8 => ?_)
  replace H := H x8 ex8 lx8 ux8
  refine A_pc (pc' := 17) rfl ?_
  obtain ⟨x10, ex10⟩ : ∃ z : Int, z = x2 * x8 := ⟨_, rfl⟩
  replace H := H x10 ex10
  have g11 := H.1
  replace H := H.2
  refine A_lmulv (z := x10) d_Voice_sinceBarBottom_17 (w64_to ex10.symm (by unfold i64; omega)) ?_
  exact A_lret d_Voice_sinceBarBottom_18 (by decide) rfl H
theorem c_Voice_sinceBarBottom {G : cx_T} {s : Nat} {a0 : Nat} {a1 : Int} {a2 : Int} (ha0 : isV a0) {h : ah_T} {Q : Option av_T → ah_T → Prop} (hb0 : hb s h) (H : i32 a1 → i32 a2 → B_Voice_sinceBarBottom_0 G s a0 a1 a2 h Q ) : con G 0 0 0 m_Voice_sinceBarBottom [av_R (some a0), av_I a1, av_I a2] h Q := by
  have hS : isS s := hb0.2.1
  refine con_of (L := [some (av_R (some a0)), some (av_I a1), some (av_I a2)]) (by decide +kernel) (Nat.le_of_ble_eq_true rfl) rfl ?_
  refine A_locI 1 rfl (fun ra1 => ?_)
  refine A_locI 2 rfl (fun ra2 => ?_)
  exact b_Voice_sinceBarBottom_0 ha0  hb0 (H ra1 ra2)
def B_Voice_compareBar_0 (G : cx_T) (s : Nat) (a0 : Nat) (a1 : Int) (a2 : Int) (a3 : Int) (h : ah_T) (Q : Option av_T → ah_T → Prop) : Prop :=
 ((-2147483648) ≤ (a1 + 1) ∧ (a1 + 1) ≤ 2147483647) ∧ (0 ≤ (a1 + 1) ∧ (a1 + 1) < 102) ∧ ∀ x3 : Int, x3 = h.2.1 (a0 + 13) ((a1 + 1)).toNat → -2147483648 ≤ x3 → x3 ≤ 2147483647 → con G 0 0 0 m_Voice_sinceBarTop [av_R (some a0), av_I a1, av_I x3] h (fun r h5 => ∃ z7 : Int, r = some (av_L z7) ∧ hb s h5 ∧ ∀ x8 : Int, x8 = z7 * a3 → ((-9223372036854775808) ≤ x8 ∧ x8 ≤ 9223372036854775807) ∧ con G 0 0 0 m_Voice_sinceBarBottom [av_R (some a0), av_I a1, av_I x3] h5 (fun r h10 => ∃ z12 : Int, r = some (av_L z12) ∧ hb s h10 ∧ ∀ x13 : Int, x13 = z12 * a2 → ((-9223372036854775808) ≤ x13 ∧ x13 ≤ 9223372036854775807) ∧ con G 0 0 0 m_JLong_compare [av_L x8, av_L x13] h10 (fun r h15 => ∃ z17 : Int, r = some (av_I z17) ∧ hb s h15 ∧ Q (some (av_I z17)) h15)))
theorem b_Voice_compareBar_0 {G : cx_T} {s : Nat} {a0 : Nat} {a1 : Int} {a2 : Int} {a3 : Int} (ha0 : isV a0) {h : ah_T} {Q : Option av_T → ah_T → Prop} (hb0 : hb s h) (H : B_Voice_compareBar_0 G s a0 a1 a2 a3 h Q ) : aw G (rm_R 1 0 0) m_Voice_compareBar 0 0 0 [some (av_R (some a0)), some (av_I a1), some (av_I a2), some (av_I a3), none] [] h Q := by
  unfold B_Voice_compareBar_0 at H
  have hS : isS s := hb0.2.1
  refine A_aload_n 0 d_Voice_compareBar_0 rfl rfl ?_
  refine A_getAv (z := some (a0 + 13)) T_ok d_Voice_compareBar_1 f_Voice_50 (hs_V hb0 ha0) (hr_V_15 hb0 ha0) ?_
  refine A_iload_n 1 d_Voice_compareBar_4 rfl rfl ?_
  refine A_iconst d_Voice_compareBar_5 rfl ?_
  have g2 := H.1
  replace H := H.2
  refine A_iaddv (z := (a1 + 1)) d_Voice_compareBar_6 (w32_to (by omega) (by unfold i32; omega)) ?_
  refine A_pc (pc' := 7) rfl ?_
  have g4 := H.1
  replace H := H.2
  refine A_ialoadf d_Voice_compareBar_7 (hs_V_15 hb0 ha0) g4.1 g4.2 (fun x3 ex3 lx3 ux3 => ?_)
  replace H := H x3 ex3 lx3 ux3
  refine A_istore (L' := [some (av_R (some a0)), some (av_I a1), some (av_I a2), some (av_I a3), some (av_I x3)]) d_Voice_compareBar_8 (Nat.le_of_ble_eq_true rfl) rfl ?_
  refine A_aload_n 0 d_Voice_compareBar_10 rfl rfl ?_
  refine A_iload_n 1 d_Voice_compareBar_11 rfl rfl ?_
  refine A_iload d_Voice_compareBar_12 rfl ?_
  refine A_callV2 m_Voice_sinceBarTop T_ok d_Voice_compareBar_14 l_Voice_115 k_Voice_sinceBarTop (hs_V hb0 ha0) rfl (by decide +kernel) (by decide) (Nat.le_of_ble_eq_true rfl) H (fun r h5 hq => ?_)
  clear H
  obtain ⟨z7, rfl, hb6, H⟩ := hq
  refine A_iload_n 3 d_Voice_compareBar_17 rfl rfl ?_
  refine A_i2l d_Voice_compareBar_18 ?_
  obtain ⟨x8, ex8⟩ : ∃ z : Int, z = z7 * a3 := ⟨_, rfl⟩
  replace H := H x8 ex8
  have g9 := H.1
  replace H := H.2
  refine A_lmulv (z := x8) d_Voice_compareBar_19 (w64_to ex8.symm (by unfold i64; omega)) ?_
  refine A_aload_n 0 d_Voice_compareBar_20 rfl rfl ?_
  refine A_iload_n 1 d_Voice_compareBar_21 rfl rfl ?_
  refine A_pc (pc' := 22) rfl ?_
  refine A_iload d_Voice_compareBar_22 rfl ?_
  refine A_callV2 m_Voice_sinceBarBottom T_ok d_Voice_compareBar_24 l_Voice_119 k_Voice_sinceBarBottom (hs_V hb6 ha0) rfl (by decide +kernel) (by decide) (Nat.le_of_ble_eq_true rfl) H (fun r h10 hq => ?_)
  clear H
  obtain ⟨z12, rfl, hb11, H⟩ := hq
  refine A_iload_n 2 d_Voice_compareBar_27 rfl rfl ?_
  refine A_i2l d_Voice_compareBar_28 ?_
  obtain ⟨x13, ex13⟩ : ∃ z : Int, z = z12 * a2 := ⟨_, rfl⟩
  replace H := H x13 ex13
  have g14 := H.1
  replace H := H.2
  refine A_lmulv (z := x13) d_Voice_compareBar_29 (w64_to ex13.symm (by unfold i64; omega)) ?_
  refine A_callS2 m_JLong_compare d_Voice_compareBar_30 l_Voice_122 k_JLong_compare (by decide +kernel) (by decide) (Nat.le_of_ble_eq_true rfl) H (fun r h15 hq => ?_)
  clear H
  obtain ⟨z17, rfl, hb16, H⟩ := hq
  exact A_iret d_Voice_compareBar_33 (by decide) rfl H
theorem c_Voice_compareBar {G : cx_T} {s : Nat} {a0 : Nat} {a1 : Int} {a2 : Int} {a3 : Int} (ha0 : isV a0) {h : ah_T} {Q : Option av_T → ah_T → Prop} (hb0 : hb s h) (H : i32 a1 → i32 a2 → i32 a3 → B_Voice_compareBar_0 G s a0 a1 a2 a3 h Q ) : con G 1 0 0 m_Voice_compareBar [av_R (some a0), av_I a1, av_I a2, av_I a3] h Q := by
  have hS : isS s := hb0.2.1
  refine con_of (L := [some (av_R (some a0)), some (av_I a1), some (av_I a2), some (av_I a3), none]) (by decide +kernel) (Nat.le_of_ble_eq_true rfl) rfl ?_
  refine A_locI 1 rfl (fun ra1 => ?_)
  refine A_locI 2 rfl (fun ra2 => ?_)
  refine A_locI 3 rfl (fun ra3 => ?_)
  exact b_Voice_compareBar_0 ha0  hb0 (H ra1 ra2 ra3)
def B_Judge_add_46 (G : cx_T) (s : Nat) (a1 : Int) (a2 : Int) (a3 : Int) (a4 : Int) (h : ah_T) (Q : Option av_T → ah_T → Prop) : Prop :=
 Q none h
theorem b_Judge_add_46 {G : cx_T} {s : Nat} {a1 : Int} {a2 : Int} {a3 : Int} {a4 : Int} {h : ah_T} {Q : Option av_T → ah_T → Prop} (hb0 : hb s h) (H : B_Judge_add_46 G s a1 a2 a3 a4 h Q ) : aw G (rm_R 0 0 0) m_Judge_add 0 0 46 [none, none, none, none, none] [] h Q := by
  unfold B_Judge_add_46 at H
  have hS : isS s := hb0.2.1
  exact A_vret d_Judge_add_46 (by decide) rfl H
def B_Judge_add_0 (G : cx_T) (s : Nat) (a1 : Int) (a2 : Int) (a3 : Int) (a4 : Int) (h : ah_T) (Q : Option av_T → ah_T → Prop) : Prop :=
 ∀ x1 : Int, x1 = h.2.1 143 1 → -2147483648 ≤ x1 → x1 ≤ 2147483647 → ((6404 ≤ x1 → B_Judge_add_46 G s a1 a2 a3 a4 h Q ) ∧ (¬ 6404 ≤ x1 → ∀ x5 : Int, x5 = ((Int32.ofInt a2) <<< (Int32.ofInt 3 &&& 31)).toInt → (-2147483648) ≤ x5 → x5 ≤ 2147483647 → ∀ x6 : Int, x6 = ((Int32.ofInt a1) ||| (Int32.ofInt x5)).toInt → (-2147483648) ≤ x6 → x6 ≤ 2147483647 → ∀ x7 : Int, x7 = ((Int32.ofInt a3) <<< (Int32.ofInt 5 &&& 31)).toInt → (-2147483648) ≤ x7 → x7 ≤ 2147483647 → ∀ x8 : Int, x8 = ((Int32.ofInt x6) ||| (Int32.ofInt x7)).toInt → (-2147483648) ≤ x8 → x8 ≤ 2147483647 → ∀ x9 : Int, x9 = ((Int32.ofInt a4) <<< (Int32.ofInt 14 &&& 31)).toInt → (-2147483648) ≤ x9 → x9 ≤ 2147483647 → ∀ x10 : Int, x10 = ((Int32.ofInt x8) ||| (Int32.ofInt x9)).toInt → (-2147483648) ≤ x10 → x10 ≤ 2147483647 → (0 ≤ x1 ∧ x1 < 6404) ∧ ∀ h12 : ah_T, h12 = st_i h 144 (x1).toNat x10 → ((-2147483648) ≤ (x1 + 1) ∧ (x1 + 1) ≤ 2147483647) ∧ ∀ h16 : ah_T, h16 = st_i h12 143 1 (x1 + 1) → B_Judge_add_46 G s a1 a2 a3 a4 h16 Q ))
theorem b_Judge_add_0 {G : cx_T} {s : Nat} {a1 : Int} {a2 : Int} {a3 : Int} {a4 : Int} {h : ah_T} {Q : Option av_T → ah_T → Prop} (hb0 : hb s h) (H : B_Judge_add_0 G s a1 a2 a3 a4 h Q ) : aw G (rm_R 0 0 0) m_Judge_add 0 0 0 [some (av_R (some 143)), some (av_I a1), some (av_I a2), some (av_I a3), some (av_I a4)] [] h Q := by
  unfold B_Judge_add_0 at H
  have hS : isS s := hb0.2.1
  refine A_aload_n 0 d_Judge_add_0 rfl rfl ?_
  refine A_getIf T_ok d_Judge_add_1 f_Judge_18 (hb_s hb0 sf_143) (fun x1 ex1 lx1 ux1 => ?_)
  replace H := H x1 ex1 lx1 ux1
  refine A_aload_n 0 d_Judge_add_4 rfl rfl ?_
  refine A_getAv (z := some 144) T_ok d_Judge_add_5 f_Judge_11 (hb_s hb0 sf_143) (hb_r hb0 rff_143_0) ?_
  refine A_alenN d_Judge_add_8 (hb_s hb0 sf_144) (by decide) (by decide) ?_
  refine A_pc (pc' := 9) rfl ?_
  refine A_icmp_ge (tgt := 46) d_Judge_add_9 (by decide) (fun c => ?_) (fun c => ?_)
  · replace H := H.1 c
    refine A_pc (pc' := 46) rfl ?_
    refine A_free (L' := [none, none, none, none, none]) trivial ?_
    exact b_Judge_add_46    hb0 H
  · replace H := H.2 c
    refine A_aload_n 0 d_Judge_add_12 rfl rfl ?_
    refine A_getAv (z := some 144) T_ok d_Judge_add_13 f_Judge_11 (hb_s hb0 sf_143) (hb_r hb0 rff_143_0) ?_
    refine A_aload_n 0 d_Judge_add_16 rfl rfl ?_
    refine A_getIv (z := x1) T_ok d_Judge_add_17 f_Judge_18 (hb_s hb0 sf_143) ex1.symm ?_
    refine A_iload_n 1 d_Judge_add_20 rfl rfl ?_
    refine A_pc (pc' := 21) rfl ?_
    refine A_iload_n 2 d_Judge_add_21 rfl rfl ?_
    refine A_iconst d_Judge_add_22 rfl ?_
    refine A_ishl d_Judge_add_23 ?_
    refine A_nrI (fun x5 ex5 lx5 ux5 => ?_)
    replace H := H x5 ex5 lx5 ux5
    refine A_ior d_Judge_add_24 ?_
    refine A_nrI (fun x6 ex6 lx6 ux6 => ?_)
    replace H := H x6 ex6 lx6 ux6
    refine A_iload_n 3 d_Judge_add_25 rfl rfl ?_
    refine A_iconst d_Judge_add_26 rfl ?_
    refine A_pc (pc' := 27) rfl ?_
    refine A_ishl d_Judge_add_27 ?_
    refine A_nrI (fun x7 ex7 lx7 ux7 => ?_)
    replace H := H x7 ex7 lx7 ux7
    refine A_ior d_Judge_add_28 ?_
    refine A_nrI (fun x8 ex8 lx8 ux8 => ?_)
    replace H := H x8 ex8 lx8 ux8
    refine A_iload d_Judge_add_29 rfl ?_
    refine A_bipush d_Judge_add_31 rfl ?_
    refine A_ishl d_Judge_add_33 ?_
    refine A_nrI (fun x9 ex9 lx9 ux9 => ?_)
    replace H := H x9 ex9 lx9 ux9
    refine A_ior d_Judge_add_34 ?_
    refine A_nrI (fun x10 ex10 lx10 ux10 => ?_)
    replace H := H x10 ex10 lx10 ux10
    refine A_pc (pc' := 35) rfl ?_
    have g11 := H.1
    replace H := H.2
    refine A_iastoreN d_Judge_add_35 (hb_s hb0 sf_144) g11.1 g11.2 ?_
    refine A_hn (fun h12 eh12 => ?_)
    have hb13 := hb_i hb0 eh12
    replace H := H h12 eh12
    refine A_aload_n 0 d_Judge_add_36 rfl rfl ?_
    refine A_dupR d_Judge_add_37 ?_
    refine A_getIv (z := x1) T_ok d_Judge_add_38 f_Judge_18 (hb_s hb13 sf_143) ((mm_i eh12 (fun q => absurd q.1 (by decide))).trans ex1.symm) ?_
    refine A_iconst d_Judge_add_41 rfl ?_
    have g15 := H.1
    replace H := H.2
    refine A_iaddv (z := (x1 + 1)) d_Judge_add_42 (w32_to (by omega) (by unfold i32; omega)) ?_
    refine A_pc (pc' := 43) rfl ?_
    refine A_putI T_ok d_Judge_add_43 f_Judge_18 (hb_s hb13 sf_143) fin_f ?_
    refine A_hn (fun h16 eh16 => ?_)
    have hb17 := hb_i hb13 eh16
    replace H := H h16 eh16
    refine A_pc (pc' := 46) rfl ?_
    refine A_free (L' := [none, none, none, none, none]) trivial ?_
    exact b_Judge_add_46    hb17 H
theorem c_Judge_add {G : cx_T} {s : Nat} {a1 : Int} {a2 : Int} {a3 : Int} {a4 : Int} {h : ah_T} {Q : Option av_T → ah_T → Prop} (hb0 : hb s h) (H : i32 a1 → i32 a2 → i32 a3 → i32 a4 → B_Judge_add_0 G s a1 a2 a3 a4 h Q ) : con G 0 0 0 m_Judge_add [av_R (some 143), av_I a1, av_I a2, av_I a3, av_I a4] h Q := by
  have hS : isS s := hb0.2.1
  refine con_of (L := [some (av_R (some 143)), some (av_I a1), some (av_I a2), some (av_I a3), some (av_I a4)]) (by decide +kernel) (Nat.le_of_ble_eq_true rfl) rfl ?_
  refine A_locI 1 rfl (fun ra1 => ?_)
  refine A_locI 2 rfl (fun ra2 => ?_)
  refine A_locI 3 rfl (fun ra3 => ?_)
  refine A_locI 4 rfl (fun ra4 => ?_)
  exact b_Judge_add_0   hb0 (H ra1 ra2 ra3 ra4)
def B_Judge_isWhole_41 (G : cx_T) (s : Nat) (a0 : Nat) (a1 : Nat) (a2 : Int) (t0 : Int) (h : ah_T) (Q : Option av_T → ah_T → Prop) : Prop :=
 (t0 = 0 ∨ t0 = 1) ∧ Q (some (av_I t0)) h
theorem b_Judge_isWhole_41 {G : cx_T} {s : Nat} {a0 : Nat} {a1 : Nat} {a2 : Int} (ha0 : isS a0) (ha1 : isV a1) {t0 : Int} {h : ah_T} {Q : Option av_T → ah_T → Prop} (hb0 : hb s h) (H : B_Judge_isWhole_41 G s a0 a1 a2 t0 h Q ) : aw G (rm_R 2 0 0) m_Judge_isWhole 0 0 41 [none, none, none, none] [av_I t0] h Q := by
  unfold B_Judge_isWhole_41 at H
  have hS : isS s := hb0.2.1
  exact A_zret d_Judge_isWhole_41 (by decide) rfl H.1 H.2
def B_Judge_isWhole_40 (G : cx_T) (s : Nat) (a0 : Nat) (a1 : Nat) (a2 : Int) (h : ah_T) (Q : Option av_T → ah_T → Prop) : Prop :=
 B_Judge_isWhole_41 G s a0 a1 a2 (0) h Q 
theorem b_Judge_isWhole_40 {G : cx_T} {s : Nat} {a0 : Nat} {a1 : Nat} {a2 : Int} (ha0 : isS a0) (ha1 : isV a1) {h : ah_T} {Q : Option av_T → ah_T → Prop} (hb0 : hb s h) (H : B_Judge_isWhole_40 G s a0 a1 a2 h Q ) : aw G (rm_R 2 0 0) m_Judge_isWhole 0 0 40 [none, none, none, none] [] h Q := by
  unfold B_Judge_isWhole_40 at H
  have hS : isS s := hb0.2.1
  refine A_iconst d_Judge_isWhole_40 rfl ?_
  refine A_pc (pc' := 41) rfl ?_
  exact b_Judge_isWhole_41 ha0 ha1   hb0 H
def B_Judge_isWhole_36 (G : cx_T) (s : Nat) (a0 : Nat) (a1 : Nat) (a2 : Int) (h : ah_T) (Q : Option av_T → ah_T → Prop) : Prop :=
 B_Judge_isWhole_41 G s a0 a1 a2 (1) h Q 
theorem b_Judge_isWhole_36 {G : cx_T} {s : Nat} {a0 : Nat} {a1 : Nat} {a2 : Int} (ha0 : isS a0) (ha1 : isV a1) {h : ah_T} {Q : Option av_T → ah_T → Prop} (hb0 : hb s h) (H : B_Judge_isWhole_36 G s a0 a1 a2 h Q ) : aw G (rm_R 2 0 0) m_Judge_isWhole 0 0 36 [none, none, none, none] [] h Q := by
  unfold B_Judge_isWhole_36 at H
  have hS : isS s := hb0.2.1
  refine A_iconst d_Judge_isWhole_36 rfl ?_
  refine A_goto (tgt := 41) d_Judge_isWhole_37 (by decide) ?_
  refine A_pc (pc' := 41) rfl ?_
  exact b_Judge_isWhole_41 ha0 ha1   hb0 H
def B_Judge_isWhole_0 (G : cx_T) (s : Nat) (a0 : Nat) (a1 : Nat) (a2 : Int) (h : ah_T) (Q : Option av_T → ah_T → Prop) : Prop :=
 ∀ x1 : Int, x1 = h.2.1 a0 2 → -2147483648 ≤ x1 → x1 ≤ 2147483647 → ∀ x2 : Int, x2 = h.2.1 a0 3 → -2147483648 ≤ x2 → x2 ≤ 2147483647 → con G 1 0 0 m_Voice_compareBar [av_R (some a1), av_I a2, av_I x1, av_I x2] h (fun r h3 => ∃ z5 : Int, r = some (av_I z5) ∧ hb s h3 ∧ ((z5 = 0 → B_Judge_isWhole_36 G s a0 a1 a2 h3 Q ) ∧ (¬ z5 = 0 → ((0 ≤ z5 → B_Judge_isWhole_40 G s a0 a1 a2 h3 Q ) ∧ (¬ 0 ≤ z5 → ((a2 = 0 → B_Judge_isWhole_36 G s a0 a1 a2 h3 Q ) ∧ (¬ a2 = 0 → ∀ x6 : Int, x6 = h3.2.1 a1 16 → -2147483648 ≤ x6 → x6 ≤ 2147483647 → ((-2147483648) ≤ (x6 - 1) ∧ (x6 - 1) ≤ 2147483647) ∧ ((a2 = (x6 - 1) → B_Judge_isWhole_36 G s a0 a1 a2 h3 Q ) ∧ (¬ a2 = (x6 - 1) → B_Judge_isWhole_40 G s a0 a1 a2 h3 Q )))))))))
theorem b_Judge_isWhole_0 {G : cx_T} {s : Nat} {a0 : Nat} {a1 : Nat} {a2 : Int} (ha0 : isS a0) (ha1 : isV a1) {h : ah_T} {Q : Option av_T → ah_T → Prop} (hb0 : hb s h) (H : B_Judge_isWhole_0 G s a0 a1 a2 h Q ) : aw G (rm_R 2 0 0) m_Judge_isWhole 0 0 0 [some (av_R (some a0)), some (av_R (some a1)), some (av_I a2), none] [] h Q := by
  unfold B_Judge_isWhole_0 at H
  have hS : isS s := hb0.2.1
  refine A_aload_n 1 d_Judge_isWhole_0 rfl rfl ?_
  refine A_iload_n 2 d_Judge_isWhole_1 rfl rfl ?_
  refine A_aload_n 0 d_Judge_isWhole_2 rfl rfl ?_
  refine A_getIf T_ok d_Judge_isWhole_3 f_Judge_65 (hs_S hb0 ha0) (fun x1 ex1 lx1 ux1 => ?_)
  replace H := H x1 ex1 lx1 ux1
  refine A_aload_n 0 d_Judge_isWhole_6 rfl rfl ?_
  refine A_pc (pc' := 7) rfl ?_
  refine A_getIf T_ok d_Judge_isWhole_7 f_Judge_68 (hs_S hb0 ha0) (fun x2 ex2 lx2 ux2 => ?_)
  replace H := H x2 ex2 lx2 ux2
  refine A_callV3 m_Voice_compareBar T_ok d_Judge_isWhole_10 l_Judge_71 k_Voice_compareBar (hs_V hb0 ha1) rfl (by decide +kernel) (by decide) (Nat.le_of_ble_eq_true rfl) H (fun r h3 hq => ?_)
  clear H
  obtain ⟨z5, rfl, hb4, H⟩ := hq
  refine A_istore_n 3 (L' := [some (av_R (some a0)), some (av_R (some a1)), some (av_I a2), some (av_I z5)]) d_Judge_isWhole_13 rfl (Nat.le_of_ble_eq_true rfl) rfl ?_
  refine A_iload_n 3 d_Judge_isWhole_14 rfl rfl ?_
  refine A_if_eq (tgt := 36) d_Judge_isWhole_15 (by decide) (fun c => ?_) (fun c => ?_)
  · replace H := H.1 c
    refine A_pc (pc' := 36) rfl ?_
    refine A_free (L' := [none, none, none, none]) trivial ?_
    exact b_Judge_isWhole_36 ha0 ha1   hb4 H
  · replace H := H.2 c
    refine A_iload_n 3 d_Judge_isWhole_18 rfl rfl ?_
    refine A_if_ge (tgt := 40) d_Judge_isWhole_19 (by decide) (fun c => ?_) (fun c => ?_)
    · replace H := H.1 c
      refine A_pc (pc' := 40) rfl ?_
      refine A_free (L' := [none, none, none, none]) trivial ?_
      exact b_Judge_isWhole_40 ha0 ha1   hb4 H
    · replace H := H.2 c
      refine A_iload_n 2 d_Judge_isWhole_22 rfl rfl ?_
      refine A_if_eq (tgt := 36) d_Judge_isWhole_23 (by decide) (fun c => ?_) (fun c => ?_)
      · replace H := H.1 c
        refine A_pc (pc' := 36) rfl ?_
        refine A_free (L' := [none, none, none, none]) trivial ?_
        exact b_Judge_isWhole_36 ha0 ha1   hb4 H
      · replace H := H.2 c
        refine A_iload_n 2 d_Judge_isWhole_26 rfl rfl ?_
        refine A_aload_n 1 d_Judge_isWhole_27 rfl rfl ?_
        refine A_getIf T_ok d_Judge_isWhole_28 f_Judge_40 (hs_V hb4 ha1) (fun x6 ex6 lx6 ux6 => ?_)
        replace H := H x6 ex6 lx6 ux6
        refine A_iconst d_Judge_isWhole_31 rfl ?_
        have g7 := H.1
        replace H := H.2
        refine A_isubv (z := (x6 - 1)) d_Judge_isWhole_32 (w32_to (by omega) (by unfold i32; omega)) ?_
        refine A_pc (pc' := 33) rfl ?_
        refine A_icmp_ne (tgt := 40) d_Judge_isWhole_33 (by decide) (fun c => ?_) (fun c => ?_)
        · replace H := H.2 c
          refine A_pc (pc' := 40) rfl ?_
          refine A_free (L' := [none, none, none, none]) trivial ?_
          exact b_Judge_isWhole_40 ha0 ha1   hb4 H
        · replace H := H.1 c
          refine A_pc (pc' := 36) rfl ?_
          refine A_free (L' := [none, none, none, none]) trivial ?_
          exact b_Judge_isWhole_36 ha0 ha1   hb4 H
theorem c_Judge_isWhole {G : cx_T} {s : Nat} {a0 : Nat} {a1 : Nat} {a2 : Int} (ha0 : isS a0) (ha1 : isV a1) {h : ah_T} {Q : Option av_T → ah_T → Prop} (hb0 : hb s h) (H : i32 a2 → B_Judge_isWhole_0 G s a0 a1 a2 h Q ) : con G 2 0 0 m_Judge_isWhole [av_R (some a0), av_R (some a1), av_I a2] h Q := by
  have hS : isS s := hb0.2.1
  refine con_of (L := [some (av_R (some a0)), some (av_R (some a1)), some (av_I a2), none]) (by decide +kernel) (Nat.le_of_ble_eq_true rfl) rfl ?_
  refine A_locI 2 rfl (fun ra2 => ?_)
  exact b_Judge_isWhole_0 ha0 ha1  hb0 (H ra2)
def B_Judge_isHeld_14 (G : cx_T) (s : Nat) (a0 : Nat) (a1 : Int) (v2 : Int) (h : ah_T) (Q : Option av_T → ah_T → Prop) (X14 : Int → ah_T → Prop) : Prop :=
 con G 0 0 0 m_Voice_pitchesOf [av_R (some a0), av_I a1] h (fun r h1 => ∃ z3 : Int, r = some (av_I z3) ∧ hb s h1 ∧ ((z3 ≤ v2 → Q (some (av_I 1)) h1) ∧ (¬ z3 ≤ v2 → ((-2147483648) ≤ (a1 + 1) ∧ (a1 + 1) ≤ 2147483647) ∧ con G 0 0 0 m_Voice_keyOf [av_R (some a0), av_I a1, av_I v2] h1 (fun r h5 => ∃ z7 : Int, r = some (av_I z7) ∧ hb s h5 ∧ con G 1 0 0 m_Voice_hasKey [av_R (some a0), av_I (a1 + 1), av_I z7] h5 (fun r h8 => ∃ z10 : Int, r = some (av_I z10) ∧ hb s h8 ∧ ((z10 = 0 → Q (some (av_I 0)) h8) ∧ (¬ z10 = 0 → ((-2147483648) ≤ (v2 + 1) ∧ (v2 + 1) ≤ 2147483647) ∧ X14 ((v2 + 1)) h8)))))))
theorem b_Judge_isHeld_14 {G : cx_T} {s : Nat} {a0 : Nat} {a1 : Int} (ha0 : isV a0) {v2 : Int} {h : ah_T} {Q : Option av_T → ah_T → Prop} {X14 : Int → ah_T → Prop} (hX14 : ∀ (v2 : Int) (h : ah_T), hb s h → X14 v2 h → aw G (rm_R 2 0 0) m_Judge_isHeld 0 0 14 [some (av_R (some a0)), some (av_I a1), some (av_I v2)] [] h Q) (hb0 : hb s h) (H : B_Judge_isHeld_14 G s a0 a1 v2 h Q X14) : aw G (rm_R 2 0 0) m_Judge_isHeld 0 0 14 [some (av_R (some a0)), some (av_I a1), some (av_I v2)] [] h Q := by
  unfold B_Judge_isHeld_14 at H
  have hS : isS s := hb0.2.1
  refine A_iload_n 2 d_Judge_isHeld_14 rfl rfl ?_
  refine A_aload_n 0 d_Judge_isHeld_15 rfl rfl ?_
  refine A_iload_n 1 d_Judge_isHeld_16 rfl rfl ?_
  refine A_callV1 m_Voice_pitchesOf T_ok d_Judge_isHeld_17 l_Judge_95 k_Voice_pitchesOf (hs_V hb0 ha0) rfl (by decide +kernel) (by decide) (Nat.le_of_ble_eq_true rfl) H (fun r h1 hq => ?_)
  clear H
  obtain ⟨z3, rfl, hb2, H⟩ := hq
  refine A_icmp_ge (tgt := 47) d_Judge_isHeld_20 (by decide) (fun c => ?_) (fun c => ?_)
  · replace H := H.1 c
    refine A_iconst d_Judge_isHeld_47 rfl ?_
    exact A_zret d_Judge_isHeld_48 (by decide) rfl (by decide) H
  · replace H := H.2 c
    refine A_aload_n 0 d_Judge_isHeld_23 rfl rfl ?_
    refine A_iload_n 1 d_Judge_isHeld_24 rfl rfl ?_
    refine A_iconst d_Judge_isHeld_25 rfl ?_
    have g4 := H.1
    replace H := H.2
    refine A_iaddv (z := (a1 + 1)) d_Judge_isHeld_26 (w32_to (by omega) (by unfold i32; omega)) ?_
    refine A_aload_n 0 d_Judge_isHeld_27 rfl rfl ?_
    refine A_pc (pc' := 28) rfl ?_
    refine A_iload_n 1 d_Judge_isHeld_28 rfl rfl ?_
    refine A_iload_n 2 d_Judge_isHeld_29 rfl rfl ?_
    refine A_callV2 m_Voice_keyOf T_ok d_Judge_isHeld_30 l_Judge_98 k_Voice_keyOf (hs_V hb2 ha0) rfl (by decide +kernel) (by decide) (Nat.le_of_ble_eq_true rfl) H (fun r h5 hq => ?_)
    clear H
    obtain ⟨z7, rfl, hb6, H⟩ := hq
    refine A_callV2 m_Voice_hasKey T_ok d_Judge_isHeld_33 l_Judge_102 k_Voice_hasKey (hs_V hb6 ha0) rfl (by decide +kernel) (by decide) (Nat.le_of_ble_eq_true rfl) H (fun r h8 hq => ?_)
    clear H
    obtain ⟨z10, rfl, hb9, H⟩ := hq
    refine A_if_ne (tgt := 41) d_Judge_isHeld_36 (by decide) (fun c => ?_) (fun c => ?_)
    · replace H := H.2 c
      have g11 := H.1
      replace H := H.2
      refine A_iincv (z := (v2 + 1)) (L' := [some (av_R (some a0)), some (av_I a1), some (av_I (v2 + 1))]) d_Judge_isHeld_41 rfl (w32_to (by omega) (by unfold i32; omega)) rfl ?_
      refine A_goto (tgt := 14) d_Judge_isHeld_44 (by decide) ?_
      refine A_pc (pc' := 14) rfl ?_
      exact hX14 ((v2 + 1)) h8  hb9 H
    · replace H := H.1 c
      refine A_iconst d_Judge_isHeld_39 rfl ?_
      exact A_zret d_Judge_isHeld_40 (by decide) rfl (by decide) H
theorem lp_Judge_isHeld_14 {G : cx_T} {s : Nat} {a0 : Nat} {a1 : Int} (ha0 : isV a0) {Q : Option av_T → ah_T → Prop} (I : Int → ah_T → Prop) (μ : Int → ah_T → Nat) (hI : ∀ (v2 : Int) (h : ah_T), hb s h → I v2 h → B_Judge_isHeld_14 G s a0 a1 v2 h Q (fun v2' h' => I v2' h' ∧ μ v2' h' < μ v2 h)) : ∀ (v2 : Int) (h : ah_T), hb s h → I v2 h → aw G (rm_R 2 0 0) m_Judge_isHeld 0 0 14 [some (av_R (some a0)), some (av_I a1), some (av_I v2)] [] h Q := by
  have key : ∀ (n : Nat) (v2 : Int) (h : ah_T), hb s h → I v2 h → μ v2 h < n → aw G (rm_R 2 0 0) m_Judge_isHeld 0 0 14 [some (av_R (some a0)), some (av_I a1), some (av_I v2)] [] h Q := by
    intro n
    induction n with
    | zero => intro v2 h  hb0 hi hm; omega
    | succ n ih => intro v2 h  hb0 hi hm; exact b_Judge_isHeld_14 ha0 (fun v2' h'  hb' hx => ih v2' h'  hb' hx.1 (by have := hx.2; omega))  hb0 (hI v2 h  hb0 hi)
  exact fun v2 h  hb0 hi => key _ v2 h  hb0 hi (Nat.lt_succ_self _)
def B_Judge_isHeld_0 (G : cx_T) (s : Nat) (a0 : Nat) (a1 : Int) (h : ah_T) (Q : Option av_T → ah_T → Prop) (X14 : Int → ah_T → Prop) : Prop :=
 ((-2147483648) ≤ (a1 + 1) ∧ (a1 + 1) ≤ 2147483647) ∧ ∀ x2 : Int, x2 = h.2.1 a0 14 → -2147483648 ≤ x2 → x2 ≤ 2147483647 → (((a1 + 1) < x2 → X14 (0) h) ∧ (¬ (a1 + 1) < x2 → Q (some (av_I 0)) h))
theorem b_Judge_isHeld_0 {G : cx_T} {s : Nat} {a0 : Nat} {a1 : Int} (ha0 : isV a0) {h : ah_T} {Q : Option av_T → ah_T → Prop} {X14 : Int → ah_T → Prop} (hX14 : ∀ (v2 : Int) (h : ah_T), hb s h → X14 v2 h → aw G (rm_R 2 0 0) m_Judge_isHeld 0 0 14 [some (av_R (some a0)), some (av_I a1), some (av_I v2)] [] h Q) (hb0 : hb s h) (H : B_Judge_isHeld_0 G s a0 a1 h Q X14) : aw G (rm_R 2 0 0) m_Judge_isHeld 0 0 0 [some (av_R (some a0)), some (av_I a1), none] [] h Q := by
  unfold B_Judge_isHeld_0 at H
  have hS : isS s := hb0.2.1
  refine A_iload_n 1 d_Judge_isHeld_0 rfl rfl ?_
  refine A_iconst d_Judge_isHeld_1 rfl ?_
  have g1 := H.1
  replace H := H.2
  refine A_iaddv (z := (a1 + 1)) d_Judge_isHeld_2 (w32_to (by omega) (by unfold i32; omega)) ?_
  refine A_aload_n 0 d_Judge_isHeld_3 rfl rfl ?_
  refine A_getIf T_ok d_Judge_isHeld_4 f_Judge_35 (hs_V hb0 ha0) (fun x2 ex2 lx2 ux2 => ?_)
  replace H := H x2 ex2 lx2 ux2
  refine A_pc (pc' := 7) rfl ?_
  refine A_icmp_lt (tgt := 12) d_Judge_isHeld_7 (by decide) (fun c => ?_) (fun c => ?_)
  · replace H := H.1 c
    refine A_iconst d_Judge_isHeld_12 rfl ?_
    refine A_istore_n 2 (L' := [some (av_R (some a0)), some (av_I a1), some (av_I 0)]) d_Judge_isHeld_13 rfl (Nat.le_of_ble_eq_true rfl) rfl ?_
    refine A_pc (pc' := 14) rfl ?_
    exact hX14 (0) h  hb0 H
  · replace H := H.2 c
    refine A_iconst d_Judge_isHeld_10 rfl ?_
    exact A_zret d_Judge_isHeld_11 (by decide) rfl (by decide) H
theorem c_Judge_isHeld {G : cx_T} {s : Nat} {a0 : Nat} {a1 : Int} (ha0 : isV a0) {h : ah_T} {Q : Option av_T → ah_T → Prop} {X14 : Int → ah_T → Prop} (hX14 : ∀ (v2 : Int) (h : ah_T), hb s h → X14 v2 h → aw G (rm_R 2 0 0) m_Judge_isHeld 0 0 14 [some (av_R (some a0)), some (av_I a1), some (av_I v2)] [] h Q) (hb0 : hb s h) (H : i32 a1 → B_Judge_isHeld_0 G s a0 a1 h Q X14) : con G 2 0 0 m_Judge_isHeld [av_R (some a0), av_I a1] h Q := by
  have hS : isS s := hb0.2.1
  refine con_of (L := [some (av_R (some a0)), some (av_I a1), none]) (by decide +kernel) (Nat.le_of_ble_eq_true rfl) rfl ?_
  refine A_locI 1 rfl (fun ra1 => ?_)
  exact b_Judge_isHeld_0 ha0 hX14 hb0 (H ra1)
def B_Judge_hearAlone_75 (G : cx_T) (s : Nat) (a1 : Nat) (a2 : Int) (a3 : Int) (h : ah_T) (Q : Option av_T → ah_T → Prop) : Prop :=
 Q none h
theorem b_Judge_hearAlone_75 {G : cx_T} {s : Nat} {a1 : Nat} {a2 : Int} {a3 : Int} (ha1 : isV a1) {h : ah_T} {Q : Option av_T → ah_T → Prop} (hb0 : hb s h) (H : B_Judge_hearAlone_75 G s a1 a2 a3 h Q ) : aw G (rm_R 3 0 0) m_Judge_hearAlone 0 0 75 [none, none, none, none] [] h Q := by
  unfold B_Judge_hearAlone_75 at H
  have hS : isS s := hb0.2.1
  exact A_vret d_Judge_hearAlone_75 (by decide) rfl H
def B_Judge_hearAlone_24 (G : cx_T) (s : Nat) (a1 : Nat) (a2 : Int) (a3 : Int) (h : ah_T) (Q : Option av_T → ah_T → Prop) : Prop :=
 ((a3 ≤ 0 → B_Judge_hearAlone_75 G s a1 a2 a3 h Q ) ∧ (¬ a3 ≤ 0 → con G 1 0 0 m_Voice_isRest [av_R (some a1), av_I a3] h (fun r h1 => ∃ z3 : Int, r = some (av_I z3) ∧ hb s h1 ∧ ((z3 = 0 → ((-2147483648) ≤ (a3 - 1) ∧ (a3 - 1) ≤ 2147483647) ∧ con G 1 0 0 m_Voice_isRest [av_R (some a1), av_I (a3 - 1)] h1 (fun r h5 => ∃ z7 : Int, r = some (av_I z7) ∧ hb s h5 ∧ ((z7 = 0 → con G 1 0 0 m_Voice_lowestKey [av_R (some a1), av_I a3] h5 (fun r h8 => ∃ z10 : Int, r = some (av_I z10) ∧ hb s h8 ∧ con G 1 0 0 m_Voice_lowestKey [av_R (some a1), av_I (a3 - 1)] h8 (fun r h11 => ∃ z13 : Int, r = some (av_I z13) ∧ hb s h11 ∧ ((-2147483648) ≤ (z10 - z13) ∧ (z10 - z13) ≤ 2147483647) ∧ ∀ x15 : Int, x15 = (if 0 ≤ (z10 - z13) then (z10 - z13) else w32 (0 - (z10 - z13))) → -2147483648 ≤ x15 → x15 ≤ 2147483647 → ((x15 ≤ 12 → B_Judge_hearAlone_75 G s a1 a2 a3 h11 Q ) ∧ (¬ x15 ≤ 12 → con G 0 0 0 m_Judge_add [av_R (some 143), av_I 3, av_I a2, av_I a3, av_I 0] h11 (fun r h16 => r = none ∧ hb s h16 ∧ B_Judge_hearAlone_75 G s a1 a2 a3 h16 Q )))))) ∧ (¬ z7 = 0 → B_Judge_hearAlone_75 G s a1 a2 a3 h5 Q )))) ∧ (¬ z3 = 0 → B_Judge_hearAlone_75 G s a1 a2 a3 h1 Q )))))
theorem b_Judge_hearAlone_24 {G : cx_T} {s : Nat} {a1 : Nat} {a2 : Int} {a3 : Int} (ha1 : isV a1) {h : ah_T} {Q : Option av_T → ah_T → Prop} (hb0 : hb s h) (H : B_Judge_hearAlone_24 G s a1 a2 a3 h Q ) : aw G (rm_R 3 0 0) m_Judge_hearAlone 0 0 24 [some (av_R (some 143)), some (av_R (some a1)), some (av_I a2), some (av_I a3)] [] h Q := by
  unfold B_Judge_hearAlone_24 at H
  have hS : isS s := hb0.2.1
  refine A_iload_n 3 d_Judge_hearAlone_24 rfl rfl ?_
  refine A_if_le (tgt := 75) d_Judge_hearAlone_25 (by decide) (fun c => ?_) (fun c => ?_)
  · replace H := H.1 c
    refine A_pc (pc' := 75) rfl ?_
    refine A_free (L' := [none, none, none, none]) trivial ?_
    exact b_Judge_hearAlone_75 ha1   hb0 H
  · replace H := H.2 c
    refine A_aload_n 1 d_Judge_hearAlone_28 rfl rfl ?_
    refine A_iload_n 3 d_Judge_hearAlone_29 rfl rfl ?_
    refine A_callV1 m_Voice_isRest T_ok d_Judge_hearAlone_30 l_Judge_83 k_Voice_isRest (hs_V hb0 ha1) rfl (by decide +kernel) (by decide) (Nat.le_of_ble_eq_true rfl) H (fun r h1 hq => ?_)
    clear H
    obtain ⟨z3, rfl, hb2, H⟩ := hq
    refine A_if_ne (tgt := 75) d_Judge_hearAlone_33 (by decide) (fun c => ?_) (fun c => ?_)
    · replace H := H.2 c
      refine A_pc (pc' := 75) rfl ?_
      refine A_free (L' := [none, none, none, none]) trivial ?_
      exact b_Judge_hearAlone_75 ha1   hb2 H
    · replace H := H.1 c
      refine A_aload_n 1 d_Judge_hearAlone_36 rfl rfl ?_
      refine A_iload_n 3 d_Judge_hearAlone_37 rfl rfl ?_
      refine A_iconst d_Judge_hearAlone_38 rfl ?_
      have g4 := H.1
      replace H := H.2
      refine A_isubv (z := (a3 - 1)) d_Judge_hearAlone_39 (w32_to (by omega) (by unfold i32; omega)) ?_
      refine A_callV1 m_Voice_isRest T_ok d_Judge_hearAlone_40 l_Judge_83 k_Voice_isRest (hs_V hb2 ha1) rfl (by decide +kernel) (by decide) (Nat.le_of_ble_eq_true rfl) H (fun r h5 hq => ?_)
      clear H
      obtain ⟨z7, rfl, hb6, H⟩ := hq
      refine A_if_ne (tgt := 75) d_Judge_hearAlone_43 (by decide) (fun c => ?_) (fun c => ?_)
      · replace H := H.2 c
        refine A_pc (pc' := 75) rfl ?_
        refine A_free (L' := [none, none, none, none]) trivial ?_
        exact b_Judge_hearAlone_75 ha1   hb6 H
      · replace H := H.1 c
        refine A_aload_n 1 d_Judge_hearAlone_46 rfl rfl ?_
        refine A_iload_n 3 d_Judge_hearAlone_47 rfl rfl ?_
        refine A_callV1 m_Voice_lowestKey T_ok d_Judge_hearAlone_48 l_Judge_86 k_Voice_lowestKey (hs_V hb6 ha1) rfl (by decide +kernel) (by decide) (Nat.le_of_ble_eq_true rfl) H (fun r h8 hq => ?_)
        clear H
        obtain ⟨z10, rfl, hb9, H⟩ := hq
        refine A_aload_n 1 d_Judge_hearAlone_51 rfl rfl ?_
        refine A_iload_n 3 d_Judge_hearAlone_52 rfl rfl ?_
        refine A_iconst d_Judge_hearAlone_53 rfl ?_
        refine A_isubv (z := (a3 - 1)) d_Judge_hearAlone_54 (w32_to (by omega) (by unfold i32; omega)) ?_
        refine A_callV1 m_Voice_lowestKey T_ok d_Judge_hearAlone_55 l_Judge_86 k_Voice_lowestKey (hs_V hb9 ha1) rfl (by decide +kernel) (by decide) (Nat.le_of_ble_eq_true rfl) H (fun r h11 hq => ?_)
        clear H
        obtain ⟨z13, rfl, hb12, H⟩ := hq
        have g14 := H.1
        replace H := H.2
        refine A_isubv (z := (z10 - z13)) d_Judge_hearAlone_58 (w32_to (by omega) (by unfold i32; omega)) ?_
        refine A_mabs (z := (if 0 ≤ (z10 - z13) then (z10 - z13) else w32 (0 - (z10 - z13)))) d_Judge_hearAlone_59 lm_Judge_90 ma_abs (by decide) (by decide) (Nat.le_of_ble_eq_true rfl) rfl ?_
        refine A_nrI (fun x15 ex15 lx15 ux15 => ?_)
        replace H := H x15 ex15 lx15 ux15
        refine A_bipush d_Judge_hearAlone_62 rfl ?_
        refine A_icmp_le (tgt := 75) d_Judge_hearAlone_64 (by decide) (fun c => ?_) (fun c => ?_)
        · replace H := H.1 c
          refine A_pc (pc' := 75) rfl ?_
          refine A_free (L' := [none, none, none, none]) trivial ?_
          exact b_Judge_hearAlone_75 ha1   hb12 H
        · replace H := H.2 c
          refine A_aload_n 0 d_Judge_hearAlone_67 rfl rfl ?_
          refine A_iconst d_Judge_hearAlone_68 rfl ?_
          refine A_iload_n 2 d_Judge_hearAlone_69 rfl rfl ?_
          refine A_iload_n 3 d_Judge_hearAlone_70 rfl rfl ?_
          refine A_iconst d_Judge_hearAlone_71 rfl ?_
          refine A_pc (pc' := 72) rfl ?_
          refine A_callV4 m_Judge_add T_ok d_Judge_hearAlone_72 l_Judge_50 k_Judge_add (hb_s hb12 sf_143) rfl (by decide +kernel) (by decide) (Nat.le_of_ble_eq_true rfl) H (fun r h16 hq => ?_)
          clear H
          obtain ⟨rfl, hb17, H⟩ := hq
          refine A_pc (pc' := 75) rfl ?_
          refine A_free (L' := [none, none, none, none]) trivial ?_
          exact b_Judge_hearAlone_75 ha1   hb17 H
def B_Judge_hearAlone_0 (G : cx_T) (s : Nat) (a1 : Nat) (a2 : Int) (a3 : Int) (h : ah_T) (Q : Option av_T → ah_T → Prop) : Prop :=
 con G 0 0 0 m_Voice_isTied [av_R (some a1), av_I a3] h (fun r h1 => ∃ z3 : Int, r = some (av_I z3) ∧ hb s h1 ∧ ((z3 = 0 → B_Judge_hearAlone_24 G s a1 a2 a3 h1 Q ) ∧ (¬ z3 = 0 → con G 2 0 0 m_Judge_isHeld [av_R (some a1), av_I a3] h1 (fun r h4 => ∃ z6 : Int, r = some (av_I z6) ∧ hb s h4 ∧ ((z6 = 0 → con G 0 0 0 m_Judge_add [av_R (some 143), av_I 2, av_I a2, av_I a3, av_I 0] h4 (fun r h7 => r = none ∧ hb s h7 ∧ B_Judge_hearAlone_24 G s a1 a2 a3 h7 Q )) ∧ (¬ z6 = 0 → B_Judge_hearAlone_24 G s a1 a2 a3 h4 Q ))))))
theorem b_Judge_hearAlone_0 {G : cx_T} {s : Nat} {a1 : Nat} {a2 : Int} {a3 : Int} (ha1 : isV a1) {h : ah_T} {Q : Option av_T → ah_T → Prop} (hb0 : hb s h) (H : B_Judge_hearAlone_0 G s a1 a2 a3 h Q ) : aw G (rm_R 3 0 0) m_Judge_hearAlone 0 0 0 [some (av_R (some 143)), some (av_R (some a1)), some (av_I a2), some (av_I a3)] [] h Q := by
  unfold B_Judge_hearAlone_0 at H
  have hS : isS s := hb0.2.1
  refine A_aload_n 1 d_Judge_hearAlone_0 rfl rfl ?_
  refine A_iload_n 3 d_Judge_hearAlone_1 rfl rfl ?_
  refine A_callV1 m_Voice_isTied T_ok d_Judge_hearAlone_2 l_Judge_75 k_Voice_isTied (hs_V hb0 ha1) rfl (by decide +kernel) (by decide) (Nat.le_of_ble_eq_true rfl) H (fun r h1 hq => ?_)
  clear H
  obtain ⟨z3, rfl, hb2, H⟩ := hq
  refine A_if_eq (tgt := 24) d_Judge_hearAlone_5 (by decide) (fun c => ?_) (fun c => ?_)
  · replace H := H.1 c
    refine A_pc (pc' := 24) rfl ?_
    exact b_Judge_hearAlone_24 ha1   hb2 H
  · replace H := H.2 c
    refine A_aload_n 1 d_Judge_hearAlone_8 rfl rfl ?_
    refine A_iload_n 3 d_Judge_hearAlone_9 rfl rfl ?_
    refine A_callS2 m_Judge_isHeld d_Judge_hearAlone_10 l_Judge_79 k_Judge_isHeld (by decide +kernel) (by decide) (Nat.le_of_ble_eq_true rfl) H (fun r h4 hq => ?_)
    clear H
    obtain ⟨z6, rfl, hb5, H⟩ := hq
    refine A_if_ne (tgt := 24) d_Judge_hearAlone_13 (by decide) (fun c => ?_) (fun c => ?_)
    · replace H := H.2 c
      refine A_pc (pc' := 24) rfl ?_
      exact b_Judge_hearAlone_24 ha1   hb5 H
    · replace H := H.1 c
      refine A_aload_n 0 d_Judge_hearAlone_16 rfl rfl ?_
      refine A_iconst d_Judge_hearAlone_17 rfl ?_
      refine A_iload_n 2 d_Judge_hearAlone_18 rfl rfl ?_
      refine A_iload_n 3 d_Judge_hearAlone_19 rfl rfl ?_
      refine A_iconst d_Judge_hearAlone_20 rfl ?_
      refine A_pc (pc' := 21) rfl ?_
      refine A_callV4 m_Judge_add T_ok d_Judge_hearAlone_21 l_Judge_50 k_Judge_add (hb_s hb5 sf_143) rfl (by decide +kernel) (by decide) (Nat.le_of_ble_eq_true rfl) H (fun r h7 hq => ?_)
      clear H
      obtain ⟨rfl, hb8, H⟩ := hq
      refine A_pc (pc' := 24) rfl ?_
      exact b_Judge_hearAlone_24 ha1   hb8 H
theorem c_Judge_hearAlone {G : cx_T} {s : Nat} {a1 : Nat} {a2 : Int} {a3 : Int} (ha1 : isV a1) {h : ah_T} {Q : Option av_T → ah_T → Prop} (hb0 : hb s h) (H : i32 a2 → i32 a3 → B_Judge_hearAlone_0 G s a1 a2 a3 h Q ) : con G 3 0 0 m_Judge_hearAlone [av_R (some 143), av_R (some a1), av_I a2, av_I a3] h Q := by
  have hS : isS s := hb0.2.1
  refine con_of (L := [some (av_R (some 143)), some (av_R (some a1)), some (av_I a2), some (av_I a3)]) (by decide +kernel) (Nat.le_of_ble_eq_true rfl) rfl ?_
  refine A_locI 2 rfl (fun ra2 => ?_)
  refine A_locI 3 rfl (fun ra3 => ?_)
  exact b_Judge_hearAlone_0 ha1  hb0 (H ra2 ra3)
def B_Judge_compareStarts_0 (G : cx_T) (s : Nat) (a0 : Nat) (a1 : Int) (a2 : Nat) (a3 : Int) (h : ah_T) (Q : Option av_T → ah_T → Prop) : Prop :=
 (0 ≤ a1 ∧ a1 < 301) ∧ ∀ x2 : Int, x2 = h.2.2.1 (a0 + 9) (a1).toNat → -9223372036854775808 ≤ x2 → x2 ≤ 9223372036854775807 → (0 ≤ a3 ∧ a3 < 301) ∧ ∀ x5 : Int, x5 = h.2.2.1 (a2 + 10) (a3).toNat → -9223372036854775808 ≤ x5 → x5 ≤ 9223372036854775807 → ∀ x7 : Int, x7 = x2 * x5 → ((-9223372036854775808) ≤ x7 ∧ x7 ≤ 9223372036854775807) ∧ ∀ x10 : Int, x10 = h.2.2.1 (a2 + 9) (a3).toNat → -9223372036854775808 ≤ x10 → x10 ≤ 9223372036854775807 → ∀ x12 : Int, x12 = h.2.2.1 (a0 + 10) (a1).toNat → -9223372036854775808 ≤ x12 → x12 ≤ 9223372036854775807 → ∀ x13 : Int, x13 = x10 * x12 → ((-9223372036854775808) ≤ x13 ∧ x13 ≤ 9223372036854775807) ∧ con G 0 0 0 m_JLong_compare [av_L x7, av_L x13] h (fun r h15 => ∃ z17 : Int, r = some (av_I z17) ∧ hb s h15 ∧ Q (some (av_I z17)) h15)
theorem b_Judge_compareStarts_0 {G : cx_T} {s : Nat} {a0 : Nat} {a1 : Int} {a2 : Nat} {a3 : Int} (ha0 : isV a0) (ha2 : isV a2) {h : ah_T} {Q : Option av_T → ah_T → Prop} (hb0 : hb s h) (H : B_Judge_compareStarts_0 G s a0 a1 a2 a3 h Q ) : aw G (rm_R 1 0 0) m_Judge_compareStarts 0 0 0 [some (av_R (some a0)), some (av_I a1), some (av_R (some a2)), some (av_I a3)] [] h Q := by
  unfold B_Judge_compareStarts_0 at H
  have hS : isS s := hb0.2.1
  refine A_aload_n 0 d_Judge_compareStarts_0 rfl rfl ?_
  refine A_getAv (z := some (a0 + 9)) T_ok d_Judge_compareStarts_1 f_Judge_120 (hs_V hb0 ha0) (hr_V_10 hb0 ha0) ?_
  refine A_iload_n 1 d_Judge_compareStarts_4 rfl rfl ?_
  have g3 := H.1
  replace H := H.2
  refine A_laloadf d_Judge_compareStarts_5 (hs_V_10 hb0 ha0) g3.1 g3.2 (fun x2 ex2 lx2 ux2 => ?_)
  replace H := H x2 ex2 lx2 ux2
  refine A_aload_n 2 d_Judge_compareStarts_6 rfl rfl ?_
  refine A_pc (pc' := 7) rfl ?_
  refine A_getAv (z := some (a2 + 10)) T_ok d_Judge_compareStarts_7 f_Judge_124 (hs_V hb0 ha2) (hr_V_11 hb0 ha2) ?_
  refine A_iload_n 3 d_Judge_compareStarts_10 rfl rfl ?_
  have g6 := H.1
  replace H := H.2
  refine A_laloadf d_Judge_compareStarts_11 (hs_V_11 hb0 ha2) g6.1 g6.2 (fun x5 ex5 lx5 ux5 => ?_)
  replace H := H x5 ex5 lx5 ux5
  obtain ⟨x7, ex7⟩ : ∃ z : Int, z = x2 * x5 := ⟨_, rfl⟩
  replace H := H x7 ex7
  have g8 := H.1
  replace H := H.2
  refine A_lmulv (z := x7) d_Judge_compareStarts_12 (w64_to ex7.symm (by unfold i64; omega)) ?_
  refine A_aload_n 2 d_Judge_compareStarts_13 rfl rfl ?_
  refine A_getAv (z := some (a2 + 9)) T_ok d_Judge_compareStarts_14 f_Judge_120 (hs_V hb0 ha2) (hr_V_10 hb0 ha2) ?_
  refine A_pc (pc' := 17) rfl ?_
  refine A_iload_n 3 d_Judge_compareStarts_17 rfl rfl ?_
  refine A_laloadf d_Judge_compareStarts_18 (hs_V_10 hb0 ha2) g6.1 g6.2 (fun x10 ex10 lx10 ux10 => ?_)
  replace H := H x10 ex10 lx10 ux10
  refine A_aload_n 0 d_Judge_compareStarts_19 rfl rfl ?_
  refine A_getAv (z := some (a0 + 10)) T_ok d_Judge_compareStarts_20 f_Judge_124 (hs_V hb0 ha0) (hr_V_11 hb0 ha0) ?_
  refine A_iload_n 1 d_Judge_compareStarts_23 rfl rfl ?_
  refine A_laloadf d_Judge_compareStarts_24 (hs_V_11 hb0 ha0) g3.1 g3.2 (fun x12 ex12 lx12 ux12 => ?_)
  replace H := H x12 ex12 lx12 ux12
  refine A_pc (pc' := 25) rfl ?_
  obtain ⟨x13, ex13⟩ : ∃ z : Int, z = x10 * x12 := ⟨_, rfl⟩
  replace H := H x13 ex13
  have g14 := H.1
  replace H := H.2
  refine A_lmulv (z := x13) d_Judge_compareStarts_25 (w64_to ex13.symm (by unfold i64; omega)) ?_
  refine A_callS2 m_JLong_compare d_Judge_compareStarts_26 l_Judge_127 k_JLong_compare (by decide +kernel) (by decide) (Nat.le_of_ble_eq_true rfl) H (fun r h15 hq => ?_)
  clear H
  obtain ⟨z17, rfl, hb16, H⟩ := hq
  exact A_iret d_Judge_compareStarts_29 (by decide) rfl H
theorem c_Judge_compareStarts {G : cx_T} {s : Nat} {a0 : Nat} {a1 : Int} {a2 : Nat} {a3 : Int} (ha0 : isV a0) (ha2 : isV a2) {h : ah_T} {Q : Option av_T → ah_T → Prop} (hb0 : hb s h) (H : i32 a1 → i32 a3 → B_Judge_compareStarts_0 G s a0 a1 a2 a3 h Q ) : con G 1 0 0 m_Judge_compareStarts [av_R (some a0), av_I a1, av_R (some a2), av_I a3] h Q := by
  have hS : isS s := hb0.2.1
  refine con_of (L := [some (av_R (some a0)), some (av_I a1), some (av_R (some a2)), some (av_I a3)]) (by decide +kernel) (Nat.le_of_ble_eq_true rfl) rfl ?_
  refine A_locI 1 rfl (fun ra1 => ?_)
  refine A_locI 3 rfl (fun ra3 => ?_)
  exact b_Judge_compareStarts_0 ha0 ha2  hb0 (H ra1 ra3)
def B_Judge_firstNotEnded_31 (G : cx_T) (s : Nat) (a0 : Nat) (a1 : Int) (a2 : Nat) (a3 : Int) (v4 : Int) (h : ah_T) (Q : Option av_T → ah_T → Prop) : Prop :=
 Q (some (av_I v4)) h
theorem b_Judge_firstNotEnded_31 {G : cx_T} {s : Nat} {a0 : Nat} {a1 : Int} {a2 : Nat} {a3 : Int} (ha0 : isV a0) (ha2 : isV a2) {v4 : Int} {h : ah_T} {Q : Option av_T → ah_T → Prop} (hb0 : hb s h) (H : B_Judge_firstNotEnded_31 G s a0 a1 a2 a3 v4 h Q ) : aw G (rm_R 2 0 0) m_Judge_firstNotEnded 0 0 31 [none, none, none, none, some (av_I v4)] [] h Q := by
  unfold B_Judge_firstNotEnded_31 at H
  have hS : isS s := hb0.2.1
  refine A_iload d_Judge_firstNotEnded_31 rfl ?_
  exact A_iret d_Judge_firstNotEnded_33 (by decide) rfl H
def B_Judge_firstNotEnded_3 (G : cx_T) (s : Nat) (a0 : Nat) (a1 : Int) (a2 : Nat) (a3 : Int) (v4 : Int) (h : ah_T) (Q : Option av_T → ah_T → Prop) (X3 : Int → ah_T → Prop) : Prop :=
 ∀ x1 : Int, x1 = h.2.1 a0 14 → -2147483648 ≤ x1 → x1 ≤ 2147483647 → ((x1 ≤ v4 → B_Judge_firstNotEnded_31 G s a0 a1 a2 a3 (v4) h Q ) ∧ (¬ x1 ≤ v4 → ((-2147483648) ≤ (v4 + 1) ∧ (v4 + 1) ≤ 2147483647) ∧ con G 1 0 0 m_Judge_compareStarts [av_R (some a0), av_I (v4 + 1), av_R (some a2), av_I a3] h (fun r h3 => ∃ z5 : Int, r = some (av_I z5) ∧ hb s h3 ∧ ((0 < z5 → B_Judge_firstNotEnded_31 G s a0 a1 a2 a3 (v4) h3 Q ) ∧ (¬ 0 < z5 → X3 ((v4 + 1)) h3)))))
theorem b_Judge_firstNotEnded_3 {G : cx_T} {s : Nat} {a0 : Nat} {a1 : Int} {a2 : Nat} {a3 : Int} (ha0 : isV a0) (ha2 : isV a2) {v4 : Int} {h : ah_T} {Q : Option av_T → ah_T → Prop} {X3 : Int → ah_T → Prop} (hX3 : ∀ (v4 : Int) (h : ah_T), hb s h → X3 v4 h → aw G (rm_R 2 0 0) m_Judge_firstNotEnded 0 0 3 [some (av_R (some a0)), none, some (av_R (some a2)), some (av_I a3), some (av_I v4)] [] h Q) (hb0 : hb s h) (H : B_Judge_firstNotEnded_3 G s a0 a1 a2 a3 v4 h Q X3) : aw G (rm_R 2 0 0) m_Judge_firstNotEnded 0 0 3 [some (av_R (some a0)), none, some (av_R (some a2)), some (av_I a3), some (av_I v4)] [] h Q := by
  unfold B_Judge_firstNotEnded_3 at H
  have hS : isS s := hb0.2.1
  refine A_iload d_Judge_firstNotEnded_3 rfl ?_
  refine A_aload_n 0 d_Judge_firstNotEnded_5 rfl rfl ?_
  refine A_getIf T_ok d_Judge_firstNotEnded_6 f_Judge_35 (hs_V hb0 ha0) (fun x1 ex1 lx1 ux1 => ?_)
  replace H := H x1 ex1 lx1 ux1
  refine A_icmp_ge (tgt := 31) d_Judge_firstNotEnded_9 (by decide) (fun c => ?_) (fun c => ?_)
  · replace H := H.1 c
    refine A_pc (pc' := 31) rfl ?_
    refine A_free (L' := [none, none, none, none, some (av_I v4)]) (And.intro rfl trivial) ?_
    exact b_Judge_firstNotEnded_31 ha0 ha2   hb0 H
  · replace H := H.2 c
    refine A_aload_n 0 d_Judge_firstNotEnded_12 rfl rfl ?_
    refine A_iload d_Judge_firstNotEnded_13 rfl ?_
    refine A_iconst d_Judge_firstNotEnded_15 rfl ?_
    have g2 := H.1
    replace H := H.2
    refine A_iaddv (z := (v4 + 1)) d_Judge_firstNotEnded_16 (w32_to (by omega) (by unfold i32; omega)) ?_
    refine A_aload_n 2 d_Judge_firstNotEnded_17 rfl rfl ?_
    refine A_pc (pc' := 18) rfl ?_
    refine A_iload_n 3 d_Judge_firstNotEnded_18 rfl rfl ?_
    refine A_callS4 m_Judge_compareStarts d_Judge_firstNotEnded_19 l_Judge_114 k_Judge_compareStarts (by decide +kernel) (by decide) (Nat.le_of_ble_eq_true rfl) H (fun r h3 hq => ?_)
    clear H
    obtain ⟨z5, rfl, hb4, H⟩ := hq
    refine A_if_gt (tgt := 31) d_Judge_firstNotEnded_22 (by decide) (fun c => ?_) (fun c => ?_)
    · replace H := H.1 c
      refine A_pc (pc' := 31) rfl ?_
      refine A_free (L' := [none, none, none, none, some (av_I v4)]) (And.intro rfl trivial) ?_
      exact b_Judge_firstNotEnded_31 ha0 ha2   hb4 H
    · replace H := H.2 c
      refine A_iincv (z := (v4 + 1)) (L' := [some (av_R (some a0)), none, some (av_R (some a2)), some (av_I a3), some (av_I (v4 + 1))]) d_Judge_firstNotEnded_25 rfl (w32_to (by omega) (by unfold i32; omega)) rfl ?_
      refine A_goto (tgt := 3) d_Judge_firstNotEnded_28 (by decide) ?_
      refine A_pc (pc' := 3) rfl ?_
      exact hX3 ((v4 + 1)) h3  hb4 H
theorem lp_Judge_firstNotEnded_3 {G : cx_T} {s : Nat} {a0 : Nat} {a1 : Int} {a2 : Nat} {a3 : Int} (ha0 : isV a0) (ha2 : isV a2) {Q : Option av_T → ah_T → Prop} (I : Int → ah_T → Prop) (μ : Int → ah_T → Nat) (hI : ∀ (v4 : Int) (h : ah_T), hb s h → I v4 h → B_Judge_firstNotEnded_3 G s a0 a1 a2 a3 v4 h Q (fun v4' h' => I v4' h' ∧ μ v4' h' < μ v4 h)) : ∀ (v4 : Int) (h : ah_T), hb s h → I v4 h → aw G (rm_R 2 0 0) m_Judge_firstNotEnded 0 0 3 [some (av_R (some a0)), none, some (av_R (some a2)), some (av_I a3), some (av_I v4)] [] h Q := by
  have key : ∀ (n : Nat) (v4 : Int) (h : ah_T), hb s h → I v4 h → μ v4 h < n → aw G (rm_R 2 0 0) m_Judge_firstNotEnded 0 0 3 [some (av_R (some a0)), none, some (av_R (some a2)), some (av_I a3), some (av_I v4)] [] h Q := by
    intro n
    induction n with
    | zero => intro v4 h  hb0 hi hm; omega
    | succ n ih => intro v4 h  hb0 hi hm; exact b_Judge_firstNotEnded_3 ha0 ha2 (fun v4' h'  hb' hx => ih v4' h'  hb' hx.1 (by have := hx.2; omega))  hb0 (hI v4 h  hb0 hi)
  exact fun v4 h  hb0 hi => key _ v4 h  hb0 hi (Nat.lt_succ_self _)
def B_Judge_firstNotEnded_0 (G : cx_T) (s : Nat) (a0 : Nat) (a1 : Int) (a2 : Nat) (a3 : Int) (h : ah_T) (Q : Option av_T → ah_T → Prop) (X3 : Int → ah_T → Prop) : Prop :=
 X3 (a1) h
theorem b_Judge_firstNotEnded_0 {G : cx_T} {s : Nat} {a0 : Nat} {a1 : Int} {a2 : Nat} {a3 : Int} (ha0 : isV a0) (ha2 : isV a2) {h : ah_T} {Q : Option av_T → ah_T → Prop} {X3 : Int → ah_T → Prop} (hX3 : ∀ (v4 : Int) (h : ah_T), hb s h → X3 v4 h → aw G (rm_R 2 0 0) m_Judge_firstNotEnded 0 0 3 [some (av_R (some a0)), none, some (av_R (some a2)), some (av_I a3), some (av_I v4)] [] h Q) (hb0 : hb s h) (H : B_Judge_firstNotEnded_0 G s a0 a1 a2 a3 h Q X3) : aw G (rm_R 2 0 0) m_Judge_firstNotEnded 0 0 0 [some (av_R (some a0)), some (av_I a1), some (av_R (some a2)), some (av_I a3), none] [] h Q := by
  unfold B_Judge_firstNotEnded_0 at H
  have hS : isS s := hb0.2.1
  refine A_iload_n 1 d_Judge_firstNotEnded_0 rfl rfl ?_
  refine A_istore (L' := [some (av_R (some a0)), some (av_I a1), some (av_R (some a2)), some (av_I a3), some (av_I a1)]) d_Judge_firstNotEnded_1 (Nat.le_of_ble_eq_true rfl) rfl ?_
  refine A_pc (pc' := 3) rfl ?_
  refine A_free (L' := [some (av_R (some a0)), none, some (av_R (some a2)), some (av_I a3), some (av_I a1)]) (And.intro rfl (And.intro rfl (And.intro rfl (And.intro rfl trivial)))) ?_
  exact hX3 (a1) h  hb0 H
theorem c_Judge_firstNotEnded {G : cx_T} {s : Nat} {a0 : Nat} {a1 : Int} {a2 : Nat} {a3 : Int} (ha0 : isV a0) (ha2 : isV a2) {h : ah_T} {Q : Option av_T → ah_T → Prop} {X3 : Int → ah_T → Prop} (hX3 : ∀ (v4 : Int) (h : ah_T), hb s h → X3 v4 h → aw G (rm_R 2 0 0) m_Judge_firstNotEnded 0 0 3 [some (av_R (some a0)), none, some (av_R (some a2)), some (av_I a3), some (av_I v4)] [] h Q) (hb0 : hb s h) (H : i32 a1 → i32 a3 → B_Judge_firstNotEnded_0 G s a0 a1 a2 a3 h Q X3) : con G 2 0 0 m_Judge_firstNotEnded [av_R (some a0), av_I a1, av_R (some a2), av_I a3] h Q := by
  have hS : isS s := hb0.2.1
  refine con_of (L := [some (av_R (some a0)), some (av_I a1), some (av_R (some a2)), some (av_I a3), none]) (by decide +kernel) (Nat.le_of_ble_eq_true rfl) rfl ?_
  refine A_locI 1 rfl (fun ra1 => ?_)
  refine A_locI 3 rfl (fun ra3 => ?_)
  exact b_Judge_firstNotEnded_0 ha0 ha2 hX3 hb0 (H ra1 ra3)
def B_Judge_isCrossed_66 (G : cx_T) (s : Nat) (a0 : Nat) (a1 : Int) (a2 : Nat) (a3 : Int) (h : ah_T) (Q : Option av_T → ah_T → Prop) : Prop :=
 Q (some (av_I 0)) h
theorem b_Judge_isCrossed_66 {G : cx_T} {s : Nat} {a0 : Nat} {a1 : Int} {a2 : Nat} {a3 : Int} (ha0 : isV a0) (ha2 : isV a2) {h : ah_T} {Q : Option av_T → ah_T → Prop} (hb0 : hb s h) (H : B_Judge_isCrossed_66 G s a0 a1 a2 a3 h Q ) : aw G (rm_R 2 0 0) m_Judge_isCrossed 0 0 66 [none, none, none, none, none] [] h Q := by
  unfold B_Judge_isCrossed_66 at H
  have hS : isS s := hb0.2.1
  refine A_iconst d_Judge_isCrossed_66 rfl ?_
  exact A_zret d_Judge_isCrossed_67 (by decide) rfl (by decide) H
def B_Judge_isCrossed_60 (G : cx_T) (s : Nat) (a0 : Nat) (a1 : Int) (a2 : Nat) (a3 : Int) (v4 : Int) (h : ah_T) (Q : Option av_T → ah_T → Prop) (X13 : Int → ah_T → Prop) : Prop :=
 ((-2147483648) ≤ (v4 + 1) ∧ (v4 + 1) ≤ 2147483647) ∧ X13 ((v4 + 1)) h
theorem b_Judge_isCrossed_60 {G : cx_T} {s : Nat} {a0 : Nat} {a1 : Int} {a2 : Nat} {a3 : Int} (ha0 : isV a0) (ha2 : isV a2) {v4 : Int} {h : ah_T} {Q : Option av_T → ah_T → Prop} {X13 : Int → ah_T → Prop} (hX13 : ∀ (v4 : Int) (h : ah_T), hb s h → X13 v4 h → aw G (rm_R 2 0 0) m_Judge_isCrossed 0 0 13 [some (av_R (some a0)), none, some (av_R (some a2)), some (av_I a3), some (av_I v4)] [] h Q) (hb0 : hb s h) (H : B_Judge_isCrossed_60 G s a0 a1 a2 a3 v4 h Q X13) : aw G (rm_R 2 0 0) m_Judge_isCrossed 0 0 60 [some (av_R (some a0)), none, some (av_R (some a2)), some (av_I a3), some (av_I v4)] [] h Q := by
  unfold B_Judge_isCrossed_60 at H
  have hS : isS s := hb0.2.1
  have g1 := H.1
  replace H := H.2
  refine A_iincv (z := (v4 + 1)) (L' := [some (av_R (some a0)), none, some (av_R (some a2)), some (av_I a3), some (av_I (v4 + 1))]) d_Judge_isCrossed_60 rfl (w32_to (by omega) (by unfold i32; omega)) rfl ?_
  refine A_goto (tgt := 13) d_Judge_isCrossed_63 (by decide) ?_
  refine A_pc (pc' := 13) rfl ?_
  exact hX13 ((v4 + 1)) h  hb0 H
def B_Judge_isCrossed_13 (G : cx_T) (s : Nat) (a0 : Nat) (a1 : Int) (a2 : Nat) (a3 : Int) (v4 : Int) (h : ah_T) (Q : Option av_T → ah_T → Prop) (X13 : Int → ah_T → Prop) : Prop :=
 ∀ x1 : Int, x1 = h.2.1 a0 14 → -2147483648 ≤ x1 → x1 ≤ 2147483647 → ((x1 ≤ v4 → B_Judge_isCrossed_66 G s a0 a1 a2 a3 h Q ) ∧ (¬ x1 ≤ v4 → ((-2147483648) ≤ (a3 + 1) ∧ (a3 + 1) ≤ 2147483647) ∧ con G 1 0 0 m_Judge_compareStarts [av_R (some a0), av_I v4, av_R (some a2), av_I (a3 + 1)] h (fun r h3 => ∃ z5 : Int, r = some (av_I z5) ∧ hb s h3 ∧ ((0 ≤ z5 → B_Judge_isCrossed_66 G s a0 a1 a2 a3 h3 Q ) ∧ (¬ 0 ≤ z5 → con G 1 0 0 m_Voice_isRest [av_R (some a0), av_I v4] h3 (fun r h6 => ∃ z8 : Int, r = some (av_I z8) ∧ hb s h6 ∧ ((z8 = 0 → con G 1 0 0 m_Voice_lowestKey [av_R (some a0), av_I v4] h6 (fun r h9 => ∃ z11 : Int, r = some (av_I z11) ∧ hb s h9 ∧ con G 1 0 0 m_Voice_highestKey [av_R (some a2), av_I a3] h9 (fun r h12 => ∃ z14 : Int, r = some (av_I z14) ∧ hb s h12 ∧ ((z14 ≤ z11 → B_Judge_isCrossed_60 G s a0 a1 a2 a3 (v4) h12 Q X13) ∧ (¬ z14 ≤ z11 → Q (some (av_I 1)) h12))))) ∧ (¬ z8 = 0 → B_Judge_isCrossed_60 G s a0 a1 a2 a3 (v4) h6 Q X13))))))))
theorem b_Judge_isCrossed_13 {G : cx_T} {s : Nat} {a0 : Nat} {a1 : Int} {a2 : Nat} {a3 : Int} (ha0 : isV a0) (ha2 : isV a2) {v4 : Int} {h : ah_T} {Q : Option av_T → ah_T → Prop} {X13 : Int → ah_T → Prop} (hX13 : ∀ (v4 : Int) (h : ah_T), hb s h → X13 v4 h → aw G (rm_R 2 0 0) m_Judge_isCrossed 0 0 13 [some (av_R (some a0)), none, some (av_R (some a2)), some (av_I a3), some (av_I v4)] [] h Q) (hb0 : hb s h) (H : B_Judge_isCrossed_13 G s a0 a1 a2 a3 v4 h Q X13) : aw G (rm_R 2 0 0) m_Judge_isCrossed 0 0 13 [some (av_R (some a0)), none, some (av_R (some a2)), some (av_I a3), some (av_I v4)] [] h Q := by
  unfold B_Judge_isCrossed_13 at H
  have hS : isS s := hb0.2.1
  refine A_iload d_Judge_isCrossed_13 rfl ?_
  refine A_aload_n 0 d_Judge_isCrossed_15 rfl rfl ?_
  refine A_getIf T_ok d_Judge_isCrossed_16 f_Judge_35 (hs_V hb0 ha0) (fun x1 ex1 lx1 ux1 => ?_)
  replace H := H x1 ex1 lx1 ux1
  refine A_icmp_ge (tgt := 66) d_Judge_isCrossed_19 (by decide) (fun c => ?_) (fun c => ?_)
  · replace H := H.1 c
    refine A_pc (pc' := 66) rfl ?_
    refine A_free (L' := [none, none, none, none, none]) trivial ?_
    exact b_Judge_isCrossed_66 ha0 ha2   hb0 H
  · replace H := H.2 c
    refine A_aload_n 0 d_Judge_isCrossed_22 rfl rfl ?_
    refine A_iload d_Judge_isCrossed_23 rfl ?_
    refine A_aload_n 2 d_Judge_isCrossed_25 rfl rfl ?_
    refine A_iload_n 3 d_Judge_isCrossed_26 rfl rfl ?_
    refine A_iconst d_Judge_isCrossed_27 rfl ?_
    refine A_pc (pc' := 28) rfl ?_
    have g2 := H.1
    replace H := H.2
    refine A_iaddv (z := (a3 + 1)) d_Judge_isCrossed_28 (w32_to (by omega) (by unfold i32; omega)) ?_
    refine A_callS4 m_Judge_compareStarts d_Judge_isCrossed_29 l_Judge_114 k_Judge_compareStarts (by decide +kernel) (by decide) (Nat.le_of_ble_eq_true rfl) H (fun r h3 hq => ?_)
    clear H
    obtain ⟨z5, rfl, hb4, H⟩ := hq
    refine A_if_ge (tgt := 66) d_Judge_isCrossed_32 (by decide) (fun c => ?_) (fun c => ?_)
    · replace H := H.1 c
      refine A_pc (pc' := 66) rfl ?_
      refine A_free (L' := [none, none, none, none, none]) trivial ?_
      exact b_Judge_isCrossed_66 ha0 ha2   hb4 H
    · replace H := H.2 c
      refine A_aload_n 0 d_Judge_isCrossed_35 rfl rfl ?_
      refine A_iload d_Judge_isCrossed_36 rfl ?_
      refine A_callV1 m_Voice_isRest T_ok d_Judge_isCrossed_38 l_Judge_83 k_Voice_isRest (hs_V hb4 ha0) rfl (by decide +kernel) (by decide) (Nat.le_of_ble_eq_true rfl) H (fun r h6 hq => ?_)
      clear H
      obtain ⟨z8, rfl, hb7, H⟩ := hq
      refine A_if_ne (tgt := 60) d_Judge_isCrossed_41 (by decide) (fun c => ?_) (fun c => ?_)
      · replace H := H.2 c
        refine A_pc (pc' := 60) rfl ?_
        exact b_Judge_isCrossed_60 ha0 ha2 hX13  hb7 H
      · replace H := H.1 c
        refine A_aload_n 0 d_Judge_isCrossed_44 rfl rfl ?_
        refine A_iload d_Judge_isCrossed_45 rfl ?_
        refine A_callV1 m_Voice_lowestKey T_ok d_Judge_isCrossed_47 l_Judge_86 k_Voice_lowestKey (hs_V hb7 ha0) rfl (by decide +kernel) (by decide) (Nat.le_of_ble_eq_true rfl) H (fun r h9 hq => ?_)
        clear H
        obtain ⟨z11, rfl, hb10, H⟩ := hq
        refine A_aload_n 2 d_Judge_isCrossed_50 rfl rfl ?_
        refine A_iload_n 3 d_Judge_isCrossed_51 rfl rfl ?_
        refine A_callV1 m_Voice_highestKey T_ok d_Judge_isCrossed_52 l_Judge_117 k_Voice_highestKey (hs_V hb10 ha2) rfl (by decide +kernel) (by decide) (Nat.le_of_ble_eq_true rfl) H (fun r h12 hq => ?_)
        clear H
        obtain ⟨z14, rfl, hb13, H⟩ := hq
        refine A_icmp_ge (tgt := 60) d_Judge_isCrossed_55 (by decide) (fun c => ?_) (fun c => ?_)
        · replace H := H.1 c
          refine A_pc (pc' := 60) rfl ?_
          exact b_Judge_isCrossed_60 ha0 ha2 hX13  hb13 H
        · replace H := H.2 c
          refine A_iconst d_Judge_isCrossed_58 rfl ?_
          exact A_zret d_Judge_isCrossed_59 (by decide) rfl (by decide) H
theorem lp_Judge_isCrossed_13 {G : cx_T} {s : Nat} {a0 : Nat} {a1 : Int} {a2 : Nat} {a3 : Int} (ha0 : isV a0) (ha2 : isV a2) {Q : Option av_T → ah_T → Prop} (I : Int → ah_T → Prop) (μ : Int → ah_T → Nat) (hI : ∀ (v4 : Int) (h : ah_T), hb s h → I v4 h → B_Judge_isCrossed_13 G s a0 a1 a2 a3 v4 h Q (fun v4' h' => I v4' h' ∧ μ v4' h' < μ v4 h)) : ∀ (v4 : Int) (h : ah_T), hb s h → I v4 h → aw G (rm_R 2 0 0) m_Judge_isCrossed 0 0 13 [some (av_R (some a0)), none, some (av_R (some a2)), some (av_I a3), some (av_I v4)] [] h Q := by
  have key : ∀ (n : Nat) (v4 : Int) (h : ah_T), hb s h → I v4 h → μ v4 h < n → aw G (rm_R 2 0 0) m_Judge_isCrossed 0 0 13 [some (av_R (some a0)), none, some (av_R (some a2)), some (av_I a3), some (av_I v4)] [] h Q := by
    intro n
    induction n with
    | zero => intro v4 h  hb0 hi hm; omega
    | succ n ih => intro v4 h  hb0 hi hm; exact b_Judge_isCrossed_13 ha0 ha2 (fun v4' h'  hb' hx => ih v4' h'  hb' hx.1 (by have := hx.2; omega))  hb0 (hI v4 h  hb0 hi)
  exact fun v4 h  hb0 hi => key _ v4 h  hb0 hi (Nat.lt_succ_self _)
def B_Judge_isCrossed_0 (G : cx_T) (s : Nat) (a0 : Nat) (a1 : Int) (a2 : Nat) (a3 : Int) (h : ah_T) (Q : Option av_T → ah_T → Prop) (X13 : Int → ah_T → Prop) : Prop :=
 con G 1 0 0 m_Voice_isRest [av_R (some a2), av_I a3] h (fun r h1 => ∃ z3 : Int, r = some (av_I z3) ∧ hb s h1 ∧ ((z3 = 0 → X13 (a1) h1) ∧ (¬ z3 = 0 → Q (some (av_I 0)) h1)))
theorem b_Judge_isCrossed_0 {G : cx_T} {s : Nat} {a0 : Nat} {a1 : Int} {a2 : Nat} {a3 : Int} (ha0 : isV a0) (ha2 : isV a2) {h : ah_T} {Q : Option av_T → ah_T → Prop} {X13 : Int → ah_T → Prop} (hX13 : ∀ (v4 : Int) (h : ah_T), hb s h → X13 v4 h → aw G (rm_R 2 0 0) m_Judge_isCrossed 0 0 13 [some (av_R (some a0)), none, some (av_R (some a2)), some (av_I a3), some (av_I v4)] [] h Q) (hb0 : hb s h) (H : B_Judge_isCrossed_0 G s a0 a1 a2 a3 h Q X13) : aw G (rm_R 2 0 0) m_Judge_isCrossed 0 0 0 [some (av_R (some a0)), some (av_I a1), some (av_R (some a2)), some (av_I a3), none] [] h Q := by
  unfold B_Judge_isCrossed_0 at H
  have hS : isS s := hb0.2.1
  refine A_aload_n 2 d_Judge_isCrossed_0 rfl rfl ?_
  refine A_iload_n 3 d_Judge_isCrossed_1 rfl rfl ?_
  refine A_callV1 m_Voice_isRest T_ok d_Judge_isCrossed_2 l_Judge_83 k_Voice_isRest (hs_V hb0 ha2) rfl (by decide +kernel) (by decide) (Nat.le_of_ble_eq_true rfl) H (fun r h1 hq => ?_)
  clear H
  obtain ⟨z3, rfl, hb2, H⟩ := hq
  refine A_if_eq (tgt := 10) d_Judge_isCrossed_5 (by decide) (fun c => ?_) (fun c => ?_)
  · replace H := H.1 c
    refine A_iload_n 1 d_Judge_isCrossed_10 rfl rfl ?_
    refine A_istore (L' := [some (av_R (some a0)), some (av_I a1), some (av_R (some a2)), some (av_I a3), some (av_I a1)]) d_Judge_isCrossed_11 (Nat.le_of_ble_eq_true rfl) rfl ?_
    refine A_pc (pc' := 13) rfl ?_
    refine A_free (L' := [some (av_R (some a0)), none, some (av_R (some a2)), some (av_I a3), some (av_I a1)]) (And.intro rfl (And.intro rfl (And.intro rfl (And.intro rfl trivial)))) ?_
    exact hX13 (a1) h1  hb2 H
  · replace H := H.2 c
    refine A_iconst d_Judge_isCrossed_8 rfl ?_
    exact A_zret d_Judge_isCrossed_9 (by decide) rfl (by decide) H
theorem c_Judge_isCrossed {G : cx_T} {s : Nat} {a0 : Nat} {a1 : Int} {a2 : Nat} {a3 : Int} (ha0 : isV a0) (ha2 : isV a2) {h : ah_T} {Q : Option av_T → ah_T → Prop} {X13 : Int → ah_T → Prop} (hX13 : ∀ (v4 : Int) (h : ah_T), hb s h → X13 v4 h → aw G (rm_R 2 0 0) m_Judge_isCrossed 0 0 13 [some (av_R (some a0)), none, some (av_R (some a2)), some (av_I a3), some (av_I v4)] [] h Q) (hb0 : hb s h) (H : i32 a1 → i32 a3 → B_Judge_isCrossed_0 G s a0 a1 a2 a3 h Q X13) : con G 2 0 0 m_Judge_isCrossed [av_R (some a0), av_I a1, av_R (some a2), av_I a3] h Q := by
  have hS : isS s := hb0.2.1
  refine con_of (L := [some (av_R (some a0)), some (av_I a1), some (av_R (some a2)), some (av_I a3), none]) (by decide +kernel) (Nat.le_of_ble_eq_true rfl) rfl ?_
  refine A_locI 1 rfl (fun ra1 => ?_)
  refine A_locI 3 rfl (fun ra3 => ?_)
  exact b_Judge_isCrossed_0 ha0 ha2 hX13 hb0 (H ra1 ra3)
def B_Judge_hearCrossings_88 (G : cx_T) (s : Nat) (a1 : Nat) (a2 : Nat) (a3 : Int) (a4 : Int) (h : ah_T) (Q : Option av_T → ah_T → Prop) : Prop :=
 Q none h
theorem b_Judge_hearCrossings_88 {G : cx_T} {s : Nat} {a1 : Nat} {a2 : Nat} {a3 : Int} {a4 : Int} (ha1 : isS a1) (ha2 : isV a2) {h : ah_T} {Q : Option av_T → ah_T → Prop} (hb0 : hb s h) (H : B_Judge_hearCrossings_88 G s a1 a2 a3 a4 h Q ) : aw G (rm_R 3 0 0) m_Judge_hearCrossings 0 0 88 [none, none, none, none, none, none, none] [] h Q := by
  unfold B_Judge_hearCrossings_88 at H
  have hS : isS s := hb0.2.1
  exact A_vret d_Judge_hearCrossings_88 (by decide) rfl H
def B_Judge_hearCrossings_82 (G : cx_T) (s : Nat) (a1 : Nat) (a2 : Nat) (a3 : Int) (a4 : Int) (v5 : Int) (h : ah_T) (Q : Option av_T → ah_T → Prop) (X3 : Int → ah_T → Prop) : Prop :=
 ((-2147483648) ≤ (v5 + 1) ∧ (v5 + 1) ≤ 2147483647) ∧ X3 ((v5 + 1)) h
theorem b_Judge_hearCrossings_82 {G : cx_T} {s : Nat} {a1 : Nat} {a2 : Nat} {a3 : Int} {a4 : Int} (ha1 : isS a1) (ha2 : isV a2) {v5 : Int} {h : ah_T} {Q : Option av_T → ah_T → Prop} {X3 : Int → ah_T → Prop} (hX3 : ∀ (v5 : Int) (h : ah_T), hb s h → X3 v5 h → aw G (rm_R 3 0 0) m_Judge_hearCrossings 0 0 3 [some (av_R (some 143)), some (av_R (some a1)), some (av_R (some a2)), some (av_I a3), some (av_I a4), some (av_I v5), none] [] h Q) (hb0 : hb s h) (H : B_Judge_hearCrossings_82 G s a1 a2 a3 a4 v5 h Q X3) : aw G (rm_R 3 0 0) m_Judge_hearCrossings 0 0 82 [some (av_R (some 143)), some (av_R (some a1)), some (av_R (some a2)), some (av_I a3), some (av_I a4), some (av_I v5), none] [] h Q := by
  unfold B_Judge_hearCrossings_82 at H
  have hS : isS s := hb0.2.1
  have g1 := H.1
  replace H := H.2
  refine A_iincv (z := (v5 + 1)) (L' := [some (av_R (some 143)), some (av_R (some a1)), some (av_R (some a2)), some (av_I a3), some (av_I a4), some (av_I (v5 + 1)), none]) d_Judge_hearCrossings_82 rfl (w32_to (by omega) (by unfold i32; omega)) rfl ?_
  refine A_goto (tgt := 3) d_Judge_hearCrossings_85 (by decide) ?_
  refine A_pc (pc' := 3) rfl ?_
  exact hX3 ((v5 + 1)) h  hb0 H
def B_Judge_hearCrossings_3 (G : cx_T) (s : Nat) (a1 : Nat) (a2 : Nat) (a3 : Int) (a4 : Int) (v5 : Int) (h : ah_T) (Q : Option av_T → ah_T → Prop) (X3 : Int → ah_T → Prop) : Prop :=
 ((a3 ≤ v5 → B_Judge_hearCrossings_88 G s a1 a2 a3 a4 h Q ) ∧ (¬ a3 ≤ v5 → ((4 ≤ v5 → B_Judge_hearCrossings_88 G s a1 a2 a3 a4 h Q ) ∧ (¬ 4 ≤ v5 → con G 0 0 0 m_Score_voiceAt [av_R (some a1), av_I v5] h (fun r h2 => ∃ oz4 : Option Nat, r = some (av_R oz4) ∧ hb s h2 ∧ ((oz4 = none ∧ B_Judge_hearCrossings_82 G s a1 a2 a3 a4 (v5) h2 Q X3) ∨ ∃ z4 : Nat, oz4 = some z4 ∧ isV z4 ∧ (0 ≤ v5 ∧ v5 < 4) ∧ ∀ x7 : Int, x7 = h2.2.1 145 (v5).toNat → -2147483648 ≤ x7 → x7 ≤ 2147483647 → con G 2 0 0 m_Judge_firstNotEnded [av_R (some z4), av_I x7, av_R (some a2), av_I a4] h2 (fun r h9 => ∃ z11 : Int, r = some (av_I z11) ∧ hb s h9 ∧ ∀ h12 : ah_T, h12 = st_i h9 145 (v5).toNat z11 → con G 2 0 0 m_Judge_isCrossed [av_R (some z4), av_I z11, av_R (some a2), av_I a4] h12 (fun r h16 => ∃ z18 : Int, r = some (av_I z18) ∧ hb s h16 ∧ ((z18 = 0 → B_Judge_hearCrossings_82 G s a1 a2 a3 a4 (v5) h16 Q X3) ∧ (¬ z18 = 0 → con G 0 0 0 m_Judge_add [av_R (some 143), av_I 4, av_I a3, av_I a4, av_I v5] h16 (fun r h19 => r = none ∧ hb s h19 ∧ B_Judge_hearCrossings_82 G s a1 a2 a3 a4 (v5) h19 Q X3)))))))))))
theorem b_Judge_hearCrossings_3 {G : cx_T} {s : Nat} {a1 : Nat} {a2 : Nat} {a3 : Int} {a4 : Int} (ha1 : isS a1) (ha2 : isV a2) {v5 : Int} {h : ah_T} {Q : Option av_T → ah_T → Prop} {X3 : Int → ah_T → Prop} (hX3 : ∀ (v5 : Int) (h : ah_T), hb s h → X3 v5 h → aw G (rm_R 3 0 0) m_Judge_hearCrossings 0 0 3 [some (av_R (some 143)), some (av_R (some a1)), some (av_R (some a2)), some (av_I a3), some (av_I a4), some (av_I v5), none] [] h Q) (hb0 : hb s h) (H : B_Judge_hearCrossings_3 G s a1 a2 a3 a4 v5 h Q X3) : aw G (rm_R 3 0 0) m_Judge_hearCrossings 0 0 3 [some (av_R (some 143)), some (av_R (some a1)), some (av_R (some a2)), some (av_I a3), some (av_I a4), some (av_I v5), none] [] h Q := by
  unfold B_Judge_hearCrossings_3 at H
  have hS : isS s := hb0.2.1
  refine A_iload d_Judge_hearCrossings_3 rfl ?_
  refine A_iload_n 3 d_Judge_hearCrossings_5 rfl rfl ?_
  refine A_icmp_ge (tgt := 88) d_Judge_hearCrossings_6 (by decide) (fun c => ?_) (fun c => ?_)
  · replace H := H.1 c
    refine A_pc (pc' := 88) rfl ?_
    refine A_free (L' := [none, none, none, none, none, none, none]) trivial ?_
    exact b_Judge_hearCrossings_88 ha1 ha2   hb0 H
  · replace H := H.2 c
    refine A_iload d_Judge_hearCrossings_9 rfl ?_
    refine A_aload_n 0 d_Judge_hearCrossings_11 rfl rfl ?_
    refine A_getAv (z := some 145) T_ok d_Judge_hearCrossings_12 f_Judge_15 (hb_s hb0 sf_143) (hb_r hb0 rff_143_2) ?_
    refine A_alenN d_Judge_hearCrossings_15 (hb_s hb0 sf_145) (by decide) (by decide) ?_
    refine A_icmp_ge (tgt := 88) d_Judge_hearCrossings_16 (by decide) (fun c => ?_) (fun c => ?_)
    · replace H := H.1 c
      refine A_pc (pc' := 88) rfl ?_
      refine A_free (L' := [none, none, none, none, none, none, none]) trivial ?_
      exact b_Judge_hearCrossings_88 ha1 ha2   hb0 H
    · replace H := H.2 c
      refine A_aload_n 1 d_Judge_hearCrossings_19 rfl rfl ?_
      refine A_iload d_Judge_hearCrossings_20 rfl ?_
      refine A_callV1 m_Score_voiceAt T_ok d_Judge_hearCrossings_22 l_Judge_27 k_Score_voiceAt (hs_S hb0 ha1) rfl (by decide +kernel) (by decide) (Nat.le_of_ble_eq_true rfl) H (fun r h2 hq => ?_)
      clear H
      obtain ⟨oz4, rfl, hb3, H⟩ := hq
      rcases H with ⟨H1, H⟩ | ⟨z4, H1, tz4, H⟩
      · subst H1
        refine A_astore (L' := [some (av_R (some 143)), some (av_R (some a1)), some (av_R (some a2)), some (av_I a3), some (av_I a4), some (av_I v5), some (av_R none)]) d_Judge_hearCrossings_25 (Nat.le_of_ble_eq_true rfl) rfl ?_
        refine A_aload d_Judge_hearCrossings_27 rfl ?_
        refine A_ifnull (tgt := 82) d_Judge_hearCrossings_29 (by decide) (fun _ => ?_) (fun a q => by cases q)
        refine A_pc (pc' := 82) rfl ?_
        refine A_free (L' := [some (av_R (some 143)), some (av_R (some a1)), some (av_R (some a2)), some (av_I a3), some (av_I a4), some (av_I v5), none]) (And.intro rfl (And.intro rfl (And.intro rfl (And.intro rfl (And.intro rfl (And.intro rfl trivial)))))) ?_
        exact b_Judge_hearCrossings_82 ha1 ha2 hX3  hb3 H
      · subst H1
        refine A_astore (L' := [some (av_R (some 143)), some (av_R (some a1)), some (av_R (some a2)), some (av_I a3), some (av_I a4), some (av_I v5), some (av_R (some z4))]) d_Judge_hearCrossings_25 (Nat.le_of_ble_eq_true rfl) rfl ?_
        refine A_aload d_Judge_hearCrossings_27 rfl ?_
        refine A_ifnull (tgt := 82) d_Judge_hearCrossings_29 (by decide) (fun q => by cases q) (fun _ _ => ?_)
        refine A_aload_n 0 d_Judge_hearCrossings_32 rfl rfl ?_
        refine A_getAv (z := some 145) T_ok d_Judge_hearCrossings_33 f_Judge_15 (hb_s hb3 sf_143) (hb_r hb3 rff_143_2) ?_
        refine A_iload d_Judge_hearCrossings_36 rfl ?_
        refine A_aload d_Judge_hearCrossings_38 rfl ?_
        refine A_aload_n 0 d_Judge_hearCrossings_40 rfl rfl ?_
        refine A_pc (pc' := 41) rfl ?_
        refine A_getAv (z := some 145) T_ok d_Judge_hearCrossings_41 f_Judge_15 (hb_s hb3 sf_143) (hb_r hb3 rff_143_2) ?_
        refine A_iload d_Judge_hearCrossings_44 rfl ?_
        have g8 := H.1
        replace H := H.2
        refine A_ialoadf d_Judge_hearCrossings_46 (hb_s hb3 sf_145) g8.1 g8.2 (fun x7 ex7 lx7 ux7 => ?_)
        replace H := H x7 ex7 lx7 ux7
        refine A_aload_n 2 d_Judge_hearCrossings_47 rfl rfl ?_
        refine A_iload d_Judge_hearCrossings_48 rfl ?_
        refine A_callS4 m_Judge_firstNotEnded d_Judge_hearCrossings_50 l_Judge_106 k_Judge_firstNotEnded (by decide +kernel) (by decide) (Nat.le_of_ble_eq_true rfl) H (fun r h9 hq => ?_)
        clear H
        obtain ⟨z11, rfl, hb10, H⟩ := hq
        refine A_iastoreN d_Judge_hearCrossings_53 (hb_s hb10 sf_145) g8.1 g8.2 ?_
        refine A_hn (fun h12 eh12 => ?_)
        have hb13 := hb_i hb10 eh12
        replace H := H h12 eh12
        refine A_aload d_Judge_hearCrossings_54 rfl ?_
        refine A_aload_n 0 d_Judge_hearCrossings_56 rfl rfl ?_
        refine A_getAv (z := some 145) T_ok d_Judge_hearCrossings_57 f_Judge_15 (hb_s hb13 sf_143) (hb_r hb13 rff_143_2) ?_
        refine A_iload d_Judge_hearCrossings_60 rfl ?_
        refine A_pc (pc' := 62) rfl ?_
        refine A_ialoadv (z := z11) d_Judge_hearCrossings_62 (hb_s hb13 sf_145) (by omega) (by omega) (mv_i eh12) ?_
        refine A_aload_n 2 d_Judge_hearCrossings_63 rfl rfl ?_
        refine A_iload d_Judge_hearCrossings_64 rfl ?_
        refine A_callS4 m_Judge_isCrossed d_Judge_hearCrossings_66 l_Judge_110 k_Judge_isCrossed (by decide +kernel) (by decide) (Nat.le_of_ble_eq_true rfl) H (fun r h16 hq => ?_)
        clear H
        obtain ⟨z18, rfl, hb17, H⟩ := hq
        refine A_if_eq (tgt := 82) d_Judge_hearCrossings_69 (by decide) (fun c => ?_) (fun c => ?_)
        · replace H := H.1 c
          refine A_pc (pc' := 82) rfl ?_
          refine A_free (L' := [some (av_R (some 143)), some (av_R (some a1)), some (av_R (some a2)), some (av_I a3), some (av_I a4), some (av_I v5), none]) (And.intro rfl (And.intro rfl (And.intro rfl (And.intro rfl (And.intro rfl (And.intro rfl trivial)))))) ?_
          exact b_Judge_hearCrossings_82 ha1 ha2 hX3  hb17 H
        · replace H := H.2 c
          refine A_aload_n 0 d_Judge_hearCrossings_72 rfl rfl ?_
          refine A_iconst d_Judge_hearCrossings_73 rfl ?_
          refine A_iload_n 3 d_Judge_hearCrossings_74 rfl rfl ?_
          refine A_iload d_Judge_hearCrossings_75 rfl ?_
          refine A_iload d_Judge_hearCrossings_77 rfl ?_
          refine A_pc (pc' := 79) rfl ?_
          refine A_callV4 m_Judge_add T_ok d_Judge_hearCrossings_79 l_Judge_50 k_Judge_add (hb_s hb17 sf_143) rfl (by decide +kernel) (by decide) (Nat.le_of_ble_eq_true rfl) H (fun r h19 hq => ?_)
          clear H
          obtain ⟨rfl, hb20, H⟩ := hq
          refine A_pc (pc' := 82) rfl ?_
          refine A_free (L' := [some (av_R (some 143)), some (av_R (some a1)), some (av_R (some a2)), some (av_I a3), some (av_I a4), some (av_I v5), none]) (And.intro rfl (And.intro rfl (And.intro rfl (And.intro rfl (And.intro rfl (And.intro rfl trivial)))))) ?_
          exact b_Judge_hearCrossings_82 ha1 ha2 hX3  hb20 H
theorem lp_Judge_hearCrossings_3 {G : cx_T} {s : Nat} {a1 : Nat} {a2 : Nat} {a3 : Int} {a4 : Int} (ha1 : isS a1) (ha2 : isV a2) {Q : Option av_T → ah_T → Prop} (I : Int → ah_T → Prop) (μ : Int → ah_T → Nat) (hI : ∀ (v5 : Int) (h : ah_T), hb s h → I v5 h → B_Judge_hearCrossings_3 G s a1 a2 a3 a4 v5 h Q (fun v5' h' => I v5' h' ∧ μ v5' h' < μ v5 h)) : ∀ (v5 : Int) (h : ah_T), hb s h → I v5 h → aw G (rm_R 3 0 0) m_Judge_hearCrossings 0 0 3 [some (av_R (some 143)), some (av_R (some a1)), some (av_R (some a2)), some (av_I a3), some (av_I a4), some (av_I v5), none] [] h Q := by
  have key : ∀ (n : Nat) (v5 : Int) (h : ah_T), hb s h → I v5 h → μ v5 h < n → aw G (rm_R 3 0 0) m_Judge_hearCrossings 0 0 3 [some (av_R (some 143)), some (av_R (some a1)), some (av_R (some a2)), some (av_I a3), some (av_I a4), some (av_I v5), none] [] h Q := by
    intro n
    induction n with
    | zero => intro v5 h  hb0 hi hm; omega
    | succ n ih => intro v5 h  hb0 hi hm; exact b_Judge_hearCrossings_3 ha1 ha2 (fun v5' h'  hb' hx => ih v5' h'  hb' hx.1 (by have := hx.2; omega))  hb0 (hI v5 h  hb0 hi)
  exact fun v5 h  hb0 hi => key _ v5 h  hb0 hi (Nat.lt_succ_self _)
def B_Judge_hearCrossings_0 (G : cx_T) (s : Nat) (a1 : Nat) (a2 : Nat) (a3 : Int) (a4 : Int) (h : ah_T) (Q : Option av_T → ah_T → Prop) (X3 : Int → ah_T → Prop) : Prop :=
 X3 (0) h
theorem b_Judge_hearCrossings_0 {G : cx_T} {s : Nat} {a1 : Nat} {a2 : Nat} {a3 : Int} {a4 : Int} (ha1 : isS a1) (ha2 : isV a2) {h : ah_T} {Q : Option av_T → ah_T → Prop} {X3 : Int → ah_T → Prop} (hX3 : ∀ (v5 : Int) (h : ah_T), hb s h → X3 v5 h → aw G (rm_R 3 0 0) m_Judge_hearCrossings 0 0 3 [some (av_R (some 143)), some (av_R (some a1)), some (av_R (some a2)), some (av_I a3), some (av_I a4), some (av_I v5), none] [] h Q) (hb0 : hb s h) (H : B_Judge_hearCrossings_0 G s a1 a2 a3 a4 h Q X3) : aw G (rm_R 3 0 0) m_Judge_hearCrossings 0 0 0 [some (av_R (some 143)), some (av_R (some a1)), some (av_R (some a2)), some (av_I a3), some (av_I a4), none, none] [] h Q := by
  unfold B_Judge_hearCrossings_0 at H
  have hS : isS s := hb0.2.1
  refine A_iconst d_Judge_hearCrossings_0 rfl ?_
  refine A_istore (L' := [some (av_R (some 143)), some (av_R (some a1)), some (av_R (some a2)), some (av_I a3), some (av_I a4), some (av_I 0), none]) d_Judge_hearCrossings_1 (Nat.le_of_ble_eq_true rfl) rfl ?_
  refine A_pc (pc' := 3) rfl ?_
  exact hX3 (0) h  hb0 H
theorem c_Judge_hearCrossings {G : cx_T} {s : Nat} {a1 : Nat} {a2 : Nat} {a3 : Int} {a4 : Int} (ha1 : isS a1) (ha2 : isV a2) {h : ah_T} {Q : Option av_T → ah_T → Prop} {X3 : Int → ah_T → Prop} (hX3 : ∀ (v5 : Int) (h : ah_T), hb s h → X3 v5 h → aw G (rm_R 3 0 0) m_Judge_hearCrossings 0 0 3 [some (av_R (some 143)), some (av_R (some a1)), some (av_R (some a2)), some (av_I a3), some (av_I a4), some (av_I v5), none] [] h Q) (hb0 : hb s h) (H : i32 a3 → i32 a4 → B_Judge_hearCrossings_0 G s a1 a2 a3 a4 h Q X3) : con G 3 0 0 m_Judge_hearCrossings [av_R (some 143), av_R (some a1), av_R (some a2), av_I a3, av_I a4] h Q := by
  have hS : isS s := hb0.2.1
  refine con_of (L := [some (av_R (some 143)), some (av_R (some a1)), some (av_R (some a2)), some (av_I a3), some (av_I a4), none, none]) (by decide +kernel) (Nat.le_of_ble_eq_true rfl) rfl ?_
  refine A_locI 3 rfl (fun ra3 => ?_)
  refine A_locI 4 rfl (fun ra4 => ?_)
  exact b_Judge_hearCrossings_0 ha1 ha2 hX3 hb0 (H ra3 ra4)
def B_Judge_isParallel_147 (G : cx_T) (s : Nat) (a0 : Nat) (a1 : Int) (a2 : Nat) (a3 : Int) (t0 : Int) (h : ah_T) (Q : Option av_T → ah_T → Prop) : Prop :=
 (t0 = 0 ∨ t0 = 1) ∧ Q (some (av_I t0)) h
theorem b_Judge_isParallel_147 {G : cx_T} {s : Nat} {a0 : Nat} {a1 : Int} {a2 : Nat} {a3 : Int} (ha0 : isV a0) (ha2 : isV a2) {t0 : Int} {h : ah_T} {Q : Option av_T → ah_T → Prop} (hb0 : hb s h) (H : B_Judge_isParallel_147 G s a0 a1 a2 a3 t0 h Q ) : aw G (rm_R 2 0 0) m_Judge_isParallel 0 0 147 [none, none, none, none, none, none] [av_I t0] h Q := by
  unfold B_Judge_isParallel_147 at H
  have hS : isS s := hb0.2.1
  exact A_zret d_Judge_isParallel_147 (by decide) rfl H.1 H.2
def B_Judge_isParallel_146 (G : cx_T) (s : Nat) (a0 : Nat) (a1 : Int) (a2 : Nat) (a3 : Int) (h : ah_T) (Q : Option av_T → ah_T → Prop) : Prop :=
 B_Judge_isParallel_147 G s a0 a1 a2 a3 (0) h Q 
theorem b_Judge_isParallel_146 {G : cx_T} {s : Nat} {a0 : Nat} {a1 : Int} {a2 : Nat} {a3 : Int} (ha0 : isV a0) (ha2 : isV a2) {h : ah_T} {Q : Option av_T → ah_T → Prop} (hb0 : hb s h) (H : B_Judge_isParallel_146 G s a0 a1 a2 a3 h Q ) : aw G (rm_R 2 0 0) m_Judge_isParallel 0 0 146 [none, none, none, none, none, none] [] h Q := by
  unfold B_Judge_isParallel_146 at H
  have hS : isS s := hb0.2.1
  refine A_iconst d_Judge_isParallel_146 rfl ?_
  refine A_pc (pc' := 147) rfl ?_
  exact b_Judge_isParallel_147 ha0 ha2   hb0 H
def B_Judge_isParallel_127 (G : cx_T) (s : Nat) (a0 : Nat) (a1 : Int) (a2 : Nat) (a3 : Int) (h : ah_T) (Q : Option av_T → ah_T → Prop) : Prop :=
 con G 1 0 0 m_Voice_lowestKey [av_R (some a2), av_I a3] h (fun r h1 => ∃ z3 : Int, r = some (av_I z3) ∧ hb s h1 ∧ ((-2147483648) ≤ (a3 - 1) ∧ (a3 - 1) ≤ 2147483647) ∧ con G 1 0 0 m_Voice_lowestKey [av_R (some a2), av_I (a3 - 1)] h1 (fun r h5 => ∃ z7 : Int, r = some (av_I z7) ∧ hb s h5 ∧ ((z3 = z7 → B_Judge_isParallel_146 G s a0 a1 a2 a3 h5 Q ) ∧ (¬ z3 = z7 → B_Judge_isParallel_147 G s a0 a1 a2 a3 (1) h5 Q ))))
theorem b_Judge_isParallel_127 {G : cx_T} {s : Nat} {a0 : Nat} {a1 : Int} {a2 : Nat} {a3 : Int} (ha0 : isV a0) (ha2 : isV a2) {h : ah_T} {Q : Option av_T → ah_T → Prop} (hb0 : hb s h) (H : B_Judge_isParallel_127 G s a0 a1 a2 a3 h Q ) : aw G (rm_R 2 0 0) m_Judge_isParallel 0 0 127 [none, none, some (av_R (some a2)), some (av_I a3), none, none] [] h Q := by
  unfold B_Judge_isParallel_127 at H
  have hS : isS s := hb0.2.1
  refine A_aload_n 2 d_Judge_isParallel_127 rfl rfl ?_
  refine A_iload_n 3 d_Judge_isParallel_128 rfl rfl ?_
  refine A_callV1 m_Voice_lowestKey T_ok d_Judge_isParallel_129 l_Judge_86 k_Voice_lowestKey (hs_V hb0 ha2) rfl (by decide +kernel) (by decide) (Nat.le_of_ble_eq_true rfl) H (fun r h1 hq => ?_)
  clear H
  obtain ⟨z3, rfl, hb2, H⟩ := hq
  refine A_aload_n 2 d_Judge_isParallel_132 rfl rfl ?_
  refine A_iload_n 3 d_Judge_isParallel_133 rfl rfl ?_
  refine A_iconst d_Judge_isParallel_134 rfl ?_
  have g4 := H.1
  replace H := H.2
  refine A_isubv (z := (a3 - 1)) d_Judge_isParallel_135 (w32_to (by omega) (by unfold i32; omega)) ?_
  refine A_callV1 m_Voice_lowestKey T_ok d_Judge_isParallel_136 l_Judge_86 k_Voice_lowestKey (hs_V hb2 ha2) rfl (by decide +kernel) (by decide) (Nat.le_of_ble_eq_true rfl) H (fun r h5 hq => ?_)
  clear H
  obtain ⟨z7, rfl, hb6, H⟩ := hq
  refine A_icmp_eq (tgt := 146) d_Judge_isParallel_139 (by decide) (fun c => ?_) (fun c => ?_)
  · replace H := H.1 c
    refine A_pc (pc' := 146) rfl ?_
    refine A_free (L' := [none, none, none, none, none, none]) trivial ?_
    exact b_Judge_isParallel_146 ha0 ha2   hb6 H
  · replace H := H.2 c
    refine A_iconst d_Judge_isParallel_142 rfl ?_
    refine A_goto (tgt := 147) d_Judge_isParallel_143 (by decide) ?_
    refine A_pc (pc' := 147) rfl ?_
    refine A_free (L' := [none, none, none, none, none, none]) trivial ?_
    exact b_Judge_isParallel_147 ha0 ha2   hb6 H
def B_Judge_isParallel_66 (G : cx_T) (s : Nat) (a0 : Nat) (a1 : Int) (a2 : Nat) (a3 : Int) (h : ah_T) (Q : Option av_T → ah_T → Prop) : Prop :=
 Q (some (av_I 0)) h
theorem b_Judge_isParallel_66 {G : cx_T} {s : Nat} {a0 : Nat} {a1 : Int} {a2 : Nat} {a3 : Int} (ha0 : isV a0) (ha2 : isV a2) {h : ah_T} {Q : Option av_T → ah_T → Prop} (hb0 : hb s h) (H : B_Judge_isParallel_66 G s a0 a1 a2 a3 h Q ) : aw G (rm_R 2 0 0) m_Judge_isParallel 0 0 66 [none, none, none, none, none, none] [] h Q := by
  unfold B_Judge_isParallel_66 at H
  have hS : isS s := hb0.2.1
  refine A_iconst d_Judge_isParallel_66 rfl ?_
  exact A_zret d_Judge_isParallel_67 (by decide) rfl (by decide) H
def B_Judge_isParallel_28 (G : cx_T) (s : Nat) (a0 : Nat) (a1 : Int) (a2 : Nat) (a3 : Int) (h : ah_T) (Q : Option av_T → ah_T → Prop) : Prop :=
 Q (some (av_I 0)) h
theorem b_Judge_isParallel_28 {G : cx_T} {s : Nat} {a0 : Nat} {a1 : Int} {a2 : Nat} {a3 : Int} (ha0 : isV a0) (ha2 : isV a2) {h : ah_T} {Q : Option av_T → ah_T → Prop} (hb0 : hb s h) (H : B_Judge_isParallel_28 G s a0 a1 a2 a3 h Q ) : aw G (rm_R 2 0 0) m_Judge_isParallel 0 0 28 [none, none, none, none, none, none] [] h Q := by
  unfold B_Judge_isParallel_28 at H
  have hS : isS s := hb0.2.1
  refine A_iconst d_Judge_isParallel_28 rfl ?_
  exact A_zret d_Judge_isParallel_29 (by decide) rfl (by decide) H
def B_Judge_isParallel_0 (G : cx_T) (s : Nat) (a0 : Nat) (a1 : Int) (a2 : Nat) (a3 : Int) (h : ah_T) (Q : Option av_T → ah_T → Prop) : Prop :=
 ((a3 < 1 → B_Judge_isParallel_28 G s a0 a1 a2 a3 h Q ) ∧ (¬ a3 < 1 → ((a1 < 1 → B_Judge_isParallel_28 G s a0 a1 a2 a3 h Q ) ∧ (¬ a1 < 1 → ∀ x1 : Int, x1 = h.2.1 a0 14 → -2147483648 ≤ x1 → x1 ≤ 2147483647 → ((x1 ≤ a1 → B_Judge_isParallel_28 G s a0 a1 a2 a3 h Q ) ∧ (¬ x1 ≤ a1 → con G 1 0 0 m_Judge_compareStarts [av_R (some a0), av_I a1, av_R (some a2), av_I a3] h (fun r h2 => ∃ z4 : Int, r = some (av_I z4) ∧ hb s h2 ∧ ((z4 = 0 → con G 1 0 0 m_Voice_isRest [av_R (some a2), av_I a3] h2 (fun r h5 => ∃ z7 : Int, r = some (av_I z7) ∧ hb s h5 ∧ ((z7 = 0 → ((-2147483648) ≤ (a3 - 1) ∧ (a3 - 1) ≤ 2147483647) ∧ con G 1 0 0 m_Voice_isRest [av_R (some a2), av_I (a3 - 1)] h5 (fun r h9 => ∃ z11 : Int, r = some (av_I z11) ∧ hb s h9 ∧ ((z11 = 0 → con G 1 0 0 m_Voice_isRest [av_R (some a0), av_I a1] h9 (fun r h12 => ∃ z14 : Int, r = some (av_I z14) ∧ hb s h12 ∧ ((z14 = 0 → ((-2147483648) ≤ (a1 - 1) ∧ (a1 - 1) ≤ 2147483647) ∧ con G 1 0 0 m_Voice_isRest [av_R (some a0), av_I (a1 - 1)] h12 (fun r h16 => ∃ z18 : Int, r = some (av_I z18) ∧ hb s h16 ∧ ((z18 = 0 → con G 1 0 0 m_Voice_lowestKey [av_R (some a0), av_I a1] h16 (fun r h19 => ∃ z21 : Int, r = some (av_I z21) ∧ hb s h19 ∧ con G 1 0 0 m_Voice_lowestKey [av_R (some a2), av_I a3] h19 (fun r h22 => ∃ z24 : Int, r = some (av_I z24) ∧ hb s h22 ∧ ((-2147483648) ≤ (z21 - z24) ∧ (z21 - z24) ≤ 2147483647) ∧ con G 0 0 0 m_JMath_floorMod [av_I (z21 - z24), av_I 12] h22 (fun r h26 => ∃ z28 : Int, r = some (av_I z28) ∧ hb s h26 ∧ con G 1 0 0 m_Voice_lowestKey [av_R (some a0), av_I (a1 - 1)] h26 (fun r h29 => ∃ z31 : Int, r = some (av_I z31) ∧ hb s h29 ∧ con G 1 0 0 m_Voice_lowestKey [av_R (some a2), av_I (a3 - 1)] h29 (fun r h32 => ∃ z34 : Int, r = some (av_I z34) ∧ hb s h32 ∧ ((-2147483648) ≤ (z31 - z34) ∧ (z31 - z34) ≤ 2147483647) ∧ con G 0 0 0 m_JMath_floorMod [av_I (z31 - z34), av_I 12] h32 (fun r h36 => ∃ z38 : Int, r = some (av_I z38) ∧ hb s h36 ∧ ((z28 = z38 → ((z28 = 0 → B_Judge_isParallel_127 G s a0 a1 a2 a3 h36 Q ) ∧ (¬ z28 = 0 → ((z28 = 7 → B_Judge_isParallel_127 G s a0 a1 a2 a3 h36 Q ) ∧ (¬ z28 = 7 → B_Judge_isParallel_146 G s a0 a1 a2 a3 h36 Q ))))) ∧ (¬ z28 = z38 → B_Judge_isParallel_146 G s a0 a1 a2 a3 h36 Q ))))))))) ∧ (¬ z18 = 0 → B_Judge_isParallel_66 G s a0 a1 a2 a3 h16 Q )))) ∧ (¬ z14 = 0 → B_Judge_isParallel_66 G s a0 a1 a2 a3 h12 Q )))) ∧ (¬ z11 = 0 → B_Judge_isParallel_66 G s a0 a1 a2 a3 h9 Q )))) ∧ (¬ z7 = 0 → B_Judge_isParallel_66 G s a0 a1 a2 a3 h5 Q )))) ∧ (¬ z4 = 0 → B_Judge_isParallel_28 G s a0 a1 a2 a3 h2 Q )))))))))
theorem b_Judge_isParallel_0 {G : cx_T} {s : Nat} {a0 : Nat} {a1 : Int} {a2 : Nat} {a3 : Int} (ha0 : isV a0) (ha2 : isV a2) {h : ah_T} {Q : Option av_T → ah_T → Prop} (hb0 : hb s h) (H : B_Judge_isParallel_0 G s a0 a1 a2 a3 h Q ) : aw G (rm_R 2 0 0) m_Judge_isParallel 0 0 0 [some (av_R (some a0)), some (av_I a1), some (av_R (some a2)), some (av_I a3), none, none] [] h Q := by
  unfold B_Judge_isParallel_0 at H
  have hS : isS s := hb0.2.1
  refine A_iload_n 3 d_Judge_isParallel_0 rfl rfl ?_
  refine A_iconst d_Judge_isParallel_1 rfl ?_
  refine A_icmp_lt (tgt := 28) d_Judge_isParallel_2 (by decide) (fun c => ?_) (fun c => ?_)
  · replace H := H.1 c
    refine A_pc (pc' := 28) rfl ?_
    refine A_free (L' := [none, none, none, none, none, none]) trivial ?_
    exact b_Judge_isParallel_28 ha0 ha2   hb0 H
  · replace H := H.2 c
    refine A_iload_n 1 d_Judge_isParallel_5 rfl rfl ?_
    refine A_iconst d_Judge_isParallel_6 rfl ?_
    refine A_icmp_lt (tgt := 28) d_Judge_isParallel_7 (by decide) (fun c => ?_) (fun c => ?_)
    · replace H := H.1 c
      refine A_pc (pc' := 28) rfl ?_
      refine A_free (L' := [none, none, none, none, none, none]) trivial ?_
      exact b_Judge_isParallel_28 ha0 ha2   hb0 H
    · replace H := H.2 c
      refine A_iload_n 1 d_Judge_isParallel_10 rfl rfl ?_
      refine A_aload_n 0 d_Judge_isParallel_11 rfl rfl ?_
      refine A_getIf T_ok d_Judge_isParallel_12 f_Judge_35 (hs_V hb0 ha0) (fun x1 ex1 lx1 ux1 => ?_)
      replace H := H x1 ex1 lx1 ux1
      refine A_icmp_ge (tgt := 28) d_Judge_isParallel_15 (by decide) (fun c => ?_) (fun c => ?_)
      · replace H := H.1 c
        refine A_pc (pc' := 28) rfl ?_
        refine A_free (L' := [none, none, none, none, none, none]) trivial ?_
        exact b_Judge_isParallel_28 ha0 ha2   hb0 H
      · replace H := H.2 c
        refine A_aload_n 0 d_Judge_isParallel_18 rfl rfl ?_
        refine A_iload_n 1 d_Judge_isParallel_19 rfl rfl ?_
        refine A_aload_n 2 d_Judge_isParallel_20 rfl rfl ?_
        refine A_iload_n 3 d_Judge_isParallel_21 rfl rfl ?_
        refine A_callS4 m_Judge_compareStarts d_Judge_isParallel_22 l_Judge_114 k_Judge_compareStarts (by decide +kernel) (by decide) (Nat.le_of_ble_eq_true rfl) H (fun r h2 hq => ?_)
        clear H
        obtain ⟨z4, rfl, hb3, H⟩ := hq
        refine A_if_eq (tgt := 30) d_Judge_isParallel_25 (by decide) (fun c => ?_) (fun c => ?_)
        · replace H := H.1 c
          refine A_aload_n 2 d_Judge_isParallel_30 rfl rfl ?_
          refine A_iload_n 3 d_Judge_isParallel_31 rfl rfl ?_
          refine A_callV1 m_Voice_isRest T_ok d_Judge_isParallel_32 l_Judge_83 k_Voice_isRest (hs_V hb3 ha2) rfl (by decide +kernel) (by decide) (Nat.le_of_ble_eq_true rfl) H (fun r h5 hq => ?_)
          clear H
          obtain ⟨z7, rfl, hb6, H⟩ := hq
          refine A_if_ne (tgt := 66) d_Judge_isParallel_35 (by decide) (fun c => ?_) (fun c => ?_)
          · replace H := H.2 c
            refine A_pc (pc' := 66) rfl ?_
            refine A_free (L' := [none, none, none, none, none, none]) trivial ?_
            exact b_Judge_isParallel_66 ha0 ha2   hb6 H
          · replace H := H.1 c
            refine A_aload_n 2 d_Judge_isParallel_38 rfl rfl ?_
            refine A_iload_n 3 d_Judge_isParallel_39 rfl rfl ?_
            refine A_iconst d_Judge_isParallel_40 rfl ?_
            have g8 := H.1
            replace H := H.2
            refine A_isubv (z := (a3 - 1)) d_Judge_isParallel_41 (w32_to (by omega) (by unfold i32; omega)) ?_
            refine A_callV1 m_Voice_isRest T_ok d_Judge_isParallel_42 l_Judge_83 k_Voice_isRest (hs_V hb6 ha2) rfl (by decide +kernel) (by decide) (Nat.le_of_ble_eq_true rfl) H (fun r h9 hq => ?_)
            clear H
            obtain ⟨z11, rfl, hb10, H⟩ := hq
            refine A_if_ne (tgt := 66) d_Judge_isParallel_45 (by decide) (fun c => ?_) (fun c => ?_)
            · replace H := H.2 c
              refine A_pc (pc' := 66) rfl ?_
              refine A_free (L' := [none, none, none, none, none, none]) trivial ?_
              exact b_Judge_isParallel_66 ha0 ha2   hb10 H
            · replace H := H.1 c
              refine A_aload_n 0 d_Judge_isParallel_48 rfl rfl ?_
              refine A_iload_n 1 d_Judge_isParallel_49 rfl rfl ?_
              refine A_callV1 m_Voice_isRest T_ok d_Judge_isParallel_50 l_Judge_83 k_Voice_isRest (hs_V hb10 ha0) rfl (by decide +kernel) (by decide) (Nat.le_of_ble_eq_true rfl) H (fun r h12 hq => ?_)
              clear H
              obtain ⟨z14, rfl, hb13, H⟩ := hq
              refine A_if_ne (tgt := 66) d_Judge_isParallel_53 (by decide) (fun c => ?_) (fun c => ?_)
              · replace H := H.2 c
                refine A_pc (pc' := 66) rfl ?_
                refine A_free (L' := [none, none, none, none, none, none]) trivial ?_
                exact b_Judge_isParallel_66 ha0 ha2   hb13 H
              · replace H := H.1 c
                refine A_aload_n 0 d_Judge_isParallel_56 rfl rfl ?_
                refine A_iload_n 1 d_Judge_isParallel_57 rfl rfl ?_
                refine A_iconst d_Judge_isParallel_58 rfl ?_
                have g15 := H.1
                replace H := H.2
                refine A_isubv (z := (a1 - 1)) d_Judge_isParallel_59 (w32_to (by omega) (by unfold i32; omega)) ?_
                refine A_callV1 m_Voice_isRest T_ok d_Judge_isParallel_60 l_Judge_83 k_Voice_isRest (hs_V hb13 ha0) rfl (by decide +kernel) (by decide) (Nat.le_of_ble_eq_true rfl) H (fun r h16 hq => ?_)
                clear H
                obtain ⟨z18, rfl, hb17, H⟩ := hq
                refine A_if_eq (tgt := 68) d_Judge_isParallel_63 (by decide) (fun c => ?_) (fun c => ?_)
                · replace H := H.1 c
                  refine A_aload_n 0 d_Judge_isParallel_68 rfl rfl ?_
                  refine A_iload_n 1 d_Judge_isParallel_69 rfl rfl ?_
                  refine A_callV1 m_Voice_lowestKey T_ok d_Judge_isParallel_70 l_Judge_86 k_Voice_lowestKey (hs_V hb17 ha0) rfl (by decide +kernel) (by decide) (Nat.le_of_ble_eq_true rfl) H (fun r h19 hq => ?_)
                  clear H
                  obtain ⟨z21, rfl, hb20, H⟩ := hq
                  refine A_aload_n 2 d_Judge_isParallel_73 rfl rfl ?_
                  refine A_iload_n 3 d_Judge_isParallel_74 rfl rfl ?_
                  refine A_callV1 m_Voice_lowestKey T_ok d_Judge_isParallel_75 l_Judge_86 k_Voice_lowestKey (hs_V hb20 ha2) rfl (by decide +kernel) (by decide) (Nat.le_of_ble_eq_true rfl) H (fun r h22 hq => ?_)
                  clear H
                  obtain ⟨z24, rfl, hb23, H⟩ := hq
                  have g25 := H.1
                  replace H := H.2
                  refine A_isubv (z := (z21 - z24)) d_Judge_isParallel_78 (w32_to (by omega) (by unfold i32; omega)) ?_
                  refine A_bipush d_Judge_isParallel_79 rfl ?_
                  refine A_callS2 m_JMath_floorMod d_Judge_isParallel_81 l_Judge_136 k_JMath_floorMod (by decide +kernel) (by decide) (Nat.le_of_ble_eq_true rfl) H (fun r h26 hq => ?_)
                  clear H
                  obtain ⟨z28, rfl, hb27, H⟩ := hq
                  refine A_istore (L' := [some (av_R (some a0)), some (av_I a1), some (av_R (some a2)), some (av_I a3), some (av_I z28), none]) d_Judge_isParallel_84 (Nat.le_of_ble_eq_true rfl) rfl ?_
                  refine A_aload_n 0 d_Judge_isParallel_86 rfl rfl ?_
                  refine A_iload_n 1 d_Judge_isParallel_87 rfl rfl ?_
                  refine A_iconst d_Judge_isParallel_88 rfl ?_
                  refine A_isubv (z := (a1 - 1)) d_Judge_isParallel_89 (w32_to (by omega) (by unfold i32; omega)) ?_
                  refine A_pc (pc' := 90) rfl ?_
                  refine A_callV1 m_Voice_lowestKey T_ok d_Judge_isParallel_90 l_Judge_86 k_Voice_lowestKey (hs_V hb27 ha0) rfl (by decide +kernel) (by decide) (Nat.le_of_ble_eq_true rfl) H (fun r h29 hq => ?_)
                  clear H
                  obtain ⟨z31, rfl, hb30, H⟩ := hq
                  refine A_aload_n 2 d_Judge_isParallel_93 rfl rfl ?_
                  refine A_iload_n 3 d_Judge_isParallel_94 rfl rfl ?_
                  refine A_iconst d_Judge_isParallel_95 rfl ?_
                  refine A_isubv (z := (a3 - 1)) d_Judge_isParallel_96 (w32_to (by omega) (by unfold i32; omega)) ?_
                  refine A_callV1 m_Voice_lowestKey T_ok d_Judge_isParallel_97 l_Judge_86 k_Voice_lowestKey (hs_V hb30 ha2) rfl (by decide +kernel) (by decide) (Nat.le_of_ble_eq_true rfl) H (fun r h32 hq => ?_)
                  clear H
                  obtain ⟨z34, rfl, hb33, H⟩ := hq
                  have g35 := H.1
                  replace H := H.2
                  refine A_isubv (z := (z31 - z34)) d_Judge_isParallel_100 (w32_to (by omega) (by unfold i32; omega)) ?_
                  refine A_bipush d_Judge_isParallel_101 rfl ?_
                  refine A_callS2 m_JMath_floorMod d_Judge_isParallel_103 l_Judge_136 k_JMath_floorMod (by decide +kernel) (by decide) (Nat.le_of_ble_eq_true rfl) H (fun r h36 hq => ?_)
                  clear H
                  obtain ⟨z38, rfl, hb37, H⟩ := hq
                  refine A_istore (L' := [some (av_R (some a0)), some (av_I a1), some (av_R (some a2)), some (av_I a3), some (av_I z28), some (av_I z38)]) d_Judge_isParallel_106 (Nat.le_of_ble_eq_true rfl) rfl ?_
                  refine A_iload d_Judge_isParallel_108 rfl ?_
                  refine A_iload d_Judge_isParallel_110 rfl ?_
                  refine A_icmp_ne (tgt := 146) d_Judge_isParallel_112 (by decide) (fun c => ?_) (fun c => ?_)
                  · replace H := H.2 c
                    refine A_pc (pc' := 146) rfl ?_
                    refine A_free (L' := [none, none, none, none, none, none]) trivial ?_
                    exact b_Judge_isParallel_146 ha0 ha2   hb37 H
                  · replace H := H.1 c
                    refine A_iload d_Judge_isParallel_115 rfl ?_
                    refine A_if_eq (tgt := 127) d_Judge_isParallel_117 (by decide) (fun c => ?_) (fun c => ?_)
                    · replace H := H.1 c
                      refine A_pc (pc' := 127) rfl ?_
                      refine A_free (L' := [none, none, some (av_R (some a2)), some (av_I a3), none, none]) (And.intro rfl (And.intro rfl trivial)) ?_
                      exact b_Judge_isParallel_127 ha0 ha2   hb37 H
                    · replace H := H.2 c
                      refine A_iload d_Judge_isParallel_120 rfl ?_
                      refine A_bipush d_Judge_isParallel_122 rfl ?_
                      refine A_icmp_ne (tgt := 146) d_Judge_isParallel_124 (by decide) (fun c => ?_) (fun c => ?_)
                      · replace H := H.2 c
                        refine A_pc (pc' := 146) rfl ?_
                        refine A_free (L' := [none, none, none, none, none, none]) trivial ?_
                        exact b_Judge_isParallel_146 ha0 ha2   hb37 H
                      · replace H := H.1 c
                        refine A_pc (pc' := 127) rfl ?_
                        refine A_free (L' := [none, none, some (av_R (some a2)), some (av_I a3), none, none]) (And.intro rfl (And.intro rfl trivial)) ?_
                        exact b_Judge_isParallel_127 ha0 ha2   hb37 H
                · replace H := H.2 c
                  refine A_pc (pc' := 66) rfl ?_
                  refine A_free (L' := [none, none, none, none, none, none]) trivial ?_
                  exact b_Judge_isParallel_66 ha0 ha2   hb17 H
        · replace H := H.2 c
          refine A_pc (pc' := 28) rfl ?_
          refine A_free (L' := [none, none, none, none, none, none]) trivial ?_
          exact b_Judge_isParallel_28 ha0 ha2   hb3 H
theorem c_Judge_isParallel {G : cx_T} {s : Nat} {a0 : Nat} {a1 : Int} {a2 : Nat} {a3 : Int} (ha0 : isV a0) (ha2 : isV a2) {h : ah_T} {Q : Option av_T → ah_T → Prop} (hb0 : hb s h) (H : i32 a1 → i32 a3 → B_Judge_isParallel_0 G s a0 a1 a2 a3 h Q ) : con G 2 0 0 m_Judge_isParallel [av_R (some a0), av_I a1, av_R (some a2), av_I a3] h Q := by
  have hS : isS s := hb0.2.1
  refine con_of (L := [some (av_R (some a0)), some (av_I a1), some (av_R (some a2)), some (av_I a3), none, none]) (by decide +kernel) (Nat.le_of_ble_eq_true rfl) rfl ?_
  refine A_locI 1 rfl (fun ra1 => ?_)
  refine A_locI 3 rfl (fun ra3 => ?_)
  exact b_Judge_isParallel_0 ha0 ha2  hb0 (H ra1 ra3)
def B_Judge_hearParallels_66 (G : cx_T) (s : Nat) (a1 : Nat) (a2 : Nat) (a3 : Int) (a4 : Int) (h : ah_T) (Q : Option av_T → ah_T → Prop) : Prop :=
 Q none h
theorem b_Judge_hearParallels_66 {G : cx_T} {s : Nat} {a1 : Nat} {a2 : Nat} {a3 : Int} {a4 : Int} (ha1 : isS a1) (ha2 : isV a2) {h : ah_T} {Q : Option av_T → ah_T → Prop} (hb0 : hb s h) (H : B_Judge_hearParallels_66 G s a1 a2 a3 a4 h Q ) : aw G (rm_R 3 0 0) m_Judge_hearParallels 0 0 66 [none, none, none, none, none, none, none] [] h Q := by
  unfold B_Judge_hearParallels_66 at H
  have hS : isS s := hb0.2.1
  exact A_vret d_Judge_hearParallels_66 (by decide) rfl H
def B_Judge_hearParallels_60 (G : cx_T) (s : Nat) (a1 : Nat) (a2 : Nat) (a3 : Int) (a4 : Int) (v5 : Int) (h : ah_T) (Q : Option av_T → ah_T → Prop) (X3 : Int → ah_T → Prop) : Prop :=
 ((-2147483648) ≤ (v5 + 1) ∧ (v5 + 1) ≤ 2147483647) ∧ X3 ((v5 + 1)) h
theorem b_Judge_hearParallels_60 {G : cx_T} {s : Nat} {a1 : Nat} {a2 : Nat} {a3 : Int} {a4 : Int} (ha1 : isS a1) (ha2 : isV a2) {v5 : Int} {h : ah_T} {Q : Option av_T → ah_T → Prop} {X3 : Int → ah_T → Prop} (hX3 : ∀ (v5 : Int) (h : ah_T), hb s h → X3 v5 h → aw G (rm_R 3 0 0) m_Judge_hearParallels 0 0 3 [some (av_R (some 143)), some (av_R (some a1)), some (av_R (some a2)), some (av_I a3), some (av_I a4), some (av_I v5), none] [] h Q) (hb0 : hb s h) (H : B_Judge_hearParallels_60 G s a1 a2 a3 a4 v5 h Q X3) : aw G (rm_R 3 0 0) m_Judge_hearParallels 0 0 60 [some (av_R (some 143)), some (av_R (some a1)), some (av_R (some a2)), some (av_I a3), some (av_I a4), some (av_I v5), none] [] h Q := by
  unfold B_Judge_hearParallels_60 at H
  have hS : isS s := hb0.2.1
  have g1 := H.1
  replace H := H.2
  refine A_iincv (z := (v5 + 1)) (L' := [some (av_R (some 143)), some (av_R (some a1)), some (av_R (some a2)), some (av_I a3), some (av_I a4), some (av_I (v5 + 1)), none]) d_Judge_hearParallels_60 rfl (w32_to (by omega) (by unfold i32; omega)) rfl ?_
  refine A_goto (tgt := 3) d_Judge_hearParallels_63 (by decide) ?_
  refine A_pc (pc' := 3) rfl ?_
  exact hX3 ((v5 + 1)) h  hb0 H
def B_Judge_hearParallels_3 (G : cx_T) (s : Nat) (a1 : Nat) (a2 : Nat) (a3 : Int) (a4 : Int) (v5 : Int) (h : ah_T) (Q : Option av_T → ah_T → Prop) (X3 : Int → ah_T → Prop) : Prop :=
 ((a3 ≤ v5 → B_Judge_hearParallels_66 G s a1 a2 a3 a4 h Q ) ∧ (¬ a3 ≤ v5 → ((4 ≤ v5 → B_Judge_hearParallels_66 G s a1 a2 a3 a4 h Q ) ∧ (¬ 4 ≤ v5 → con G 0 0 0 m_Score_voiceAt [av_R (some a1), av_I v5] h (fun r h2 => ∃ oz4 : Option Nat, r = some (av_R oz4) ∧ hb s h2 ∧ ((oz4 = none ∧ B_Judge_hearParallels_60 G s a1 a2 a3 a4 (v5) h2 Q X3) ∨ ∃ z4 : Nat, oz4 = some z4 ∧ isV z4 ∧ (0 ≤ v5 ∧ v5 < 4) ∧ ∀ x6 : Int, x6 = h2.2.1 145 (v5).toNat → -2147483648 ≤ x6 → x6 ≤ 2147483647 → con G 2 0 0 m_Judge_isParallel [av_R (some z4), av_I x6, av_R (some a2), av_I a4] h2 (fun r h8 => ∃ z10 : Int, r = some (av_I z10) ∧ hb s h8 ∧ ((z10 = 0 → B_Judge_hearParallels_60 G s a1 a2 a3 a4 (v5) h8 Q X3) ∧ (¬ z10 = 0 → con G 0 0 0 m_Judge_add [av_R (some 143), av_I 5, av_I a3, av_I a4, av_I v5] h8 (fun r h11 => r = none ∧ hb s h11 ∧ B_Judge_hearParallels_60 G s a1 a2 a3 a4 (v5) h11 Q X3))))))))))
theorem b_Judge_hearParallels_3 {G : cx_T} {s : Nat} {a1 : Nat} {a2 : Nat} {a3 : Int} {a4 : Int} (ha1 : isS a1) (ha2 : isV a2) {v5 : Int} {h : ah_T} {Q : Option av_T → ah_T → Prop} {X3 : Int → ah_T → Prop} (hX3 : ∀ (v5 : Int) (h : ah_T), hb s h → X3 v5 h → aw G (rm_R 3 0 0) m_Judge_hearParallels 0 0 3 [some (av_R (some 143)), some (av_R (some a1)), some (av_R (some a2)), some (av_I a3), some (av_I a4), some (av_I v5), none] [] h Q) (hb0 : hb s h) (H : B_Judge_hearParallels_3 G s a1 a2 a3 a4 v5 h Q X3) : aw G (rm_R 3 0 0) m_Judge_hearParallels 0 0 3 [some (av_R (some 143)), some (av_R (some a1)), some (av_R (some a2)), some (av_I a3), some (av_I a4), some (av_I v5), none] [] h Q := by
  unfold B_Judge_hearParallels_3 at H
  have hS : isS s := hb0.2.1
  refine A_iload d_Judge_hearParallels_3 rfl ?_
  refine A_iload_n 3 d_Judge_hearParallels_5 rfl rfl ?_
  refine A_icmp_ge (tgt := 66) d_Judge_hearParallels_6 (by decide) (fun c => ?_) (fun c => ?_)
  · replace H := H.1 c
    refine A_pc (pc' := 66) rfl ?_
    refine A_free (L' := [none, none, none, none, none, none, none]) trivial ?_
    exact b_Judge_hearParallels_66 ha1 ha2   hb0 H
  · replace H := H.2 c
    refine A_iload d_Judge_hearParallels_9 rfl ?_
    refine A_aload_n 0 d_Judge_hearParallels_11 rfl rfl ?_
    refine A_getAv (z := some 145) T_ok d_Judge_hearParallels_12 f_Judge_15 (hb_s hb0 sf_143) (hb_r hb0 rff_143_2) ?_
    refine A_alenN d_Judge_hearParallels_15 (hb_s hb0 sf_145) (by decide) (by decide) ?_
    refine A_icmp_ge (tgt := 66) d_Judge_hearParallels_16 (by decide) (fun c => ?_) (fun c => ?_)
    · replace H := H.1 c
      refine A_pc (pc' := 66) rfl ?_
      refine A_free (L' := [none, none, none, none, none, none, none]) trivial ?_
      exact b_Judge_hearParallels_66 ha1 ha2   hb0 H
    · replace H := H.2 c
      refine A_aload_n 1 d_Judge_hearParallels_19 rfl rfl ?_
      refine A_iload d_Judge_hearParallels_20 rfl ?_
      refine A_callV1 m_Score_voiceAt T_ok d_Judge_hearParallels_22 l_Judge_27 k_Score_voiceAt (hs_S hb0 ha1) rfl (by decide +kernel) (by decide) (Nat.le_of_ble_eq_true rfl) H (fun r h2 hq => ?_)
      clear H
      obtain ⟨oz4, rfl, hb3, H⟩ := hq
      rcases H with ⟨H1, H⟩ | ⟨z4, H1, tz4, H⟩
      · subst H1
        refine A_astore (L' := [some (av_R (some 143)), some (av_R (some a1)), some (av_R (some a2)), some (av_I a3), some (av_I a4), some (av_I v5), some (av_R none)]) d_Judge_hearParallels_25 (Nat.le_of_ble_eq_true rfl) rfl ?_
        refine A_aload d_Judge_hearParallels_27 rfl ?_
        refine A_ifnull (tgt := 60) d_Judge_hearParallels_29 (by decide) (fun _ => ?_) (fun a q => by cases q)
        refine A_pc (pc' := 60) rfl ?_
        refine A_free (L' := [some (av_R (some 143)), some (av_R (some a1)), some (av_R (some a2)), some (av_I a3), some (av_I a4), some (av_I v5), none]) (And.intro rfl (And.intro rfl (And.intro rfl (And.intro rfl (And.intro rfl (And.intro rfl trivial)))))) ?_
        exact b_Judge_hearParallels_60 ha1 ha2 hX3  hb3 H
      · subst H1
        refine A_astore (L' := [some (av_R (some 143)), some (av_R (some a1)), some (av_R (some a2)), some (av_I a3), some (av_I a4), some (av_I v5), some (av_R (some z4))]) d_Judge_hearParallels_25 (Nat.le_of_ble_eq_true rfl) rfl ?_
        refine A_aload d_Judge_hearParallels_27 rfl ?_
        refine A_ifnull (tgt := 60) d_Judge_hearParallels_29 (by decide) (fun q => by cases q) (fun _ _ => ?_)
        refine A_aload d_Judge_hearParallels_32 rfl ?_
        refine A_aload_n 0 d_Judge_hearParallels_34 rfl rfl ?_
        refine A_getAv (z := some 145) T_ok d_Judge_hearParallels_35 f_Judge_15 (hb_s hb3 sf_143) (hb_r hb3 rff_143_2) ?_
        refine A_iload d_Judge_hearParallels_38 rfl ?_
        have g7 := H.1
        replace H := H.2
        refine A_ialoadf d_Judge_hearParallels_40 (hb_s hb3 sf_145) g7.1 g7.2 (fun x6 ex6 lx6 ux6 => ?_)
        replace H := H x6 ex6 lx6 ux6
        refine A_pc (pc' := 41) rfl ?_
        refine A_aload_n 2 d_Judge_hearParallels_41 rfl rfl ?_
        refine A_iload d_Judge_hearParallels_42 rfl ?_
        refine A_callS4 m_Judge_isParallel d_Judge_hearParallels_44 l_Judge_133 k_Judge_isParallel (by decide +kernel) (by decide) (Nat.le_of_ble_eq_true rfl) H (fun r h8 hq => ?_)
        clear H
        obtain ⟨z10, rfl, hb9, H⟩ := hq
        refine A_if_eq (tgt := 60) d_Judge_hearParallels_47 (by decide) (fun c => ?_) (fun c => ?_)
        · replace H := H.1 c
          refine A_pc (pc' := 60) rfl ?_
          refine A_free (L' := [some (av_R (some 143)), some (av_R (some a1)), some (av_R (some a2)), some (av_I a3), some (av_I a4), some (av_I v5), none]) (And.intro rfl (And.intro rfl (And.intro rfl (And.intro rfl (And.intro rfl (And.intro rfl trivial)))))) ?_
          exact b_Judge_hearParallels_60 ha1 ha2 hX3  hb9 H
        · replace H := H.2 c
          refine A_aload_n 0 d_Judge_hearParallels_50 rfl rfl ?_
          refine A_iconst d_Judge_hearParallels_51 rfl ?_
          refine A_iload_n 3 d_Judge_hearParallels_52 rfl rfl ?_
          refine A_iload d_Judge_hearParallels_53 rfl ?_
          refine A_iload d_Judge_hearParallels_55 rfl ?_
          refine A_pc (pc' := 57) rfl ?_
          refine A_callV4 m_Judge_add T_ok d_Judge_hearParallels_57 l_Judge_50 k_Judge_add (hb_s hb9 sf_143) rfl (by decide +kernel) (by decide) (Nat.le_of_ble_eq_true rfl) H (fun r h11 hq => ?_)
          clear H
          obtain ⟨rfl, hb12, H⟩ := hq
          refine A_pc (pc' := 60) rfl ?_
          refine A_free (L' := [some (av_R (some 143)), some (av_R (some a1)), some (av_R (some a2)), some (av_I a3), some (av_I a4), some (av_I v5), none]) (And.intro rfl (And.intro rfl (And.intro rfl (And.intro rfl (And.intro rfl (And.intro rfl trivial)))))) ?_
          exact b_Judge_hearParallels_60 ha1 ha2 hX3  hb12 H
theorem lp_Judge_hearParallels_3 {G : cx_T} {s : Nat} {a1 : Nat} {a2 : Nat} {a3 : Int} {a4 : Int} (ha1 : isS a1) (ha2 : isV a2) {Q : Option av_T → ah_T → Prop} (I : Int → ah_T → Prop) (μ : Int → ah_T → Nat) (hI : ∀ (v5 : Int) (h : ah_T), hb s h → I v5 h → B_Judge_hearParallels_3 G s a1 a2 a3 a4 v5 h Q (fun v5' h' => I v5' h' ∧ μ v5' h' < μ v5 h)) : ∀ (v5 : Int) (h : ah_T), hb s h → I v5 h → aw G (rm_R 3 0 0) m_Judge_hearParallels 0 0 3 [some (av_R (some 143)), some (av_R (some a1)), some (av_R (some a2)), some (av_I a3), some (av_I a4), some (av_I v5), none] [] h Q := by
  have key : ∀ (n : Nat) (v5 : Int) (h : ah_T), hb s h → I v5 h → μ v5 h < n → aw G (rm_R 3 0 0) m_Judge_hearParallels 0 0 3 [some (av_R (some 143)), some (av_R (some a1)), some (av_R (some a2)), some (av_I a3), some (av_I a4), some (av_I v5), none] [] h Q := by
    intro n
    induction n with
    | zero => intro v5 h  hb0 hi hm; omega
    | succ n ih => intro v5 h  hb0 hi hm; exact b_Judge_hearParallels_3 ha1 ha2 (fun v5' h'  hb' hx => ih v5' h'  hb' hx.1 (by have := hx.2; omega))  hb0 (hI v5 h  hb0 hi)
  exact fun v5 h  hb0 hi => key _ v5 h  hb0 hi (Nat.lt_succ_self _)
def B_Judge_hearParallels_0 (G : cx_T) (s : Nat) (a1 : Nat) (a2 : Nat) (a3 : Int) (a4 : Int) (h : ah_T) (Q : Option av_T → ah_T → Prop) (X3 : Int → ah_T → Prop) : Prop :=
 X3 (0) h
theorem b_Judge_hearParallels_0 {G : cx_T} {s : Nat} {a1 : Nat} {a2 : Nat} {a3 : Int} {a4 : Int} (ha1 : isS a1) (ha2 : isV a2) {h : ah_T} {Q : Option av_T → ah_T → Prop} {X3 : Int → ah_T → Prop} (hX3 : ∀ (v5 : Int) (h : ah_T), hb s h → X3 v5 h → aw G (rm_R 3 0 0) m_Judge_hearParallels 0 0 3 [some (av_R (some 143)), some (av_R (some a1)), some (av_R (some a2)), some (av_I a3), some (av_I a4), some (av_I v5), none] [] h Q) (hb0 : hb s h) (H : B_Judge_hearParallels_0 G s a1 a2 a3 a4 h Q X3) : aw G (rm_R 3 0 0) m_Judge_hearParallels 0 0 0 [some (av_R (some 143)), some (av_R (some a1)), some (av_R (some a2)), some (av_I a3), some (av_I a4), none, none] [] h Q := by
  unfold B_Judge_hearParallels_0 at H
  have hS : isS s := hb0.2.1
  refine A_iconst d_Judge_hearParallels_0 rfl ?_
  refine A_istore (L' := [some (av_R (some 143)), some (av_R (some a1)), some (av_R (some a2)), some (av_I a3), some (av_I a4), some (av_I 0), none]) d_Judge_hearParallels_1 (Nat.le_of_ble_eq_true rfl) rfl ?_
  refine A_pc (pc' := 3) rfl ?_
  exact hX3 (0) h  hb0 H
theorem c_Judge_hearParallels {G : cx_T} {s : Nat} {a1 : Nat} {a2 : Nat} {a3 : Int} {a4 : Int} (ha1 : isS a1) (ha2 : isV a2) {h : ah_T} {Q : Option av_T → ah_T → Prop} {X3 : Int → ah_T → Prop} (hX3 : ∀ (v5 : Int) (h : ah_T), hb s h → X3 v5 h → aw G (rm_R 3 0 0) m_Judge_hearParallels 0 0 3 [some (av_R (some 143)), some (av_R (some a1)), some (av_R (some a2)), some (av_I a3), some (av_I a4), some (av_I v5), none] [] h Q) (hb0 : hb s h) (H : i32 a3 → i32 a4 → B_Judge_hearParallels_0 G s a1 a2 a3 a4 h Q X3) : con G 3 0 0 m_Judge_hearParallels [av_R (some 143), av_R (some a1), av_R (some a2), av_I a3, av_I a4] h Q := by
  have hS : isS s := hb0.2.1
  refine con_of (L := [some (av_R (some 143)), some (av_R (some a1)), some (av_R (some a2)), some (av_I a3), some (av_I a4), none, none]) (by decide +kernel) (Nat.le_of_ble_eq_true rfl) rfl ?_
  refine A_locI 3 rfl (fun ra3 => ?_)
  refine A_locI 4 rfl (fun ra4 => ?_)
  exact b_Judge_hearParallels_0 ha1 ha2 hX3 hb0 (H ra3 ra4)
def B_Judge_hearVoice_124 (G : cx_T) (s : Nat) (a1 : Nat) (a2 : Nat) (a3 : Int) (v4 : Int) (v5 : Int) (h : ah_T) (Q : Option av_T → ah_T → Prop) (X33 : Int → Int → ah_T → Prop) : Prop :=
 ((-2147483648) ≤ (v5 + 1) ∧ (v5 + 1) ≤ 2147483647) ∧ X33 (v4) ((v5 + 1)) h
theorem b_Judge_hearVoice_124 {G : cx_T} {s : Nat} {a1 : Nat} {a2 : Nat} {a3 : Int} (ha1 : isS a1) (ha2 : isV a2) {v4 : Int} {v5 : Int} {h : ah_T} {Q : Option av_T → ah_T → Prop} {X33 : Int → Int → ah_T → Prop} (hX33 : ∀ (v4 : Int) (v5 : Int) (h : ah_T), hb s h → X33 v4 v5 h → aw G (rm_R 4 0 0) m_Judge_hearVoice 0 0 33 [some (av_R (some 143)), some (av_R (some a1)), some (av_R (some a2)), some (av_I a3), some (av_I v4), some (av_I v5)] [] h Q) (hb0 : hb s h) (H : B_Judge_hearVoice_124 G s a1 a2 a3 v4 v5 h Q X33) : aw G (rm_R 4 0 0) m_Judge_hearVoice 0 0 124 [some (av_R (some 143)), some (av_R (some a1)), some (av_R (some a2)), some (av_I a3), some (av_I v4), some (av_I v5)] [] h Q := by
  unfold B_Judge_hearVoice_124 at H
  have hS : isS s := hb0.2.1
  have g1 := H.1
  replace H := H.2
  refine A_iincv (z := (v5 + 1)) (L' := [some (av_R (some 143)), some (av_R (some a1)), some (av_R (some a2)), some (av_I a3), some (av_I v4), some (av_I (v5 + 1))]) d_Judge_hearVoice_124 rfl (w32_to (by omega) (by unfold i32; omega)) rfl ?_
  refine A_goto (tgt := 33) d_Judge_hearVoice_127 (by decide) ?_
  refine A_pc (pc' := 33) rfl ?_
  exact hX33 (v4) ((v5 + 1)) h  hb0 H
def B_Judge_hearVoice_89 (G : cx_T) (s : Nat) (a1 : Nat) (a2 : Nat) (a3 : Int) (v4 : Int) (v5 : Int) (h : ah_T) (Q : Option av_T → ah_T → Prop) (X33 : Int → Int → ah_T → Prop) : Prop :=
 ∀ x1 : Int, x1 = h.2.1 a2 14 → -2147483648 ≤ x1 → x1 ≤ 2147483647 → ((x1 ≤ v5 → B_Judge_hearVoice_124 G s a1 a2 a3 (v4) (v5) h Q X33) ∧ (¬ x1 ≤ v5 → con G 3 0 0 m_Judge_hearAlone [av_R (some 143), av_R (some a2), av_I a3, av_I v5] h (fun r h2 => r = none ∧ hb s h2 ∧ con G 3 0 0 m_Judge_hearCrossings [av_R (some 143), av_R (some a1), av_R (some a2), av_I a3, av_I v5] h2 (fun r h5 => r = none ∧ hb s h5 ∧ con G 3 0 0 m_Judge_hearParallels [av_R (some 143), av_R (some a1), av_R (some a2), av_I a3, av_I v5] h5 (fun r h8 => r = none ∧ hb s h8 ∧ B_Judge_hearVoice_124 G s a1 a2 a3 (v4) (v5) h8 Q X33)))))
theorem b_Judge_hearVoice_89 {G : cx_T} {s : Nat} {a1 : Nat} {a2 : Nat} {a3 : Int} (ha1 : isS a1) (ha2 : isV a2) {v4 : Int} {v5 : Int} {h : ah_T} {Q : Option av_T → ah_T → Prop} {X33 : Int → Int → ah_T → Prop} (hX33 : ∀ (v4 : Int) (v5 : Int) (h : ah_T), hb s h → X33 v4 v5 h → aw G (rm_R 4 0 0) m_Judge_hearVoice 0 0 33 [some (av_R (some 143)), some (av_R (some a1)), some (av_R (some a2)), some (av_I a3), some (av_I v4), some (av_I v5)] [] h Q) (hb0 : hb s h) (H : B_Judge_hearVoice_89 G s a1 a2 a3 v4 v5 h Q X33) : aw G (rm_R 4 0 0) m_Judge_hearVoice 0 0 89 [some (av_R (some 143)), some (av_R (some a1)), some (av_R (some a2)), some (av_I a3), some (av_I v4), some (av_I v5)] [] h Q := by
  unfold B_Judge_hearVoice_89 at H
  have hS : isS s := hb0.2.1
  refine A_iload d_Judge_hearVoice_89 rfl ?_
  refine A_aload_n 2 d_Judge_hearVoice_91 rfl rfl ?_
  refine A_getIf T_ok d_Judge_hearVoice_92 f_Judge_35 (hs_V hb0 ha2) (fun x1 ex1 lx1 ux1 => ?_)
  replace H := H x1 ex1 lx1 ux1
  refine A_icmp_ge (tgt := 124) d_Judge_hearVoice_95 (by decide) (fun c => ?_) (fun c => ?_)
  · replace H := H.1 c
    refine A_pc (pc' := 124) rfl ?_
    exact b_Judge_hearVoice_124 ha1 ha2 hX33  hb0 H
  · replace H := H.2 c
    refine A_aload_n 0 d_Judge_hearVoice_98 rfl rfl ?_
    refine A_aload_n 2 d_Judge_hearVoice_99 rfl rfl ?_
    refine A_iload_n 3 d_Judge_hearVoice_100 rfl rfl ?_
    refine A_iload d_Judge_hearVoice_101 rfl ?_
    refine A_callV3 m_Judge_hearAlone T_ok d_Judge_hearVoice_103 l_Judge_54 k_Judge_hearAlone (hb_s hb0 sf_143) rfl (by decide +kernel) (by decide) (Nat.le_of_ble_eq_true rfl) H (fun r h2 hq => ?_)
    clear H
    obtain ⟨rfl, hb3, H⟩ := hq
    refine A_aload_n 0 d_Judge_hearVoice_106 rfl rfl ?_
    refine A_aload_n 1 d_Judge_hearVoice_107 rfl rfl ?_
    refine A_aload_n 2 d_Judge_hearVoice_108 rfl rfl ?_
    refine A_iload_n 3 d_Judge_hearVoice_109 rfl rfl ?_
    refine A_iload d_Judge_hearVoice_110 rfl ?_
    refine A_pc (pc' := 112) rfl ?_
    refine A_callV4 m_Judge_hearCrossings T_ok d_Judge_hearVoice_112 l_Judge_58 k_Judge_hearCrossings (hb_s hb3 sf_143) rfl (by decide +kernel) (by decide) (Nat.le_of_ble_eq_true rfl) H (fun r h5 hq => ?_)
    clear H
    obtain ⟨rfl, hb6, H⟩ := hq
    refine A_aload_n 0 d_Judge_hearVoice_115 rfl rfl ?_
    refine A_aload_n 1 d_Judge_hearVoice_116 rfl rfl ?_
    refine A_aload_n 2 d_Judge_hearVoice_117 rfl rfl ?_
    refine A_iload_n 3 d_Judge_hearVoice_118 rfl rfl ?_
    refine A_iload d_Judge_hearVoice_119 rfl ?_
    refine A_pc (pc' := 121) rfl ?_
    refine A_callV4 m_Judge_hearParallels T_ok d_Judge_hearVoice_121 l_Judge_62 k_Judge_hearParallels (hb_s hb6 sf_143) rfl (by decide +kernel) (by decide) (Nat.le_of_ble_eq_true rfl) H (fun r h8 hq => ?_)
    clear H
    obtain ⟨rfl, hb9, H⟩ := hq
    refine A_pc (pc' := 124) rfl ?_
    exact b_Judge_hearVoice_124 ha1 ha2 hX33  hb9 H
def B_Judge_hearVoice_83 (G : cx_T) (s : Nat) (a1 : Nat) (a2 : Nat) (a3 : Int) (v4 : Int) (v5 : Int) (h : ah_T) (Q : Option av_T → ah_T → Prop) (X42 : Int → Int → ah_T → Prop) : Prop :=
 ((-2147483648) ≤ (v4 + 1) ∧ (v4 + 1) ≤ 2147483647) ∧ X42 ((v4 + 1)) (v5) h
theorem b_Judge_hearVoice_83 {G : cx_T} {s : Nat} {a1 : Nat} {a2 : Nat} {a3 : Int} (ha1 : isS a1) (ha2 : isV a2) {v4 : Int} {v5 : Int} {h : ah_T} {Q : Option av_T → ah_T → Prop} {X42 : Int → Int → ah_T → Prop} (hX42 : ∀ (v4 : Int) (v5 : Int) (h : ah_T), hb s h → X42 v4 v5 h → aw G (rm_R 4 0 0) m_Judge_hearVoice 0 0 42 [some (av_R (some 143)), some (av_R (some a1)), some (av_R (some a2)), some (av_I a3), some (av_I v4), some (av_I v5)] [] h Q) (hb0 : hb s h) (H : B_Judge_hearVoice_83 G s a1 a2 a3 v4 v5 h Q X42) : aw G (rm_R 4 0 0) m_Judge_hearVoice 0 0 83 [some (av_R (some 143)), some (av_R (some a1)), some (av_R (some a2)), some (av_I a3), some (av_I v4), some (av_I v5)] [] h Q := by
  unfold B_Judge_hearVoice_83 at H
  have hS : isS s := hb0.2.1
  have g1 := H.1
  replace H := H.2
  refine A_iincv (z := (v4 + 1)) (L' := [some (av_R (some 143)), some (av_R (some a1)), some (av_R (some a2)), some (av_I a3), some (av_I (v4 + 1)), some (av_I v5)]) d_Judge_hearVoice_83 rfl (w32_to (by omega) (by unfold i32; omega)) rfl ?_
  refine A_goto (tgt := 42) d_Judge_hearVoice_86 (by decide) ?_
  refine A_pc (pc' := 42) rfl ?_
  exact hX42 ((v4 + 1)) (v5) h  hb0 H
def B_Judge_hearVoice_42 (G : cx_T) (s : Nat) (a1 : Nat) (a2 : Nat) (a3 : Int) (v4 : Int) (v5 : Int) (h : ah_T) (Q : Option av_T → ah_T → Prop) (X33 : Int → Int → ah_T → Prop) (X42 : Int → Int → ah_T → Prop) : Prop :=
 ∀ x1 : Int, x1 = h.2.1 a2 16 → -2147483648 ≤ x1 → x1 ≤ 2147483647 → ((x1 ≤ v4 → B_Judge_hearVoice_89 G s a1 a2 a3 (v4) (v5) h Q X33) ∧ (¬ x1 ≤ v4 → (0 ≤ v4 ∧ v4 < 102) ∧ ∀ x3 : Int, x3 = h.2.1 (a2 + 13) (v4).toNat → -2147483648 ≤ x3 → x3 ≤ 2147483647 → ((v5 < x3 → B_Judge_hearVoice_89 G s a1 a2 a3 (v4) (v5) h Q X33) ∧ (¬ v5 < x3 → con G 2 0 0 m_Judge_isWhole [av_R (some a1), av_R (some a2), av_I v4] h (fun r h5 => ∃ z7 : Int, r = some (av_I z7) ∧ hb s h5 ∧ ((z7 = 0 → con G 0 0 0 m_Judge_add [av_R (some 143), av_I 1, av_I a3, av_I v5, av_I v4] h5 (fun r h8 => r = none ∧ hb s h8 ∧ B_Judge_hearVoice_83 G s a1 a2 a3 (v4) (v5) h8 Q X42)) ∧ (¬ z7 = 0 → B_Judge_hearVoice_83 G s a1 a2 a3 (v4) (v5) h5 Q X42)))))))
theorem b_Judge_hearVoice_42 {G : cx_T} {s : Nat} {a1 : Nat} {a2 : Nat} {a3 : Int} (ha1 : isS a1) (ha2 : isV a2) {v4 : Int} {v5 : Int} {h : ah_T} {Q : Option av_T → ah_T → Prop} {X33 : Int → Int → ah_T → Prop} {X42 : Int → Int → ah_T → Prop} (hX33 : ∀ (v4 : Int) (v5 : Int) (h : ah_T), hb s h → X33 v4 v5 h → aw G (rm_R 4 0 0) m_Judge_hearVoice 0 0 33 [some (av_R (some 143)), some (av_R (some a1)), some (av_R (some a2)), some (av_I a3), some (av_I v4), some (av_I v5)] [] h Q) (hX42 : ∀ (v4 : Int) (v5 : Int) (h : ah_T), hb s h → X42 v4 v5 h → aw G (rm_R 4 0 0) m_Judge_hearVoice 0 0 42 [some (av_R (some 143)), some (av_R (some a1)), some (av_R (some a2)), some (av_I a3), some (av_I v4), some (av_I v5)] [] h Q) (hb0 : hb s h) (H : B_Judge_hearVoice_42 G s a1 a2 a3 v4 v5 h Q X33 X42) : aw G (rm_R 4 0 0) m_Judge_hearVoice 0 0 42 [some (av_R (some 143)), some (av_R (some a1)), some (av_R (some a2)), some (av_I a3), some (av_I v4), some (av_I v5)] [] h Q := by
  unfold B_Judge_hearVoice_42 at H
  have hS : isS s := hb0.2.1
  refine A_iload d_Judge_hearVoice_42 rfl ?_
  refine A_aload_n 2 d_Judge_hearVoice_44 rfl rfl ?_
  refine A_getIf T_ok d_Judge_hearVoice_45 f_Judge_40 (hs_V hb0 ha2) (fun x1 ex1 lx1 ux1 => ?_)
  replace H := H x1 ex1 lx1 ux1
  refine A_icmp_ge (tgt := 89) d_Judge_hearVoice_48 (by decide) (fun c => ?_) (fun c => ?_)
  · replace H := H.1 c
    refine A_pc (pc' := 89) rfl ?_
    exact b_Judge_hearVoice_89 ha1 ha2 hX33  hb0 H
  · replace H := H.2 c
    refine A_aload_n 2 d_Judge_hearVoice_51 rfl rfl ?_
    refine A_getAv (z := some (a2 + 13)) T_ok d_Judge_hearVoice_52 f_Judge_43 (hs_V hb0 ha2) (hr_V_15 hb0 ha2) ?_
    refine A_iload d_Judge_hearVoice_55 rfl ?_
    have g4 := H.1
    replace H := H.2
    refine A_ialoadf d_Judge_hearVoice_57 (hs_V_15 hb0 ha2) g4.1 g4.2 (fun x3 ex3 lx3 ux3 => ?_)
    replace H := H x3 ex3 lx3 ux3
    refine A_iload d_Judge_hearVoice_58 rfl ?_
    refine A_pc (pc' := 60) rfl ?_
    refine A_icmp_gt (tgt := 89) d_Judge_hearVoice_60 (by decide) (fun c => ?_) (fun c => ?_)
    · replace H := H.1 c
      refine A_pc (pc' := 89) rfl ?_
      exact b_Judge_hearVoice_89 ha1 ha2 hX33  hb0 H
    · replace H := H.2 c
      refine A_aload_n 1 d_Judge_hearVoice_63 rfl rfl ?_
      refine A_aload_n 2 d_Judge_hearVoice_64 rfl rfl ?_
      refine A_iload d_Judge_hearVoice_65 rfl ?_
      refine A_callS3 m_Judge_isWhole d_Judge_hearVoice_67 l_Judge_46 k_Judge_isWhole (by decide +kernel) (by decide) (Nat.le_of_ble_eq_true rfl) H (fun r h5 hq => ?_)
      clear H
      obtain ⟨z7, rfl, hb6, H⟩ := hq
      refine A_if_ne (tgt := 83) d_Judge_hearVoice_70 (by decide) (fun c => ?_) (fun c => ?_)
      · replace H := H.2 c
        refine A_pc (pc' := 83) rfl ?_
        exact b_Judge_hearVoice_83 ha1 ha2 hX42  hb6 H
      · replace H := H.1 c
        refine A_aload_n 0 d_Judge_hearVoice_73 rfl rfl ?_
        refine A_iconst d_Judge_hearVoice_74 rfl ?_
        refine A_iload_n 3 d_Judge_hearVoice_75 rfl rfl ?_
        refine A_iload d_Judge_hearVoice_76 rfl ?_
        refine A_iload d_Judge_hearVoice_78 rfl ?_
        refine A_pc (pc' := 80) rfl ?_
        refine A_callV4 m_Judge_add T_ok d_Judge_hearVoice_80 l_Judge_50 k_Judge_add (hb_s hb6 sf_143) rfl (by decide +kernel) (by decide) (Nat.le_of_ble_eq_true rfl) H (fun r h8 hq => ?_)
        clear H
        obtain ⟨rfl, hb9, H⟩ := hq
        refine A_pc (pc' := 83) rfl ?_
        exact b_Judge_hearVoice_83 ha1 ha2 hX42  hb9 H
theorem lp_Judge_hearVoice_42 {G : cx_T} {s : Nat} {a1 : Nat} {a2 : Nat} {a3 : Int} (ha1 : isS a1) (ha2 : isV a2) {Q : Option av_T → ah_T → Prop} {X33 : Int → Int → ah_T → Prop} (hX33 : ∀ (v4 : Int) (v5 : Int) (h : ah_T), hb s h → X33 v4 v5 h → aw G (rm_R 4 0 0) m_Judge_hearVoice 0 0 33 [some (av_R (some 143)), some (av_R (some a1)), some (av_R (some a2)), some (av_I a3), some (av_I v4), some (av_I v5)] [] h Q) (I : Int → Int → ah_T → Prop) (μ : Int → Int → ah_T → Nat) (hI : ∀ (v4 : Int) (v5 : Int) (h : ah_T), hb s h → I v4 v5 h → B_Judge_hearVoice_42 G s a1 a2 a3 v4 v5 h Q X33 (fun v4' v5' h' => I v4' v5' h' ∧ μ v4' v5' h' < μ v4 v5 h)) : ∀ (v4 : Int) (v5 : Int) (h : ah_T), hb s h → I v4 v5 h → aw G (rm_R 4 0 0) m_Judge_hearVoice 0 0 42 [some (av_R (some 143)), some (av_R (some a1)), some (av_R (some a2)), some (av_I a3), some (av_I v4), some (av_I v5)] [] h Q := by
  have key : ∀ (n : Nat) (v4 : Int) (v5 : Int) (h : ah_T), hb s h → I v4 v5 h → μ v4 v5 h < n → aw G (rm_R 4 0 0) m_Judge_hearVoice 0 0 42 [some (av_R (some 143)), some (av_R (some a1)), some (av_R (some a2)), some (av_I a3), some (av_I v4), some (av_I v5)] [] h Q := by
    intro n
    induction n with
    | zero => intro v4 v5 h  hb0 hi hm; omega
    | succ n ih => intro v4 v5 h  hb0 hi hm; exact b_Judge_hearVoice_42 ha1 ha2 hX33 (fun v4' v5' h'  hb' hx => ih v4' v5' h'  hb' hx.1 (by have := hx.2; omega))  hb0 (hI v4 v5 h  hb0 hi)
  exact fun v4 v5 h  hb0 hi => key _ v4 v5 h  hb0 hi (Nat.lt_succ_self _)
def B_Judge_hearVoice_33 (G : cx_T) (s : Nat) (a1 : Nat) (a2 : Nat) (a3 : Int) (v4 : Int) (v5 : Int) (h : ah_T) (Q : Option av_T → ah_T → Prop) (X42 : Int → Int → ah_T → Prop) : Prop :=
 ∀ x1 : Int, x1 = h.2.1 a2 14 → -2147483648 ≤ x1 → x1 ≤ 2147483647 → ((x1 < v5 → Q none h) ∧ (¬ x1 < v5 → X42 (v4) (v5) h))
theorem b_Judge_hearVoice_33 {G : cx_T} {s : Nat} {a1 : Nat} {a2 : Nat} {a3 : Int} (ha1 : isS a1) (ha2 : isV a2) {v4 : Int} {v5 : Int} {h : ah_T} {Q : Option av_T → ah_T → Prop} {X42 : Int → Int → ah_T → Prop} (hX42 : ∀ (v4 : Int) (v5 : Int) (h : ah_T), hb s h → X42 v4 v5 h → aw G (rm_R 4 0 0) m_Judge_hearVoice 0 0 42 [some (av_R (some 143)), some (av_R (some a1)), some (av_R (some a2)), some (av_I a3), some (av_I v4), some (av_I v5)] [] h Q) (hb0 : hb s h) (H : B_Judge_hearVoice_33 G s a1 a2 a3 v4 v5 h Q X42) : aw G (rm_R 4 0 0) m_Judge_hearVoice 0 0 33 [some (av_R (some 143)), some (av_R (some a1)), some (av_R (some a2)), some (av_I a3), some (av_I v4), some (av_I v5)] [] h Q := by
  unfold B_Judge_hearVoice_33 at H
  have hS : isS s := hb0.2.1
  refine A_iload d_Judge_hearVoice_33 rfl ?_
  refine A_aload_n 2 d_Judge_hearVoice_35 rfl rfl ?_
  refine A_getIf T_ok d_Judge_hearVoice_36 f_Judge_35 (hs_V hb0 ha2) (fun x1 ex1 lx1 ux1 => ?_)
  replace H := H x1 ex1 lx1 ux1
  refine A_icmp_gt (tgt := 130) d_Judge_hearVoice_39 (by decide) (fun c => ?_) (fun c => ?_)
  · replace H := H.1 c
    exact A_vret d_Judge_hearVoice_130 (by decide) rfl H
  · replace H := H.2 c
    refine A_pc (pc' := 42) rfl ?_
    exact hX42 (v4) (v5) h  hb0 H
theorem lp_Judge_hearVoice_33 {G : cx_T} {s : Nat} {a1 : Nat} {a2 : Nat} {a3 : Int} (ha1 : isS a1) (ha2 : isV a2) {Q : Option av_T → ah_T → Prop} {X42 : Int → Int → ah_T → Prop} (hX42 : ∀ (v4 : Int) (v5 : Int) (h : ah_T), hb s h → X42 v4 v5 h → aw G (rm_R 4 0 0) m_Judge_hearVoice 0 0 42 [some (av_R (some 143)), some (av_R (some a1)), some (av_R (some a2)), some (av_I a3), some (av_I v4), some (av_I v5)] [] h Q) (I : Int → Int → ah_T → Prop) (μ : Int → Int → ah_T → Nat) (hI : ∀ (v4 : Int) (v5 : Int) (h : ah_T), hb s h → I v4 v5 h → B_Judge_hearVoice_33 G s a1 a2 a3 v4 v5 h Q X42) : ∀ (v4 : Int) (v5 : Int) (h : ah_T), hb s h → I v4 v5 h → aw G (rm_R 4 0 0) m_Judge_hearVoice 0 0 33 [some (av_R (some 143)), some (av_R (some a1)), some (av_R (some a2)), some (av_I a3), some (av_I v4), some (av_I v5)] [] h Q := by
  have key : ∀ (n : Nat) (v4 : Int) (v5 : Int) (h : ah_T), hb s h → I v4 v5 h → μ v4 v5 h < n → aw G (rm_R 4 0 0) m_Judge_hearVoice 0 0 33 [some (av_R (some 143)), some (av_R (some a1)), some (av_R (some a2)), some (av_I a3), some (av_I v4), some (av_I v5)] [] h Q := by
    intro n
    induction n with
    | zero => intro v4 v5 h  hb0 hi hm; omega
    | succ n ih => intro v4 v5 h  hb0 hi hm; exact b_Judge_hearVoice_33 ha1 ha2 hX42  hb0 (hI v4 v5 h  hb0 hi)
  exact fun v4 v5 h  hb0 hi => key _ v4 v5 h  hb0 hi (Nat.lt_succ_self _)
def B_Judge_hearVoice_3 (G : cx_T) (s : Nat) (a1 : Nat) (a2 : Nat) (a3 : Int) (v4 : Int) (h : ah_T) (Q : Option av_T → ah_T → Prop) (X3 : Int → ah_T → Prop) (X33 : Int → Int → ah_T → Prop) : Prop :=
 ((4 ≤ v4 → X33 (0) (0) h) ∧ (¬ 4 ≤ v4 → (0 ≤ v4 ∧ v4 < 4) ∧ ∀ h4 : ah_T, h4 = st_i h 145 (v4).toNat 0 → ((-2147483648) ≤ (v4 + 1) ∧ (v4 + 1) ≤ 2147483647) ∧ X3 ((v4 + 1)) h4))
theorem b_Judge_hearVoice_3 {G : cx_T} {s : Nat} {a1 : Nat} {a2 : Nat} {a3 : Int} (ha1 : isS a1) (ha2 : isV a2) {v4 : Int} {h : ah_T} {Q : Option av_T → ah_T → Prop} {X3 : Int → ah_T → Prop} {X33 : Int → Int → ah_T → Prop} (hX3 : ∀ (v4 : Int) (h : ah_T), hb s h → X3 v4 h → aw G (rm_R 4 0 0) m_Judge_hearVoice 0 0 3 [some (av_R (some 143)), some (av_R (some a1)), some (av_R (some a2)), some (av_I a3), some (av_I v4), none] [] h Q) (hX33 : ∀ (v4 : Int) (v5 : Int) (h : ah_T), hb s h → X33 v4 v5 h → aw G (rm_R 4 0 0) m_Judge_hearVoice 0 0 33 [some (av_R (some 143)), some (av_R (some a1)), some (av_R (some a2)), some (av_I a3), some (av_I v4), some (av_I v5)] [] h Q) (hb0 : hb s h) (H : B_Judge_hearVoice_3 G s a1 a2 a3 v4 h Q X3 X33) : aw G (rm_R 4 0 0) m_Judge_hearVoice 0 0 3 [some (av_R (some 143)), some (av_R (some a1)), some (av_R (some a2)), some (av_I a3), some (av_I v4), none] [] h Q := by
  unfold B_Judge_hearVoice_3 at H
  have hS : isS s := hb0.2.1
  refine A_iload d_Judge_hearVoice_3 rfl ?_
  refine A_aload_n 0 d_Judge_hearVoice_5 rfl rfl ?_
  refine A_getAv (z := some 145) T_ok d_Judge_hearVoice_6 f_Judge_15 (hb_s hb0 sf_143) (hb_r hb0 rff_143_2) ?_
  refine A_alenN d_Judge_hearVoice_9 (hb_s hb0 sf_145) (by decide) (by decide) ?_
  refine A_icmp_ge (tgt := 27) d_Judge_hearVoice_10 (by decide) (fun c => ?_) (fun c => ?_)
  · replace H := H.1 c
    refine A_iconst d_Judge_hearVoice_27 rfl ?_
    refine A_istore (L' := [some (av_R (some 143)), some (av_R (some a1)), some (av_R (some a2)), some (av_I a3), some (av_I 0), none]) d_Judge_hearVoice_28 (Nat.le_of_ble_eq_true rfl) rfl ?_
    refine A_iconst d_Judge_hearVoice_30 rfl ?_
    refine A_istore (L' := [some (av_R (some 143)), some (av_R (some a1)), some (av_R (some a2)), some (av_I a3), some (av_I 0), some (av_I 0)]) d_Judge_hearVoice_31 (Nat.le_of_ble_eq_true rfl) rfl ?_
    refine A_pc (pc' := 33) rfl ?_
    exact hX33 (0) (0) h  hb0 H
  · replace H := H.2 c
    refine A_aload_n 0 d_Judge_hearVoice_13 rfl rfl ?_
    refine A_getAv (z := some 145) T_ok d_Judge_hearVoice_14 f_Judge_15 (hb_s hb0 sf_143) (hb_r hb0 rff_143_2) ?_
    refine A_iload d_Judge_hearVoice_17 rfl ?_
    refine A_iconst d_Judge_hearVoice_19 rfl ?_
    have g3 := H.1
    replace H := H.2
    refine A_iastoreN d_Judge_hearVoice_20 (hb_s hb0 sf_145) g3.1 g3.2 ?_
    refine A_hn (fun h4 eh4 => ?_)
    have hb5 := hb_i hb0 eh4
    replace H := H h4 eh4
    refine A_pc (pc' := 21) rfl ?_
    have g6 := H.1
    replace H := H.2
    refine A_iincv (z := (v4 + 1)) (L' := [some (av_R (some 143)), some (av_R (some a1)), some (av_R (some a2)), some (av_I a3), some (av_I (v4 + 1)), none]) d_Judge_hearVoice_21 rfl (w32_to (by omega) (by unfold i32; omega)) rfl ?_
    refine A_goto (tgt := 3) d_Judge_hearVoice_24 (by decide) ?_
    refine A_pc (pc' := 3) rfl ?_
    exact hX3 ((v4 + 1)) h4  hb5 H
theorem lp_Judge_hearVoice_3 {G : cx_T} {s : Nat} {a1 : Nat} {a2 : Nat} {a3 : Int} (ha1 : isS a1) (ha2 : isV a2) {Q : Option av_T → ah_T → Prop} {X33 : Int → Int → ah_T → Prop} (hX33 : ∀ (v4 : Int) (v5 : Int) (h : ah_T), hb s h → X33 v4 v5 h → aw G (rm_R 4 0 0) m_Judge_hearVoice 0 0 33 [some (av_R (some 143)), some (av_R (some a1)), some (av_R (some a2)), some (av_I a3), some (av_I v4), some (av_I v5)] [] h Q) (I : Int → ah_T → Prop) (μ : Int → ah_T → Nat) (hI : ∀ (v4 : Int) (h : ah_T), hb s h → I v4 h → B_Judge_hearVoice_3 G s a1 a2 a3 v4 h Q (fun v4' h' => I v4' h' ∧ μ v4' h' < μ v4 h) X33) : ∀ (v4 : Int) (h : ah_T), hb s h → I v4 h → aw G (rm_R 4 0 0) m_Judge_hearVoice 0 0 3 [some (av_R (some 143)), some (av_R (some a1)), some (av_R (some a2)), some (av_I a3), some (av_I v4), none] [] h Q := by
  have key : ∀ (n : Nat) (v4 : Int) (h : ah_T), hb s h → I v4 h → μ v4 h < n → aw G (rm_R 4 0 0) m_Judge_hearVoice 0 0 3 [some (av_R (some 143)), some (av_R (some a1)), some (av_R (some a2)), some (av_I a3), some (av_I v4), none] [] h Q := by
    intro n
    induction n with
    | zero => intro v4 h  hb0 hi hm; omega
    | succ n ih => intro v4 h  hb0 hi hm; exact b_Judge_hearVoice_3 ha1 ha2 (fun v4' h'  hb' hx => ih v4' h'  hb' hx.1 (by have := hx.2; omega)) hX33  hb0 (hI v4 h  hb0 hi)
  exact fun v4 h  hb0 hi => key _ v4 h  hb0 hi (Nat.lt_succ_self _)
def B_Judge_hearVoice_0 (G : cx_T) (s : Nat) (a1 : Nat) (a2 : Nat) (a3 : Int) (h : ah_T) (Q : Option av_T → ah_T → Prop) (X3 : Int → ah_T → Prop) : Prop :=
 X3 (0) h
theorem b_Judge_hearVoice_0 {G : cx_T} {s : Nat} {a1 : Nat} {a2 : Nat} {a3 : Int} (ha1 : isS a1) (ha2 : isV a2) {h : ah_T} {Q : Option av_T → ah_T → Prop} {X3 : Int → ah_T → Prop} (hX3 : ∀ (v4 : Int) (h : ah_T), hb s h → X3 v4 h → aw G (rm_R 4 0 0) m_Judge_hearVoice 0 0 3 [some (av_R (some 143)), some (av_R (some a1)), some (av_R (some a2)), some (av_I a3), some (av_I v4), none] [] h Q) (hb0 : hb s h) (H : B_Judge_hearVoice_0 G s a1 a2 a3 h Q X3) : aw G (rm_R 4 0 0) m_Judge_hearVoice 0 0 0 [some (av_R (some 143)), some (av_R (some a1)), some (av_R (some a2)), some (av_I a3), none, none] [] h Q := by
  unfold B_Judge_hearVoice_0 at H
  have hS : isS s := hb0.2.1
  refine A_iconst d_Judge_hearVoice_0 rfl ?_
  refine A_istore (L' := [some (av_R (some 143)), some (av_R (some a1)), some (av_R (some a2)), some (av_I a3), some (av_I 0), none]) d_Judge_hearVoice_1 (Nat.le_of_ble_eq_true rfl) rfl ?_
  refine A_pc (pc' := 3) rfl ?_
  exact hX3 (0) h  hb0 H
theorem c_Judge_hearVoice {G : cx_T} {s : Nat} {a1 : Nat} {a2 : Nat} {a3 : Int} (ha1 : isS a1) (ha2 : isV a2) {h : ah_T} {Q : Option av_T → ah_T → Prop} {X3 : Int → ah_T → Prop} (hX3 : ∀ (v4 : Int) (h : ah_T), hb s h → X3 v4 h → aw G (rm_R 4 0 0) m_Judge_hearVoice 0 0 3 [some (av_R (some 143)), some (av_R (some a1)), some (av_R (some a2)), some (av_I a3), some (av_I v4), none] [] h Q) (hb0 : hb s h) (H : i32 a3 → B_Judge_hearVoice_0 G s a1 a2 a3 h Q X3) : con G 4 0 0 m_Judge_hearVoice [av_R (some 143), av_R (some a1), av_R (some a2), av_I a3] h Q := by
  have hS : isS s := hb0.2.1
  refine con_of (L := [some (av_R (some 143)), some (av_R (some a1)), some (av_R (some a2)), some (av_I a3), none, none]) (by decide +kernel) (Nat.le_of_ble_eq_true rfl) rfl ?_
  refine A_locI 3 rfl (fun ra3 => ?_)
  exact b_Judge_hearVoice_0 ha1 ha2 hX3 hb0 (H ra3)
def B_Judge_hear_32 (G : cx_T) (s : Nat) (a1 : Nat) (v2 : Int) (h : ah_T) (Q : Option av_T → ah_T → Prop) (X7 : Int → ah_T → Prop) : Prop :=
 ((-2147483648) ≤ (v2 + 1) ∧ (v2 + 1) ≤ 2147483647) ∧ X7 ((v2 + 1)) h
theorem b_Judge_hear_32 {G : cx_T} {s : Nat} {a1 : Nat} (ha1 : isS a1) {v2 : Int} {h : ah_T} {Q : Option av_T → ah_T → Prop} {X7 : Int → ah_T → Prop} (hX7 : ∀ (v2 : Int) (h : ah_T), hb s h → X7 v2 h → aw G (rm_R 5 0 0) m_Judge_hear 0 0 7 [some (av_R (some 143)), some (av_R (some a1)), some (av_I v2), none] [] h Q) (hb0 : hb s h) (H : B_Judge_hear_32 G s a1 v2 h Q X7) : aw G (rm_R 5 0 0) m_Judge_hear 0 0 32 [some (av_R (some 143)), some (av_R (some a1)), some (av_I v2), none] [] h Q := by
  unfold B_Judge_hear_32 at H
  have hS : isS s := hb0.2.1
  have g1 := H.1
  replace H := H.2
  refine A_iincv (z := (v2 + 1)) (L' := [some (av_R (some 143)), some (av_R (some a1)), some (av_I (v2 + 1)), none]) d_Judge_hear_32 rfl (w32_to (by omega) (by unfold i32; omega)) rfl ?_
  refine A_goto (tgt := 7) d_Judge_hear_35 (by decide) ?_
  refine A_pc (pc' := 7) rfl ?_
  exact hX7 ((v2 + 1)) h  hb0 H
def B_Judge_hear_7 (G : cx_T) (s : Nat) (a1 : Nat) (v2 : Int) (h : ah_T) (Q : Option av_T → ah_T → Prop) (X7 : Int → ah_T → Prop) : Prop :=
 ∀ x1 : Int, x1 = h.2.1 a1 1 → -2147483648 ≤ x1 → x1 ≤ 2147483647 → ((x1 ≤ v2 → ∀ x2 : Int, x2 = h.2.1 143 1 → -2147483648 ≤ x2 → x2 ≤ 2147483647 → Q (some (av_I x2)) h) ∧ (¬ x1 ≤ v2 → con G 0 0 0 m_Score_voiceAt [av_R (some a1), av_I v2] h (fun r h3 => ∃ oz5 : Option Nat, r = some (av_R oz5) ∧ hb s h3 ∧ ((oz5 = none ∧ B_Judge_hear_32 G s a1 (v2) h3 Q X7) ∨ ∃ z5 : Nat, oz5 = some z5 ∧ isV z5 ∧ con G 4 0 0 m_Judge_hearVoice [av_R (some 143), av_R (some a1), av_R (some z5), av_I v2] h3 (fun r h6 => r = none ∧ hb s h6 ∧ B_Judge_hear_32 G s a1 (v2) h6 Q X7)))))
theorem b_Judge_hear_7 {G : cx_T} {s : Nat} {a1 : Nat} (ha1 : isS a1) {v2 : Int} {h : ah_T} {Q : Option av_T → ah_T → Prop} {X7 : Int → ah_T → Prop} (hX7 : ∀ (v2 : Int) (h : ah_T), hb s h → X7 v2 h → aw G (rm_R 5 0 0) m_Judge_hear 0 0 7 [some (av_R (some 143)), some (av_R (some a1)), some (av_I v2), none] [] h Q) (hb0 : hb s h) (H : B_Judge_hear_7 G s a1 v2 h Q X7) : aw G (rm_R 5 0 0) m_Judge_hear 0 0 7 [some (av_R (some 143)), some (av_R (some a1)), some (av_I v2), none] [] h Q := by
  unfold B_Judge_hear_7 at H
  have hS : isS s := hb0.2.1
  refine A_iload_n 2 d_Judge_hear_7 rfl rfl ?_
  refine A_aload_n 1 d_Judge_hear_8 rfl rfl ?_
  refine A_getIf T_ok d_Judge_hear_9 f_Judge_22 (hs_S hb0 ha1) (fun x1 ex1 lx1 ux1 => ?_)
  replace H := H x1 ex1 lx1 ux1
  refine A_icmp_ge (tgt := 38) d_Judge_hear_12 (by decide) (fun c => ?_) (fun c => ?_)
  · replace H := H.1 c
    refine A_aload_n 0 d_Judge_hear_38 rfl rfl ?_
    refine A_getIf T_ok d_Judge_hear_39 f_Judge_18 (hb_s hb0 sf_143) (fun x2 ex2 lx2 ux2 => ?_)
    replace H := H x2 ex2 lx2 ux2
    exact A_iret d_Judge_hear_42 (by decide) rfl H
  · replace H := H.2 c
    refine A_aload_n 1 d_Judge_hear_15 rfl rfl ?_
    refine A_iload_n 2 d_Judge_hear_16 rfl rfl ?_
    refine A_callV1 m_Score_voiceAt T_ok d_Judge_hear_17 l_Judge_27 k_Score_voiceAt (hs_S hb0 ha1) rfl (by decide +kernel) (by decide) (Nat.le_of_ble_eq_true rfl) H (fun r h3 hq => ?_)
    clear H
    obtain ⟨oz5, rfl, hb4, H⟩ := hq
    rcases H with ⟨H1, H⟩ | ⟨z5, H1, tz5, H⟩
    · subst H1
      refine A_astore_n 3 (L' := [some (av_R (some 143)), some (av_R (some a1)), some (av_I v2), some (av_R none)]) d_Judge_hear_20 rfl (Nat.le_of_ble_eq_true rfl) rfl ?_
      refine A_aload_n 3 d_Judge_hear_21 rfl rfl ?_
      refine A_ifnull (tgt := 32) d_Judge_hear_22 (by decide) (fun _ => ?_) (fun a q => by cases q)
      refine A_pc (pc' := 32) rfl ?_
      refine A_free (L' := [some (av_R (some 143)), some (av_R (some a1)), some (av_I v2), none]) (And.intro rfl (And.intro rfl (And.intro rfl trivial))) ?_
      exact b_Judge_hear_32 ha1 hX7  hb4 H
    · subst H1
      refine A_astore_n 3 (L' := [some (av_R (some 143)), some (av_R (some a1)), some (av_I v2), some (av_R (some z5))]) d_Judge_hear_20 rfl (Nat.le_of_ble_eq_true rfl) rfl ?_
      refine A_aload_n 3 d_Judge_hear_21 rfl rfl ?_
      refine A_ifnull (tgt := 32) d_Judge_hear_22 (by decide) (fun q => by cases q) (fun _ _ => ?_)
      refine A_aload_n 0 d_Judge_hear_25 rfl rfl ?_
      refine A_aload_n 1 d_Judge_hear_26 rfl rfl ?_
      refine A_aload_n 3 d_Judge_hear_27 rfl rfl ?_
      refine A_iload_n 2 d_Judge_hear_28 rfl rfl ?_
      refine A_callV3 m_Judge_hearVoice T_ok d_Judge_hear_29 l_Judge_31 k_Judge_hearVoice (hb_s hb4 sf_143) rfl (by decide +kernel) (by decide) (Nat.le_of_ble_eq_true rfl) H (fun r h6 hq => ?_)
      clear H
      obtain ⟨rfl, hb7, H⟩ := hq
      refine A_pc (pc' := 32) rfl ?_
      refine A_free (L' := [some (av_R (some 143)), some (av_R (some a1)), some (av_I v2), none]) (And.intro rfl (And.intro rfl (And.intro rfl trivial))) ?_
      exact b_Judge_hear_32 ha1 hX7  hb7 H
theorem lp_Judge_hear_7 {G : cx_T} {s : Nat} {a1 : Nat} (ha1 : isS a1) {Q : Option av_T → ah_T → Prop} (I : Int → ah_T → Prop) (μ : Int → ah_T → Nat) (hI : ∀ (v2 : Int) (h : ah_T), hb s h → I v2 h → B_Judge_hear_7 G s a1 v2 h Q (fun v2' h' => I v2' h' ∧ μ v2' h' < μ v2 h)) : ∀ (v2 : Int) (h : ah_T), hb s h → I v2 h → aw G (rm_R 5 0 0) m_Judge_hear 0 0 7 [some (av_R (some 143)), some (av_R (some a1)), some (av_I v2), none] [] h Q := by
  have key : ∀ (n : Nat) (v2 : Int) (h : ah_T), hb s h → I v2 h → μ v2 h < n → aw G (rm_R 5 0 0) m_Judge_hear 0 0 7 [some (av_R (some 143)), some (av_R (some a1)), some (av_I v2), none] [] h Q := by
    intro n
    induction n with
    | zero => intro v2 h  hb0 hi hm; omega
    | succ n ih => intro v2 h  hb0 hi hm; exact b_Judge_hear_7 ha1 (fun v2' h'  hb' hx => ih v2' h'  hb' hx.1 (by have := hx.2; omega))  hb0 (hI v2 h  hb0 hi)
  exact fun v2 h  hb0 hi => key _ v2 h  hb0 hi (Nat.lt_succ_self _)
def B_Judge_hear_0 (G : cx_T) (s : Nat) (a1 : Nat) (h : ah_T) (Q : Option av_T → ah_T → Prop) (X7 : Int → ah_T → Prop) : Prop :=
 ∀ h1 : ah_T, h1 = st_i h 143 1 0 → X7 (0) h1
theorem b_Judge_hear_0 {G : cx_T} {s : Nat} {a1 : Nat} (ha1 : isS a1) {h : ah_T} {Q : Option av_T → ah_T → Prop} {X7 : Int → ah_T → Prop} (hX7 : ∀ (v2 : Int) (h : ah_T), hb s h → X7 v2 h → aw G (rm_R 5 0 0) m_Judge_hear 0 0 7 [some (av_R (some 143)), some (av_R (some a1)), some (av_I v2), none] [] h Q) (hb0 : hb s h) (H : B_Judge_hear_0 G s a1 h Q X7) : aw G (rm_R 5 0 0) m_Judge_hear 0 0 0 [some (av_R (some 143)), some (av_R (some a1)), none, none] [] h Q := by
  unfold B_Judge_hear_0 at H
  have hS : isS s := hb0.2.1
  refine A_aload_n 0 d_Judge_hear_0 rfl rfl ?_
  refine A_iconst d_Judge_hear_1 rfl ?_
  refine A_putI T_ok d_Judge_hear_2 f_Judge_18 (hb_s hb0 sf_143) fin_f ?_
  refine A_hn (fun h1 eh1 => ?_)
  have hb2 := hb_i hb0 eh1
  replace H := H h1 eh1
  refine A_iconst d_Judge_hear_5 rfl ?_
  refine A_istore_n 2 (L' := [some (av_R (some 143)), some (av_R (some a1)), some (av_I 0), none]) d_Judge_hear_6 rfl (Nat.le_of_ble_eq_true rfl) rfl ?_
  refine A_pc (pc' := 7) rfl ?_
  exact hX7 (0) h1  hb2 H
theorem c_Judge_hear {G : cx_T} {s : Nat} {a1 : Nat} (ha1 : isS a1) {h : ah_T} {Q : Option av_T → ah_T → Prop} {X7 : Int → ah_T → Prop} (hX7 : ∀ (v2 : Int) (h : ah_T), hb s h → X7 v2 h → aw G (rm_R 5 0 0) m_Judge_hear 0 0 7 [some (av_R (some 143)), some (av_R (some a1)), some (av_I v2), none] [] h Q) (hb0 : hb s h) (H : B_Judge_hear_0 G s a1 h Q X7) : con G 5 0 0 m_Judge_hear [av_R (some 143), av_R (some a1)] h Q := by
  have hS : isS s := hb0.2.1
  refine con_of (L := [some (av_R (some 143)), some (av_R (some a1)), none, none]) (by decide +kernel) (Nat.le_of_ble_eq_true rfl) rfl ?_
  exact b_Judge_hear_0 ha1 hX7 hb0 (H )
def B_Judge_detailOf_21 (G : cx_T) (s : Nat) (a1 : Int) (a2 : Int) (h : ah_T) (Q : Option av_T → ah_T → Prop) : Prop :=
 Q (some (av_I (-1))) h
theorem b_Judge_detailOf_21 {G : cx_T} {s : Nat} {a1 : Int} {a2 : Int} {h : ah_T} {Q : Option av_T → ah_T → Prop} (hb0 : hb s h) (H : B_Judge_detailOf_21 G s a1 a2 h Q ) : aw G (rm_R 0 0 0) m_Judge_detailOf 0 0 21 [none, none, none, none] [] h Q := by
  unfold B_Judge_detailOf_21 at H
  have hS : isS s := hb0.2.1
  refine A_iconst d_Judge_detailOf_21 rfl ?_
  exact A_iret d_Judge_detailOf_22 (by decide) rfl H
def B_Judge_detailOf_0 (G : cx_T) (s : Nat) (a1 : Int) (a2 : Int) (h : ah_T) (Q : Option av_T → ah_T → Prop) : Prop :=
 ((a1 < 0 → B_Judge_detailOf_21 G s a1 a2 h Q ) ∧ (¬ a1 < 0 → ∀ x1 : Int, x1 = h.2.1 143 1 → -2147483648 ≤ x1 → x1 ≤ 2147483647 → ((x1 ≤ a1 → B_Judge_detailOf_21 G s a1 a2 h Q ) ∧ (¬ x1 ≤ a1 → ((a1 < 6404 → (0 ≤ a1 ∧ a1 < 6404) ∧ ∀ x4 : Int, x4 = h.2.1 144 (a1).toNat → -2147483648 ≤ x4 → x4 ≤ 2147483647 → ((a2 = 0 → ∀ x6 : Int, x6 = ((Int32.ofInt x4) &&& (Int32.ofInt 7)).toInt → (-2147483648) ≤ x6 → x6 ≤ 2147483647 → Q (some (av_I x6)) h) ∧ (a2 = 1 → ∀ x7 : Int, x7 = ((Int32.ofInt x4) >>> (Int32.ofInt 3 &&& 31)).toInt → (-2147483648) ≤ x7 → x7 ≤ 2147483647 → ∀ x8 : Int, x8 = ((Int32.ofInt x7) &&& (Int32.ofInt 3)).toInt → (-2147483648) ≤ x8 → x8 ≤ 2147483647 → Q (some (av_I x8)) h) ∧ (a2 = 2 → ∀ x9 : Int, x9 = ((Int32.ofInt x4) >>> (Int32.ofInt 5 &&& 31)).toInt → (-2147483648) ≤ x9 → x9 ≤ 2147483647 → ∀ x10 : Int, x10 = ((Int32.ofInt x9) &&& (Int32.ofInt 511)).toInt → (-2147483648) ≤ x10 → x10 ≤ 2147483647 → Q (some (av_I x10)) h) ∧ (a2 = 3 → ∀ x11 : Int, x11 = ((Int32.ofInt x4) >>> (Int32.ofInt 14 &&& 31)).toInt → (-2147483648) ≤ x11 → x11 ≤ 2147483647 → Q (some (av_I x11)) h) ∧ ((a2 < 0 ∨ 3 < a2) → Q (some (av_I (-1))) h))) ∧ (¬ a1 < 6404 → B_Judge_detailOf_21 G s a1 a2 h Q ))))))
theorem b_Judge_detailOf_0 {G : cx_T} {s : Nat} {a1 : Int} {a2 : Int} {h : ah_T} {Q : Option av_T → ah_T → Prop} (hb0 : hb s h) (H : B_Judge_detailOf_0 G s a1 a2 h Q ) : aw G (rm_R 0 0 0) m_Judge_detailOf 0 0 0 [some (av_R (some 143)), some (av_I a1), some (av_I a2), none] [] h Q := by
  unfold B_Judge_detailOf_0 at H
  have hS : isS s := hb0.2.1
  refine A_iload_n 1 d_Judge_detailOf_0 rfl rfl ?_
  refine A_if_lt (tgt := 21) d_Judge_detailOf_1 (by decide) (fun c => ?_) (fun c => ?_)
  · replace H := H.1 c
    refine A_pc (pc' := 21) rfl ?_
    refine A_free (L' := [none, none, none, none]) trivial ?_
    exact b_Judge_detailOf_21    hb0 H
  · replace H := H.2 c
    refine A_iload_n 1 d_Judge_detailOf_4 rfl rfl ?_
    refine A_aload_n 0 d_Judge_detailOf_5 rfl rfl ?_
    refine A_getIf T_ok d_Judge_detailOf_6 f_Judge_18 (hb_s hb0 sf_143) (fun x1 ex1 lx1 ux1 => ?_)
    replace H := H x1 ex1 lx1 ux1
    refine A_icmp_ge (tgt := 21) d_Judge_detailOf_9 (by decide) (fun c => ?_) (fun c => ?_)
    · replace H := H.1 c
      refine A_pc (pc' := 21) rfl ?_
      refine A_free (L' := [none, none, none, none]) trivial ?_
      exact b_Judge_detailOf_21    hb0 H
    · replace H := H.2 c
      refine A_iload_n 1 d_Judge_detailOf_12 rfl rfl ?_
      refine A_aload_n 0 d_Judge_detailOf_13 rfl rfl ?_
      refine A_getAv (z := some 144) T_ok d_Judge_detailOf_14 f_Judge_11 (hb_s hb0 sf_143) (hb_r hb0 rff_143_0) ?_
      refine A_alenN d_Judge_detailOf_17 (hb_s hb0 sf_144) (by decide) (by decide) ?_
      refine A_icmp_lt (tgt := 23) d_Judge_detailOf_18 (by decide) (fun c => ?_) (fun c => ?_)
      · replace H := H.1 c
        refine A_aload_n 0 d_Judge_detailOf_23 rfl rfl ?_
        refine A_getAv (z := some 144) T_ok d_Judge_detailOf_24 f_Judge_11 (hb_s hb0 sf_143) (hb_r hb0 rff_143_0) ?_
        refine A_iload_n 1 d_Judge_detailOf_27 rfl rfl ?_
        have g5 := H.1
        replace H := H.2
        refine A_ialoadf d_Judge_detailOf_28 (hb_s hb0 sf_144) g5.1 g5.2 (fun x4 ex4 lx4 ux4 => ?_)
        replace H := H x4 ex4 lx4 ux4
        refine A_istore_n 3 (L' := [some (av_R (some 143)), some (av_I a1), some (av_I a2), some (av_I x4)]) d_Judge_detailOf_29 rfl (Nat.le_of_ble_eq_true rfl) rfl ?_
        refine A_pc (pc' := 30) rfl ?_
        refine A_iload_n 2 d_Judge_detailOf_30 rfl rfl ?_
        rcases (by omega : a2 = 0 ∨ a2 = 1 ∨ a2 = 2 ∨ a2 = 3 ∨ (a2 < 0 ∨ 3 < a2)) with c | c | c | c | c
        · replace H := H.1 c
          refine A_tabIn (tgt := 60) d_Judge_detailOf_31 (by omega) (by omega) (by rw [c]; rfl) (by decide) ?_
          refine A_iload_n 3 d_Judge_detailOf_60 rfl rfl ?_
          refine A_bipush d_Judge_detailOf_61 rfl ?_
          refine A_iand d_Judge_detailOf_63 ?_
          refine A_nrI (fun x6 ex6 lx6 ux6 => ?_)
          replace H := H x6 ex6 lx6 ux6
          exact A_iret d_Judge_detailOf_64 (by decide) rfl H
        · replace H := H.2.1 c
          refine A_tabIn (tgt := 65) d_Judge_detailOf_31 (by omega) (by omega) (by rw [c]; rfl) (by decide) ?_
          refine A_iload_n 3 d_Judge_detailOf_65 rfl rfl ?_
          refine A_iconst d_Judge_detailOf_66 rfl ?_
          refine A_ishr d_Judge_detailOf_67 ?_
          refine A_nrI (fun x7 ex7 lx7 ux7 => ?_)
          replace H := H x7 ex7 lx7 ux7
          refine A_iconst d_Judge_detailOf_68 rfl ?_
          refine A_iand d_Judge_detailOf_69 ?_
          refine A_nrI (fun x8 ex8 lx8 ux8 => ?_)
          replace H := H x8 ex8 lx8 ux8
          refine A_pc (pc' := 70) rfl ?_
          exact A_iret d_Judge_detailOf_70 (by decide) rfl H
        · replace H := H.2.2.1 c
          refine A_tabIn (tgt := 71) d_Judge_detailOf_31 (by omega) (by omega) (by rw [c]; rfl) (by decide) ?_
          refine A_iload_n 3 d_Judge_detailOf_71 rfl rfl ?_
          refine A_iconst d_Judge_detailOf_72 rfl ?_
          refine A_ishr d_Judge_detailOf_73 ?_
          refine A_nrI (fun x9 ex9 lx9 ux9 => ?_)
          replace H := H x9 ex9 lx9 ux9
          refine A_sipush d_Judge_detailOf_74 rfl ?_
          refine A_iand d_Judge_detailOf_77 ?_
          refine A_nrI (fun x10 ex10 lx10 ux10 => ?_)
          replace H := H x10 ex10 lx10 ux10
          refine A_pc (pc' := 78) rfl ?_
          exact A_iret d_Judge_detailOf_78 (by decide) rfl H
        · replace H := H.2.2.2.1 c
          refine A_tabIn (tgt := 79) d_Judge_detailOf_31 (by omega) (by omega) (by rw [c]; rfl) (by decide) ?_
          refine A_iload_n 3 d_Judge_detailOf_79 rfl rfl ?_
          refine A_bipush d_Judge_detailOf_80 rfl ?_
          refine A_ishr d_Judge_detailOf_82 ?_
          refine A_nrI (fun x11 ex11 lx11 ux11 => ?_)
          replace H := H x11 ex11 lx11 ux11
          exact A_iret d_Judge_detailOf_83 (by decide) rfl H
        · replace H := H.2.2.2.2 c
          refine A_tabOut (tgt := 84) d_Judge_detailOf_31 (by omega) (by decide) ?_
          refine A_iconst d_Judge_detailOf_84 rfl ?_
          exact A_iret d_Judge_detailOf_85 (by decide) rfl H
      · replace H := H.2 c
        refine A_pc (pc' := 21) rfl ?_
        refine A_free (L' := [none, none, none, none]) trivial ?_
        exact b_Judge_detailOf_21    hb0 H
theorem c_Judge_detailOf {G : cx_T} {s : Nat} {a1 : Int} {a2 : Int} {h : ah_T} {Q : Option av_T → ah_T → Prop} (hb0 : hb s h) (H : i32 a1 → i32 a2 → B_Judge_detailOf_0 G s a1 a2 h Q ) : con G 0 0 0 m_Judge_detailOf [av_R (some 143), av_I a1, av_I a2] h Q := by
  have hS : isS s := hb0.2.1
  refine con_of (L := [some (av_R (some 143)), some (av_I a1), some (av_I a2), none]) (by decide +kernel) (Nat.le_of_ble_eq_true rfl) rfl ?_
  refine A_locI 1 rfl (fun ra1 => ?_)
  refine A_locI 2 rfl (fun ra2 => ?_)
  exact b_Judge_detailOf_0   hb0 (H ra1 ra2)
def B_PM_judge_0 (G : cx_T) (s : Nat) (h : ah_T) (Q : Option av_T → ah_T → Prop) : Prop :=
 con G 5 0 0 m_Judge_hear [av_R (some 143), av_R (some (97 - s))] h (fun r h3 => ∃ z5 : Int, r = some (av_I z5) ∧ hb s h3 ∧ Q (some (av_I z5)) h3)
theorem b_PM_judge_0 {G : cx_T} {s : Nat} {h : ah_T} {Q : Option av_T → ah_T → Prop} (hb0 : hb s h) (H : B_PM_judge_0 G s h Q ) : aw G (rm_R 6 0 0) m_PM_judge 0 0 0 [some (av_R (some 0))] [] h Q := by
  unfold B_PM_judge_0 at H
  have hS : isS s := hb0.2.1
  refine A_aload_n 0 d_PM_judge_0 rfl rfl ?_
  refine A_getOv (z := some 143) T_ok d_PM_judge_1 f_PM_37 (hb_s hb0 sf_0) (hb_r hb0 rff_0_5) ?_
  refine A_aload_n 0 d_PM_judge_4 rfl rfl ?_
  refine A_getOv (z := some (97 - s)) T_ok d_PM_judge_5 f_PM_27 (hb_s hb0 sf_0) hb0.2.2.1 ?_
  refine A_callV1 m_Judge_hear T_ok d_PM_judge_8 l_PM_157 k_Judge_hear (hb_s hb0 sf_143) rfl (by decide +kernel) (by decide) (Nat.le_of_ble_eq_true rfl) H (fun r h3 hq => ?_)
  clear H
  obtain ⟨z5, rfl, hb4, H⟩ := hq
  exact A_iret d_PM_judge_11 (by decide) rfl H
theorem c_PM_judge {G : cx_T} {s : Nat} {h : ah_T} {Q : Option av_T → ah_T → Prop} (hb0 : hb s h) (H : B_PM_judge_0 G s h Q ) : con G 6 0 0 m_PM_judge [av_R (some 0)] h Q := by
  have hS : isS s := hb0.2.1
  refine con_of (L := [some (av_R (some 0))]) (by decide +kernel) (Nat.le_of_ble_eq_true rfl) rfl ?_
  exact b_PM_judge_0   hb0 (H )
def B_PM_fault_0 (G : cx_T) (s : Nat) (a1 : Int) (a2 : Int) (h : ah_T) (Q : Option av_T → ah_T → Prop) : Prop :=
 con G 0 0 0 m_Judge_detailOf [av_R (some 143), av_I a1, av_I a2] h (fun r h2 => ∃ z4 : Int, r = some (av_I z4) ∧ hb s h2 ∧ Q (some (av_I z4)) h2)
theorem b_PM_fault_0 {G : cx_T} {s : Nat} {a1 : Int} {a2 : Int} {h : ah_T} {Q : Option av_T → ah_T → Prop} (hb0 : hb s h) (H : B_PM_fault_0 G s a1 a2 h Q ) : aw G (rm_R 1 0 0) m_PM_fault 0 0 0 [some (av_R (some 0)), some (av_I a1), some (av_I a2)] [] h Q := by
  unfold B_PM_fault_0 at H
  have hS : isS s := hb0.2.1
  refine A_aload_n 0 d_PM_fault_0 rfl rfl ?_
  refine A_getOv (z := some 143) T_ok d_PM_fault_1 f_PM_37 (hb_s hb0 sf_0) (hb_r hb0 rff_0_5) ?_
  refine A_iload_n 1 d_PM_fault_4 rfl rfl ?_
  refine A_iload_n 2 d_PM_fault_5 rfl rfl ?_
  refine A_callV2 m_Judge_detailOf T_ok d_PM_fault_6 l_PM_161 k_Judge_detailOf (hb_s hb0 sf_143) rfl (by decide +kernel) (by decide) (Nat.le_of_ble_eq_true rfl) H (fun r h2 hq => ?_)
  clear H
  obtain ⟨z4, rfl, hb3, H⟩ := hq
  exact A_iret d_PM_fault_9 (by decide) rfl H
theorem c_PM_fault {G : cx_T} {s : Nat} {a1 : Int} {a2 : Int} {h : ah_T} {Q : Option av_T → ah_T → Prop} (hb0 : hb s h) (H : i32 a1 → i32 a2 → B_PM_fault_0 G s a1 a2 h Q ) : con G 1 0 0 m_PM_fault [av_R (some 0), av_I a1, av_I a2] h Q := by
  have hS : isS s := hb0.2.1
  refine con_of (L := [some (av_R (some 0)), some (av_I a1), some (av_I a2)]) (by decide +kernel) (Nat.le_of_ble_eq_true rfl) rfl ?_
  refine A_locI 1 rfl (fun ra1 => ?_)
  refine A_locI 2 rfl (fun ra2 => ?_)
  exact b_PM_fault_0   hb0 (H ra1 ra2)
