/-! ===== verification conditions, 5191 ===== -/
def B_Trees_slot_0 (G : cx_T) (s : Nat) (a0 : Int) (a1 : Int) (a2 : Int) (h : ah_T) (Q : Option av_T → ah_T → Prop) : Prop :=
 ((-2147483648) ≤ (13 * a0) ∧ (13 * a0) ≤ 2147483647) ∧ ((-2147483648) ≤ (13 * a0 + a1) ∧ (13 * a0 + a1) ≤ 2147483647) ∧ ((-2147483648) ≤ (169 * a0 + 13 * a1) ∧ (169 * a0 + 13 * a1) ≤ 2147483647) ∧ ((-2147483648) ≤ (169 * a0 + 13 * a1 + a2) ∧ (169 * a0 + 13 * a1 + a2) ≤ 2147483647) ∧ Q (some (av_I (169 * a0 + 13 * a1 + a2))) h
theorem b_Trees_slot_0 {G : cx_T} {s : Nat} {a0 : Int} {a1 : Int} {a2 : Int} {h : ah_T} {Q : Option av_T → ah_T → Prop} (hb0 : hb s h) (H : B_Trees_slot_0 G s a0 a1 a2 h Q ) : aw G (rm_R 0 0 0) m_Trees_slot 0 0 0 [some (av_I a0), some (av_I a1), some (av_I a2)] [] h Q := by
  unfold B_Trees_slot_0 at H
  have hS : isS s := hb0.2.1
  refine A_iload_n 0 d_Trees_slot_0 rfl rfl ?_
  refine A_bipush d_Trees_slot_1 rfl ?_
  have g1 := H.1
  replace H := H.2
  refine A_imulv (z := (13 * a0)) d_Trees_slot_3 (w32_to (by omega) (by unfold i32; omega)) ?_
  refine A_iload_n 1 d_Trees_slot_4 rfl rfl ?_
  have g2 := H.1
  replace H := H.2
  refine A_iaddv (z := (13 * a0 + a1)) d_Trees_slot_5 (w32_to (by omega) (by unfold i32; omega)) ?_
  refine A_pc (pc' := 6) rfl ?_
  refine A_bipush d_Trees_slot_6 rfl ?_
  have g3 := H.1
  replace H := H.2
  refine A_imulv (z := (169 * a0 + 13 * a1)) d_Trees_slot_8 (w32_to (by omega) (by unfold i32; omega)) ?_
  refine A_iload_n 2 d_Trees_slot_9 rfl rfl ?_
  have g4 := H.1
  replace H := H.2
  refine A_iaddv (z := (169 * a0 + 13 * a1 + a2)) d_Trees_slot_10 (w32_to (by omega) (by unfold i32; omega)) ?_
  exact A_iret d_Trees_slot_11 (by decide) rfl H
theorem c_Trees_slot {G : cx_T} {s : Nat} {a0 : Int} {a1 : Int} {a2 : Int} {h : ah_T} {Q : Option av_T → ah_T → Prop} (hb0 : hb s h) (H : i32 a0 → i32 a1 → i32 a2 → B_Trees_slot_0 G s a0 a1 a2 h Q ) : con G 0 0 0 m_Trees_slot [av_I a0, av_I a1, av_I a2] h Q := by
  have hS : isS s := hb0.2.1
  refine con_of (L := [some (av_I a0), some (av_I a1), some (av_I a2)]) (by decide +kernel) (Nat.le_of_ble_eq_true rfl) rfl ?_
  refine A_locI 0 rfl (fun ra0 => ?_)
  refine A_locI 1 rfl (fun ra1 => ?_)
  refine A_locI 2 rfl (fun ra2 => ?_)
  exact b_Trees_slot_0   hb0 (H ra0 ra1 ra2)
def B_Trees_treesOf_34 (G : cx_T) (s : Nat) (a1 : Int) (a2 : Int) (a3 : Int) (t0 : Int) (h : ah_T) (Q : Option av_T → ah_T → Prop) : Prop :=
 Q (some (av_I t0)) h
theorem b_Trees_treesOf_34 {G : cx_T} {s : Nat} {a1 : Int} {a2 : Int} {a3 : Int} {t0 : Int} {h : ah_T} {Q : Option av_T → ah_T → Prop} (hb0 : hb s h) (H : B_Trees_treesOf_34 G s a1 a2 a3 t0 h Q ) : aw G (rm_R 1 0 0) m_Trees_treesOf 0 0 34 [none, none, none, none, none] [av_I t0] h Q := by
  unfold B_Trees_treesOf_34 at H
  have hS : isS s := hb0.2.1
  exact A_iret d_Trees_treesOf_34 (by decide) rfl H
def B_Trees_treesOf_33 (G : cx_T) (s : Nat) (a1 : Int) (a2 : Int) (a3 : Int) (h : ah_T) (Q : Option av_T → ah_T → Prop) : Prop :=
 B_Trees_treesOf_34 G s a1 a2 a3 (0) h Q 
theorem b_Trees_treesOf_33 {G : cx_T} {s : Nat} {a1 : Int} {a2 : Int} {a3 : Int} {h : ah_T} {Q : Option av_T → ah_T → Prop} (hb0 : hb s h) (H : B_Trees_treesOf_33 G s a1 a2 a3 h Q ) : aw G (rm_R 1 0 0) m_Trees_treesOf 0 0 33 [none, none, none, none, none] [] h Q := by
  unfold B_Trees_treesOf_33 at H
  have hS : isS s := hb0.2.1
  refine A_iconst d_Trees_treesOf_33 rfl ?_
  refine A_pc (pc' := 34) rfl ?_
  exact b_Trees_treesOf_34    hb0 H
def B_Trees_treesOf_0 (G : cx_T) (s : Nat) (a1 : Int) (a2 : Int) (a3 : Int) (h : ah_T) (Q : Option av_T → ah_T → Prop) : Prop :=
 con G 0 0 0 m_Trees_slot [av_I a1, av_I a2, av_I a3] h (fun r h1 => ∃ z3 : Int, r = some (av_I z3) ∧ hb s h1 ∧ ((z3 < 0 → B_Trees_treesOf_33 G s a1 a2 a3 h1 Q ) ∧ (¬ z3 < 0 → ((2704 ≤ z3 → B_Trees_treesOf_33 G s a1 a2 a3 h1 Q ) ∧ (¬ 2704 ≤ z3 → (0 ≤ z3 ∧ z3 < 2704) ∧ ∀ x6 : Int, x6 = h1.2.1 163 (z3).toNat → -2147483648 ≤ x6 → x6 ≤ 2147483647 → B_Trees_treesOf_34 G s a1 a2 a3 (x6) h1 Q )))))
theorem b_Trees_treesOf_0 {G : cx_T} {s : Nat} {a1 : Int} {a2 : Int} {a3 : Int} {h : ah_T} {Q : Option av_T → ah_T → Prop} (hb0 : hb s h) (H : B_Trees_treesOf_0 G s a1 a2 a3 h Q ) : aw G (rm_R 1 0 0) m_Trees_treesOf 0 0 0 [some (av_R (some 162)), some (av_I a1), some (av_I a2), some (av_I a3), none] [] h Q := by
  unfold B_Trees_treesOf_0 at H
  have hS : isS s := hb0.2.1
  refine A_iload_n 1 d_Trees_treesOf_0 rfl rfl ?_
  refine A_iload_n 2 d_Trees_treesOf_1 rfl rfl ?_
  refine A_iload_n 3 d_Trees_treesOf_2 rfl rfl ?_
  refine A_callS3 m_Trees_slot d_Trees_treesOf_3 l_Trees_19 k_Trees_slot (by decide +kernel) (by decide) (Nat.le_of_ble_eq_true rfl) H (fun r h1 hq => ?_)
  clear H
  obtain ⟨z3, rfl, hb2, H⟩ := hq
  refine A_istore (L' := [some (av_R (some 162)), some (av_I a1), some (av_I a2), some (av_I a3), some (av_I z3)]) d_Trees_treesOf_6 (Nat.le_of_ble_eq_true rfl) rfl ?_
  refine A_iload d_Trees_treesOf_8 rfl ?_
  refine A_if_lt (tgt := 33) d_Trees_treesOf_10 (by decide) (fun c => ?_) (fun c => ?_)
  · replace H := H.1 c
    refine A_pc (pc' := 33) rfl ?_
    refine A_free (L' := [none, none, none, none, none]) trivial ?_
    exact b_Trees_treesOf_33    hb2 H
  · replace H := H.2 c
    refine A_iload d_Trees_treesOf_13 rfl ?_
    refine A_aload_n 0 d_Trees_treesOf_15 rfl rfl ?_
    refine A_getAv (z := some 163) T_ok d_Trees_treesOf_16 f_Trees_11 (hb_s hb2 sf_162) (hb_r hb2 rff_162_0) ?_
    refine A_alenN d_Trees_treesOf_19 (hb_s hb2 sf_163) (by decide) (by decide) ?_
    refine A_icmp_ge (tgt := 33) d_Trees_treesOf_20 (by decide) (fun c => ?_) (fun c => ?_)
    · replace H := H.1 c
      refine A_pc (pc' := 33) rfl ?_
      refine A_free (L' := [none, none, none, none, none]) trivial ?_
      exact b_Trees_treesOf_33    hb2 H
    · replace H := H.2 c
      refine A_aload_n 0 d_Trees_treesOf_23 rfl rfl ?_
      refine A_getAv (z := some 163) T_ok d_Trees_treesOf_24 f_Trees_11 (hb_s hb2 sf_162) (hb_r hb2 rff_162_0) ?_
      refine A_iload d_Trees_treesOf_27 rfl ?_
      have g7 := H.1
      replace H := H.2
      refine A_ialoadf d_Trees_treesOf_29 (hb_s hb2 sf_163) g7.1 g7.2 (fun x6 ex6 lx6 ux6 => ?_)
      replace H := H x6 ex6 lx6 ux6
      refine A_goto (tgt := 34) d_Trees_treesOf_30 (by decide) ?_
      refine A_pc (pc' := 34) rfl ?_
      refine A_free (L' := [none, none, none, none, none]) trivial ?_
      exact b_Trees_treesOf_34    hb2 H
theorem c_Trees_treesOf {G : cx_T} {s : Nat} {a1 : Int} {a2 : Int} {a3 : Int} {h : ah_T} {Q : Option av_T → ah_T → Prop} (hb0 : hb s h) (H : i32 a1 → i32 a2 → i32 a3 → B_Trees_treesOf_0 G s a1 a2 a3 h Q ) : con G 1 0 0 m_Trees_treesOf [av_R (some 162), av_I a1, av_I a2, av_I a3] h Q := by
  have hS : isS s := hb0.2.1
  refine con_of (L := [some (av_R (some 162)), some (av_I a1), some (av_I a2), some (av_I a3), none]) (by decide +kernel) (Nat.le_of_ble_eq_true rfl) rfl ?_
  refine A_locI 1 rfl (fun ra1 => ?_)
  refine A_locI 2 rfl (fun ra2 => ?_)
  refine A_locI 3 rfl (fun ra3 => ?_)
  exact b_Trees_treesOf_0   hb0 (H ra1 ra2 ra3)
def B_Trees_treesCut_0 (G : cx_T) (s : Nat) (a1 : Nat) (a2 : Int) (a3 : Int) (a4 : Int) (a5 : Int) (h : ah_T) (Q : Option av_T → ah_T → Prop) : Prop :=
 (0 ≤ a2 ∧ a2 < 24) ∧ ∀ x2 : Int, x2 = h.2.1 (a1 + 4) (a2).toNat → -2147483648 ≤ x2 → x2 ≤ 2147483647 → con G 1 0 0 m_Trees_treesOf [av_R (some 162), av_I x2, av_I a3, av_I a4] h (fun r h4 => ∃ z6 : Int, r = some (av_I z6) ∧ hb s h4 ∧ ∀ x8 : Int, x8 = h4.2.1 (a1 + 5) (a2).toNat → -2147483648 ≤ x8 → x8 ≤ 2147483647 → con G 1 0 0 m_Trees_treesOf [av_R (some 162), av_I x8, av_I a4, av_I a5] h4 (fun r h9 => ∃ z11 : Int, r = some (av_I z11) ∧ hb s h9 ∧ ∀ x12 : Int, x12 = z6 * z11 → ((-9223372036854775808) ≤ x12 ∧ x12 ≤ 9223372036854775807) ∧ Q (some (av_L x12)) h9))
theorem b_Trees_treesCut_0 {G : cx_T} {s : Nat} {a1 : Nat} {a2 : Int} {a3 : Int} {a4 : Int} {a5 : Int} (ha1 : isS a1) {h : ah_T} {Q : Option av_T → ah_T → Prop} (hb0 : hb s h) (H : B_Trees_treesCut_0 G s a1 a2 a3 a4 a5 h Q ) : aw G (rm_R 2 0 0) m_Trees_treesCut 0 0 0 [some (av_R (some 162)), some (av_R (some a1)), some (av_I a2), some (av_I a3), some (av_I a4), some (av_I a5), none, none] [] h Q := by
  unfold B_Trees_treesCut_0 at H
  have hS : isS s := hb0.2.1
  refine A_aload_n 0 d_Trees_treesCut_0 rfl rfl ?_
  refine A_aload_n 1 d_Trees_treesCut_1 rfl rfl ?_
  refine A_getAv (z := some (a1 + 4)) T_ok d_Trees_treesCut_2 f_Trees_60 (hs_S hb0 ha1) (hr_S_8 hb0 ha1) ?_
  refine A_iload_n 2 d_Trees_treesCut_5 rfl rfl ?_
  have g3 := H.1
  replace H := H.2
  refine A_ialoadf d_Trees_treesCut_6 (hs_S_8 hb0 ha1) g3.1 g3.2 (fun x2 ex2 lx2 ux2 => ?_)
  replace H := H x2 ex2 lx2 ux2
  refine A_pc (pc' := 7) rfl ?_
  refine A_iload_n 3 d_Trees_treesCut_7 rfl rfl ?_
  refine A_iload d_Trees_treesCut_8 rfl ?_
  refine A_callV3 m_Trees_treesOf T_ok d_Trees_treesCut_10 l_Trees_35 k_Trees_treesOf (hb_s hb0 sf_162) rfl (by decide +kernel) (by decide) (Nat.le_of_ble_eq_true rfl) H (fun r h4 hq => ?_)
  clear H
  obtain ⟨z6, rfl, hb5, H⟩ := hq
  refine A_i2l d_Trees_treesCut_13 ?_
  refine A_lstore (L' := [some (av_R (some 162)), some (av_R (some a1)), some (av_I a2), some (av_I a3), some (av_I a4), some (av_I a5), some (av_L z6), none]) d_Trees_treesCut_14 (Nat.le_of_ble_eq_true rfl) rfl ?_
  refine A_lload d_Trees_treesCut_16 rfl ?_
  refine A_aload_n 0 d_Trees_treesCut_18 rfl rfl ?_
  refine A_aload_n 1 d_Trees_treesCut_19 rfl rfl ?_
  refine A_pc (pc' := 20) rfl ?_
  refine A_getAv (z := some (a1 + 5)) T_ok d_Trees_treesCut_20 f_Trees_54 (hs_S hb5 ha1) (hr_S_9 hb5 ha1) ?_
  refine A_iload_n 2 d_Trees_treesCut_23 rfl rfl ?_
  refine A_ialoadf d_Trees_treesCut_24 (hs_S_9 hb5 ha1) g3.1 g3.2 (fun x8 ex8 lx8 ux8 => ?_)
  replace H := H x8 ex8 lx8 ux8
  refine A_iload d_Trees_treesCut_25 rfl ?_
  refine A_iload d_Trees_treesCut_27 rfl ?_
  refine A_callV3 m_Trees_treesOf T_ok d_Trees_treesCut_29 l_Trees_35 k_Trees_treesOf (hb_s hb5 sf_162) rfl (by decide +kernel) (by decide) (Nat.le_of_ble_eq_true rfl) H (fun r h9 hq => ?_)
  clear H
  obtain ⟨z11, rfl, hb10, H⟩ := hq
  refine A_i2l d_Trees_treesCut_32 ?_
  obtain ⟨x12, ex12⟩ : ∃ z : Int, z = z6 * z11 := ⟨_, rfl⟩
  replace H := H x12 ex12
  have g13 := H.1
  replace H := H.2
  refine A_lmulv (z := x12) d_Trees_treesCut_33 (w64_to ex12.symm (by unfold i64; omega)) ?_
  exact A_lret d_Trees_treesCut_34 (by decide) rfl H
theorem c_Trees_treesCut {G : cx_T} {s : Nat} {a1 : Nat} {a2 : Int} {a3 : Int} {a4 : Int} {a5 : Int} (ha1 : isS a1) {h : ah_T} {Q : Option av_T → ah_T → Prop} (hb0 : hb s h) (H : i32 a2 → i32 a3 → i32 a4 → i32 a5 → B_Trees_treesCut_0 G s a1 a2 a3 a4 a5 h Q ) : con G 2 0 0 m_Trees_treesCut [av_R (some 162), av_R (some a1), av_I a2, av_I a3, av_I a4, av_I a5] h Q := by
  have hS : isS s := hb0.2.1
  refine con_of (L := [some (av_R (some 162)), some (av_R (some a1)), some (av_I a2), some (av_I a3), some (av_I a4), some (av_I a5), none, none]) (by decide +kernel) (Nat.le_of_ble_eq_true rfl) rfl ?_
  refine A_locI 2 rfl (fun ra2 => ?_)
  refine A_locI 3 rfl (fun ra3 => ?_)
  refine A_locI 4 rfl (fun ra4 => ?_)
  refine A_locI 5 rfl (fun ra5 => ?_)
  exact b_Trees_treesCut_0 ha1  hb0 (H ra2 ra3 ra4 ra5)
def B_Trees_treesBy_46 (G : cx_T) (s : Nat) (a1 : Nat) (a2 : Int) (a3 : Int) (a4 : Int) (v5 : Int) (v7 : Int) (h : ah_T) (Q : Option av_T → ah_T → Prop) (X46 : Int → Int → ah_T → Prop) : Prop :=
 ((a4 ≤ v7 → Q (some (av_L v5)) h) ∧ (¬ a4 ≤ v7 → con G 2 0 0 m_Trees_treesCut [av_R (some 162), av_R (some a1), av_I a2, av_I a3, av_I v7, av_I a4] h (fun r h1 => ∃ z3 : Int, r = some (av_L z3) ∧ hb s h1 ∧ ((-9223372036854775808) ≤ (v5 + z3) ∧ (v5 + z3) ≤ 9223372036854775807) ∧ ((-2147483648) ≤ (v7 + 1) ∧ (v7 + 1) ≤ 2147483647) ∧ X46 ((v5 + z3)) ((v7 + 1)) h1)))
theorem b_Trees_treesBy_46 {G : cx_T} {s : Nat} {a1 : Nat} {a2 : Int} {a3 : Int} {a4 : Int} (ha1 : isS a1) {v5 : Int} {v7 : Int} {h : ah_T} {Q : Option av_T → ah_T → Prop} {X46 : Int → Int → ah_T → Prop} (hX46 : ∀ (v5 : Int) (v7 : Int) (h : ah_T), hb s h → X46 v5 v7 h → aw G (rm_R 3 0 0) m_Trees_treesBy 0 0 46 [some (av_R (some 162)), some (av_R (some a1)), some (av_I a2), some (av_I a3), some (av_I a4), some (av_L v5), none, some (av_I v7)] [] h Q) (hb0 : hb s h) (H : B_Trees_treesBy_46 G s a1 a2 a3 a4 v5 v7 h Q X46) : aw G (rm_R 3 0 0) m_Trees_treesBy 0 0 46 [some (av_R (some 162)), some (av_R (some a1)), some (av_I a2), some (av_I a3), some (av_I a4), some (av_L v5), none, some (av_I v7)] [] h Q := by
  unfold B_Trees_treesBy_46 at H
  have hS : isS s := hb0.2.1
  refine A_iload d_Trees_treesBy_46 rfl ?_
  refine A_iload d_Trees_treesBy_48 rfl ?_
  refine A_icmp_ge (tgt := 75) d_Trees_treesBy_50 (by decide) (fun c => ?_) (fun c => ?_)
  · replace H := H.1 c
    refine A_lload d_Trees_treesBy_75 rfl ?_
    exact A_lret d_Trees_treesBy_77 (by decide) rfl H
  · replace H := H.2 c
    refine A_lload d_Trees_treesBy_53 rfl ?_
    refine A_aload_n 0 d_Trees_treesBy_55 rfl rfl ?_
    refine A_aload_n 1 d_Trees_treesBy_56 rfl rfl ?_
    refine A_iload_n 2 d_Trees_treesBy_57 rfl rfl ?_
    refine A_iload_n 3 d_Trees_treesBy_58 rfl rfl ?_
    refine A_pc (pc' := 59) rfl ?_
    refine A_iload d_Trees_treesBy_59 rfl ?_
    refine A_iload d_Trees_treesBy_61 rfl ?_
    refine A_callV5 m_Trees_treesCut T_ok d_Trees_treesBy_63 l_Trees_63 k_Trees_treesCut (hb_s hb0 sf_162) rfl (by decide +kernel) (by decide) (Nat.le_of_ble_eq_true rfl) H (fun r h1 hq => ?_)
    clear H
    obtain ⟨z3, rfl, hb2, H⟩ := hq
    have g4 := H.1
    replace H := H.2
    refine A_laddv (z := (v5 + z3)) d_Trees_treesBy_66 (w64_to (by omega) (by unfold i64; omega)) ?_
    refine A_lstore (L' := [some (av_R (some 162)), some (av_R (some a1)), some (av_I a2), some (av_I a3), some (av_I a4), some (av_L (v5 + z3)), none, some (av_I v7)]) d_Trees_treesBy_67 (Nat.le_of_ble_eq_true rfl) rfl ?_
    have g5 := H.1
    replace H := H.2
    refine A_iincv (z := (v7 + 1)) (L' := [some (av_R (some 162)), some (av_R (some a1)), some (av_I a2), some (av_I a3), some (av_I a4), some (av_L (v5 + z3)), none, some (av_I (v7 + 1))]) d_Trees_treesBy_69 rfl (w32_to (by omega) (by unfold i32; omega)) rfl ?_
    refine A_goto (tgt := 46) d_Trees_treesBy_72 (by decide) ?_
    refine A_pc (pc' := 46) rfl ?_
    exact hX46 ((v5 + z3)) ((v7 + 1)) h1  hb2 H
theorem lp_Trees_treesBy_46 {G : cx_T} {s : Nat} {a1 : Nat} {a2 : Int} {a3 : Int} {a4 : Int} (ha1 : isS a1) {Q : Option av_T → ah_T → Prop} (I : Int → Int → ah_T → Prop) (μ : Int → Int → ah_T → Nat) (hI : ∀ (v5 : Int) (v7 : Int) (h : ah_T), hb s h → I v5 v7 h → B_Trees_treesBy_46 G s a1 a2 a3 a4 v5 v7 h Q (fun v5' v7' h' => I v5' v7' h' ∧ μ v5' v7' h' < μ v5 v7 h)) : ∀ (v5 : Int) (v7 : Int) (h : ah_T), hb s h → I v5 v7 h → aw G (rm_R 3 0 0) m_Trees_treesBy 0 0 46 [some (av_R (some 162)), some (av_R (some a1)), some (av_I a2), some (av_I a3), some (av_I a4), some (av_L v5), none, some (av_I v7)] [] h Q := by
  have key : ∀ (n : Nat) (v5 : Int) (v7 : Int) (h : ah_T), hb s h → I v5 v7 h → μ v5 v7 h < n → aw G (rm_R 3 0 0) m_Trees_treesBy 0 0 46 [some (av_R (some 162)), some (av_R (some a1)), some (av_I a2), some (av_I a3), some (av_I a4), some (av_L v5), none, some (av_I v7)] [] h Q := by
    intro n
    induction n with
    | zero => intro v5 v7 h  hb0 hi hm; omega
    | succ n ih => intro v5 v7 h  hb0 hi hm; exact b_Trees_treesBy_46 ha1 (fun v5' v7' h'  hb' hx => ih v5' v7' h'  hb' hx.1 (by have := hx.2; omega))  hb0 (hI v5 v7 h  hb0 hi)
  exact fun v5 v7 h  hb0 hi => key _ v5 v7 h  hb0 hi (Nat.lt_succ_self _)
def B_Trees_treesBy_37 (G : cx_T) (s : Nat) (a1 : Nat) (a2 : Int) (a3 : Int) (a4 : Int) (t0 : Int) (h : ah_T) (Q : Option av_T → ah_T → Prop) : Prop :=
 Q (some (av_L t0)) h
theorem b_Trees_treesBy_37 {G : cx_T} {s : Nat} {a1 : Nat} {a2 : Int} {a3 : Int} {a4 : Int} (ha1 : isS a1) {t0 : Int} {h : ah_T} {Q : Option av_T → ah_T → Prop} (hb0 : hb s h) (H : B_Trees_treesBy_37 G s a1 a2 a3 a4 t0 h Q ) : aw G (rm_R 3 0 0) m_Trees_treesBy 0 0 37 [none, none, none, none, none, none, none, none] [av_L t0] h Q := by
  unfold B_Trees_treesBy_37 at H
  have hS : isS s := hb0.2.1
  exact A_lret d_Trees_treesBy_37 (by decide) rfl H
def B_Trees_treesBy_36 (G : cx_T) (s : Nat) (a1 : Nat) (a2 : Int) (a3 : Int) (a4 : Int) (h : ah_T) (Q : Option av_T → ah_T → Prop) : Prop :=
 B_Trees_treesBy_37 G s a1 a2 a3 a4 (0) h Q 
theorem b_Trees_treesBy_36 {G : cx_T} {s : Nat} {a1 : Nat} {a2 : Int} {a3 : Int} {a4 : Int} (ha1 : isS a1) {h : ah_T} {Q : Option av_T → ah_T → Prop} (hb0 : hb s h) (H : B_Trees_treesBy_36 G s a1 a2 a3 a4 h Q ) : aw G (rm_R 3 0 0) m_Trees_treesBy 0 0 36 [none, none, none, none, none, none, none, none] [] h Q := by
  unfold B_Trees_treesBy_36 at H
  have hS : isS s := hb0.2.1
  refine A_lconst_0 d_Trees_treesBy_36 ?_
  refine A_pc (pc' := 37) rfl ?_
  exact b_Trees_treesBy_37 ha1   hb0 H
def B_Trees_treesBy_0 (G : cx_T) (s : Nat) (a1 : Nat) (a2 : Int) (a3 : Int) (a4 : Int) (h : ah_T) (Q : Option av_T → ah_T → Prop) (X46 : Int → Int → ah_T → Prop) : Prop :=
 (0 ≤ a2 ∧ a2 < 24) ∧ ∀ x2 : Int, x2 = h.2.1 (a1 + 5) (a2).toNat → -2147483648 ≤ x2 → x2 ≤ 2147483647 → ((0 ≤ x2 → ((-2147483648) ≤ (a3 + 1) ∧ (a3 + 1) ≤ 2147483647) ∧ X46 (0) ((a3 + 1)) h) ∧ (¬ 0 ≤ x2 → ((-2147483648) ≤ (a4 - a3) ∧ (a4 - a3) ≤ 2147483647) ∧ (((a4 - a3) = 1 → (0 ≤ a3 ∧ a3 < 12) ∧ ∀ x7 : Int, x7 = h.2.1 (a1 + 6) (a3).toNat → -2147483648 ≤ x7 → x7 ≤ 2147483647 → ∀ x10 : Int, x10 = h.2.1 (a1 + 4) (a2).toNat → -2147483648 ≤ x10 → x10 ≤ 2147483647 → ((x7 = x10 → B_Trees_treesBy_37 G s a1 a2 a3 a4 (1) h Q ) ∧ (¬ x7 = x10 → B_Trees_treesBy_36 G s a1 a2 a3 a4 h Q ))) ∧ (¬ (a4 - a3) = 1 → B_Trees_treesBy_36 G s a1 a2 a3 a4 h Q ))))
theorem b_Trees_treesBy_0 {G : cx_T} {s : Nat} {a1 : Nat} {a2 : Int} {a3 : Int} {a4 : Int} (ha1 : isS a1) {h : ah_T} {Q : Option av_T → ah_T → Prop} {X46 : Int → Int → ah_T → Prop} (hX46 : ∀ (v5 : Int) (v7 : Int) (h : ah_T), hb s h → X46 v5 v7 h → aw G (rm_R 3 0 0) m_Trees_treesBy 0 0 46 [some (av_R (some 162)), some (av_R (some a1)), some (av_I a2), some (av_I a3), some (av_I a4), some (av_L v5), none, some (av_I v7)] [] h Q) (hb0 : hb s h) (H : B_Trees_treesBy_0 G s a1 a2 a3 a4 h Q X46) : aw G (rm_R 3 0 0) m_Trees_treesBy 0 0 0 [some (av_R (some 162)), some (av_R (some a1)), some (av_I a2), some (av_I a3), some (av_I a4), none, none, none] [] h Q := by
  unfold B_Trees_treesBy_0 at H
  have hS : isS s := hb0.2.1
  refine A_aload_n 1 d_Trees_treesBy_0 rfl rfl ?_
  refine A_getAv (z := some (a1 + 5)) T_ok d_Trees_treesBy_1 f_Trees_54 (hs_S hb0 ha1) (hr_S_9 hb0 ha1) ?_
  refine A_iload_n 2 d_Trees_treesBy_4 rfl rfl ?_
  have g3 := H.1
  replace H := H.2
  refine A_ialoadf d_Trees_treesBy_5 (hs_S_9 hb0 ha1) g3.1 g3.2 (fun x2 ex2 lx2 ux2 => ?_)
  replace H := H x2 ex2 lx2 ux2
  refine A_if_ge (tgt := 38) d_Trees_treesBy_6 (by decide) (fun c => ?_) (fun c => ?_)
  · replace H := H.1 c
    refine A_lconst_0 d_Trees_treesBy_38 ?_
    refine A_lstore (L' := [some (av_R (some 162)), some (av_R (some a1)), some (av_I a2), some (av_I a3), some (av_I a4), some (av_L 0), none, none]) d_Trees_treesBy_39 (Nat.le_of_ble_eq_true rfl) rfl ?_
    refine A_iload_n 3 d_Trees_treesBy_41 rfl rfl ?_
    refine A_iconst d_Trees_treesBy_42 rfl ?_
    have g4 := H.1
    replace H := H.2
    refine A_iaddv (z := (a3 + 1)) d_Trees_treesBy_43 (w32_to (by omega) (by unfold i32; omega)) ?_
    refine A_pc (pc' := 44) rfl ?_
    refine A_istore (L' := [some (av_R (some 162)), some (av_R (some a1)), some (av_I a2), some (av_I a3), some (av_I a4), some (av_L 0), none, some (av_I (a3 + 1))]) d_Trees_treesBy_44 (Nat.le_of_ble_eq_true rfl) rfl ?_
    refine A_pc (pc' := 46) rfl ?_
    exact hX46 (0) ((a3 + 1)) h  hb0 H
  · replace H := H.2 c
    refine A_iload d_Trees_treesBy_9 rfl ?_
    refine A_iload_n 3 d_Trees_treesBy_11 rfl rfl ?_
    have g5 := H.1
    replace H := H.2
    refine A_isubv (z := (a4 - a3)) d_Trees_treesBy_12 (w32_to (by omega) (by unfold i32; omega)) ?_
    refine A_iconst d_Trees_treesBy_13 rfl ?_
    refine A_icmp_ne (tgt := 36) d_Trees_treesBy_14 (by decide) (fun c => ?_) (fun c => ?_)
    · replace H := H.2 c
      refine A_pc (pc' := 36) rfl ?_
      refine A_free (L' := [none, none, none, none, none, none, none, none]) trivial ?_
      exact b_Trees_treesBy_36 ha1   hb0 H
    · replace H := H.1 c
      refine A_aload_n 1 d_Trees_treesBy_17 rfl rfl ?_
      refine A_getAv (z := some (a1 + 6)) T_ok d_Trees_treesBy_18 f_Trees_57 (hs_S hb0 ha1) (hr_S_11 hb0 ha1) ?_
      refine A_iload_n 3 d_Trees_treesBy_21 rfl rfl ?_
      have g8 := H.1
      replace H := H.2
      refine A_ialoadf d_Trees_treesBy_22 (hs_S_11 hb0 ha1) g8.1 g8.2 (fun x7 ex7 lx7 ux7 => ?_)
      replace H := H x7 ex7 lx7 ux7
      refine A_aload_n 1 d_Trees_treesBy_23 rfl rfl ?_
      refine A_pc (pc' := 24) rfl ?_
      refine A_getAv (z := some (a1 + 4)) T_ok d_Trees_treesBy_24 f_Trees_60 (hs_S hb0 ha1) (hr_S_8 hb0 ha1) ?_
      refine A_iload_n 2 d_Trees_treesBy_27 rfl rfl ?_
      refine A_ialoadf d_Trees_treesBy_28 (hs_S_8 hb0 ha1) g3.1 g3.2 (fun x10 ex10 lx10 ux10 => ?_)
      replace H := H x10 ex10 lx10 ux10
      refine A_icmp_ne (tgt := 36) d_Trees_treesBy_29 (by decide) (fun c => ?_) (fun c => ?_)
      · replace H := H.2 c
        refine A_pc (pc' := 36) rfl ?_
        refine A_free (L' := [none, none, none, none, none, none, none, none]) trivial ?_
        exact b_Trees_treesBy_36 ha1   hb0 H
      · replace H := H.1 c
        refine A_lconst_1 d_Trees_treesBy_32 ?_
        refine A_goto (tgt := 37) d_Trees_treesBy_33 (by decide) ?_
        refine A_pc (pc' := 37) rfl ?_
        refine A_free (L' := [none, none, none, none, none, none, none, none]) trivial ?_
        exact b_Trees_treesBy_37 ha1   hb0 H
theorem c_Trees_treesBy {G : cx_T} {s : Nat} {a1 : Nat} {a2 : Int} {a3 : Int} {a4 : Int} (ha1 : isS a1) {h : ah_T} {Q : Option av_T → ah_T → Prop} {X46 : Int → Int → ah_T → Prop} (hX46 : ∀ (v5 : Int) (v7 : Int) (h : ah_T), hb s h → X46 v5 v7 h → aw G (rm_R 3 0 0) m_Trees_treesBy 0 0 46 [some (av_R (some 162)), some (av_R (some a1)), some (av_I a2), some (av_I a3), some (av_I a4), some (av_L v5), none, some (av_I v7)] [] h Q) (hb0 : hb s h) (H : i32 a2 → i32 a3 → i32 a4 → B_Trees_treesBy_0 G s a1 a2 a3 a4 h Q X46) : con G 3 0 0 m_Trees_treesBy [av_R (some 162), av_R (some a1), av_I a2, av_I a3, av_I a4] h Q := by
  have hS : isS s := hb0.2.1
  refine con_of (L := [some (av_R (some 162)), some (av_R (some a1)), some (av_I a2), some (av_I a3), some (av_I a4), none, none, none]) (by decide +kernel) (Nat.le_of_ble_eq_true rfl) rfl ?_
  refine A_locI 2 rfl (fun ra2 => ?_)
  refine A_locI 3 rfl (fun ra3 => ?_)
  refine A_locI 4 rfl (fun ra4 => ?_)
  exact b_Trees_treesBy_0 ha1 hX46 hb0 (H ra2 ra3 ra4)
def B_Trees_fill_73 (G : cx_T) (s : Nat) (a1 : Nat) (a2 : Int) (a3 : Int) (v4 : Int) (h : ah_T) (Q : Option av_T → ah_T → Prop) (X3 : Int → ah_T → Prop) : Prop :=
 ((-2147483648) ≤ (v4 + 1) ∧ (v4 + 1) ≤ 2147483647) ∧ X3 ((v4 + 1)) h
theorem b_Trees_fill_73 {G : cx_T} {s : Nat} {a1 : Nat} {a2 : Int} {a3 : Int} (ha1 : isS a1) {v4 : Int} {h : ah_T} {Q : Option av_T → ah_T → Prop} {X3 : Int → ah_T → Prop} (hX3 : ∀ (v4 : Int) (h : ah_T), hb s h → X3 v4 h → aw G (rm_R 4 0 0) m_Trees_fill 0 0 3 [some (av_R (some 162)), some (av_R (some a1)), some (av_I a2), some (av_I a3), some (av_I v4), none] [] h Q) (hb0 : hb s h) (H : B_Trees_fill_73 G s a1 a2 a3 v4 h Q X3) : aw G (rm_R 4 0 0) m_Trees_fill 0 0 73 [some (av_R (some 162)), some (av_R (some a1)), some (av_I a2), some (av_I a3), some (av_I v4), none] [] h Q := by
  unfold B_Trees_fill_73 at H
  have hS : isS s := hb0.2.1
  have g1 := H.1
  replace H := H.2
  refine A_iincv (z := (v4 + 1)) (L' := [some (av_R (some 162)), some (av_R (some a1)), some (av_I a2), some (av_I a3), some (av_I (v4 + 1)), none]) d_Trees_fill_73 rfl (w32_to (by omega) (by unfold i32; omega)) rfl ?_
  refine A_goto (tgt := 3) d_Trees_fill_76 (by decide) ?_
  refine A_pc (pc' := 3) rfl ?_
  exact hX3 ((v4 + 1)) h  hb0 H
def B_Trees_fill_3 (G : cx_T) (s : Nat) (a1 : Nat) (a2 : Int) (a3 : Int) (v4 : Int) (h : ah_T) (Q : Option av_T → ah_T → Prop) (X3 : Int → ah_T → Prop) : Prop :=
 ∀ x1 : Int, x1 = h.2.1 a1 10 → -2147483648 ≤ x1 → x1 ≤ 2147483647 → ((x1 ≤ v4 → Q none h) ∧ (¬ x1 ≤ v4 → (0 ≤ v4 ∧ v4 < 24) ∧ ∀ x3 : Int, x3 = h.2.1 (a1 + 3) (v4).toNat → -2147483648 ≤ x3 → x3 ≤ 2147483647 → con G 0 0 0 m_Trees_slot [av_I x3, av_I a2, av_I a3] h (fun r h5 => ∃ z7 : Int, r = some (av_I z7) ∧ hb s h5 ∧ ((z7 < 0 → B_Trees_fill_73 G s a1 a2 a3 (v4) h5 Q X3) ∧ (¬ z7 < 0 → ((2704 ≤ z7 → B_Trees_fill_73 G s a1 a2 a3 (v4) h5 Q X3) ∧ (¬ 2704 ≤ z7 → (0 ≤ z7 ∧ z7 < 2704) ∧ ∀ x11 : Int, x11 = h5.2.1 163 (z7).toNat → -2147483648 ≤ x11 → x11 ≤ 2147483647 → con G 3 0 0 m_Trees_treesBy [av_R (some 162), av_R (some a1), av_I v4, av_I a2, av_I a3] h5 (fun r h13 => ∃ z15 : Int, r = some (av_L z15) ∧ hb s h13 ∧ ((-9223372036854775808) ≤ (x11 + z15) ∧ (x11 + z15) ≤ 9223372036854775807) ∧ con G 0 0 0 m_JMath_min_JJJ [av_L (x11 + z15), av_L 1000001] h13 (fun r h17 => ∃ z19 : Int, r = some (av_L z19) ∧ hb s h17 ∧ ((-2147483648) ≤ z19 ∧ z19 ≤ 2147483647) ∧ ∀ h21 : ah_T, h21 = st_i h17 163 (z7).toNat z19 → B_Trees_fill_73 G s a1 a2 a3 (v4) h21 Q X3)))))))))
theorem b_Trees_fill_3 {G : cx_T} {s : Nat} {a1 : Nat} {a2 : Int} {a3 : Int} (ha1 : isS a1) {v4 : Int} {h : ah_T} {Q : Option av_T → ah_T → Prop} {X3 : Int → ah_T → Prop} (hX3 : ∀ (v4 : Int) (h : ah_T), hb s h → X3 v4 h → aw G (rm_R 4 0 0) m_Trees_fill 0 0 3 [some (av_R (some 162)), some (av_R (some a1)), some (av_I a2), some (av_I a3), some (av_I v4), none] [] h Q) (hb0 : hb s h) (H : B_Trees_fill_3 G s a1 a2 a3 v4 h Q X3) : aw G (rm_R 4 0 0) m_Trees_fill 0 0 3 [some (av_R (some 162)), some (av_R (some a1)), some (av_I a2), some (av_I a3), some (av_I v4), none] [] h Q := by
  unfold B_Trees_fill_3 at H
  have hS : isS s := hb0.2.1
  refine A_iload d_Trees_fill_3 rfl ?_
  refine A_aload_n 1 d_Trees_fill_5 rfl rfl ?_
  refine A_getIf T_ok d_Trees_fill_6 f_Trees_39 (hs_S hb0 ha1) (fun x1 ex1 lx1 ux1 => ?_)
  replace H := H x1 ex1 lx1 ux1
  refine A_icmp_ge (tgt := 79) d_Trees_fill_9 (by decide) (fun c => ?_) (fun c => ?_)
  · replace H := H.1 c
    exact A_vret d_Trees_fill_79 (by decide) rfl H
  · replace H := H.2 c
    refine A_aload_n 1 d_Trees_fill_12 rfl rfl ?_
    refine A_getAv (z := some (a1 + 3)) T_ok d_Trees_fill_13 f_Trees_32 (hs_S hb0 ha1) (hr_S_7 hb0 ha1) ?_
    refine A_iload d_Trees_fill_16 rfl ?_
    have g4 := H.1
    replace H := H.2
    refine A_ialoadf d_Trees_fill_18 (hs_S_7 hb0 ha1) g4.1 g4.2 (fun x3 ex3 lx3 ux3 => ?_)
    replace H := H x3 ex3 lx3 ux3
    refine A_iload_n 2 d_Trees_fill_19 rfl rfl ?_
    refine A_pc (pc' := 20) rfl ?_
    refine A_iload_n 3 d_Trees_fill_20 rfl rfl ?_
    refine A_callS3 m_Trees_slot d_Trees_fill_21 l_Trees_19 k_Trees_slot (by decide +kernel) (by decide) (Nat.le_of_ble_eq_true rfl) H (fun r h5 hq => ?_)
    clear H
    obtain ⟨z7, rfl, hb6, H⟩ := hq
    refine A_istore (L' := [some (av_R (some 162)), some (av_R (some a1)), some (av_I a2), some (av_I a3), some (av_I v4), some (av_I z7)]) d_Trees_fill_24 (Nat.le_of_ble_eq_true rfl) rfl ?_
    refine A_iload d_Trees_fill_26 rfl ?_
    refine A_if_lt (tgt := 73) d_Trees_fill_28 (by decide) (fun c => ?_) (fun c => ?_)
    · replace H := H.1 c
      refine A_pc (pc' := 73) rfl ?_
      refine A_free (L' := [some (av_R (some 162)), some (av_R (some a1)), some (av_I a2), some (av_I a3), some (av_I v4), none]) (And.intro rfl (And.intro rfl (And.intro rfl (And.intro rfl (And.intro rfl trivial))))) ?_
      exact b_Trees_fill_73 ha1 hX3  hb6 H
    · replace H := H.2 c
      refine A_iload d_Trees_fill_31 rfl ?_
      refine A_aload_n 0 d_Trees_fill_33 rfl rfl ?_
      refine A_getAv (z := some 163) T_ok d_Trees_fill_34 f_Trees_11 (hb_s hb6 sf_162) (hb_r hb6 rff_162_0) ?_
      refine A_alenN d_Trees_fill_37 (hb_s hb6 sf_163) (by decide) (by decide) ?_
      refine A_icmp_ge (tgt := 73) d_Trees_fill_38 (by decide) (fun c => ?_) (fun c => ?_)
      · replace H := H.1 c
        refine A_pc (pc' := 73) rfl ?_
        refine A_free (L' := [some (av_R (some 162)), some (av_R (some a1)), some (av_I a2), some (av_I a3), some (av_I v4), none]) (And.intro rfl (And.intro rfl (And.intro rfl (And.intro rfl (And.intro rfl trivial))))) ?_
        exact b_Trees_fill_73 ha1 hX3  hb6 H
      · replace H := H.2 c
        refine A_aload_n 0 d_Trees_fill_41 rfl rfl ?_
        refine A_getAv (z := some 163) T_ok d_Trees_fill_42 f_Trees_11 (hb_s hb6 sf_162) (hb_r hb6 rff_162_0) ?_
        refine A_iload d_Trees_fill_45 rfl ?_
        refine A_aload_n 0 d_Trees_fill_47 rfl rfl ?_
        refine A_getAv (z := some 163) T_ok d_Trees_fill_48 f_Trees_11 (hb_s hb6 sf_162) (hb_r hb6 rff_162_0) ?_
        refine A_pc (pc' := 51) rfl ?_
        refine A_iload d_Trees_fill_51 rfl ?_
        have g12 := H.1
        replace H := H.2
        refine A_ialoadf d_Trees_fill_53 (hb_s hb6 sf_163) g12.1 g12.2 (fun x11 ex11 lx11 ux11 => ?_)
        replace H := H x11 ex11 lx11 ux11
        refine A_i2l d_Trees_fill_54 ?_
        refine A_aload_n 0 d_Trees_fill_55 rfl rfl ?_
        refine A_aload_n 1 d_Trees_fill_56 rfl rfl ?_
        refine A_iload d_Trees_fill_57 rfl ?_
        refine A_pc (pc' := 59) rfl ?_
        refine A_iload_n 2 d_Trees_fill_59 rfl rfl ?_
        refine A_iload_n 3 d_Trees_fill_60 rfl rfl ?_
        refine A_callV4 m_Trees_treesBy T_ok d_Trees_fill_61 l_Trees_42 k_Trees_treesBy (hb_s hb6 sf_162) rfl (by decide +kernel) (by decide) (Nat.le_of_ble_eq_true rfl) H (fun r h13 hq => ?_)
        clear H
        obtain ⟨z15, rfl, hb14, H⟩ := hq
        have g16 := H.1
        replace H := H.2
        refine A_laddv (z := (x11 + z15)) d_Trees_fill_64 (w64_to (by omega) (by unfold i64; omega)) ?_
        refine A_ldc2 (z := 1000001) d_Trees_fill_65 cst_Trees_46 rfl ?_
        refine A_callS2 m_JMath_min_JJJ d_Trees_fill_68 l_Trees_48 k_JMath_min_JJJ (by decide +kernel) (by decide) (Nat.le_of_ble_eq_true rfl) H (fun r h17 hq => ?_)
        clear H
        obtain ⟨z19, rfl, hb18, H⟩ := hq
        have g20 := H.1
        replace H := H.2
        refine A_l2iv (z := z19) d_Trees_fill_71 (w32_id (by unfold i32; omega)) ?_
        refine A_iastoreN d_Trees_fill_72 (hb_s hb18 sf_163) g12.1 g12.2 ?_
        refine A_hn (fun h21 eh21 => ?_)
        have hb22 := hb_i hb18 eh21
        replace H := H h21 eh21
        refine A_pc (pc' := 73) rfl ?_
        refine A_free (L' := [some (av_R (some 162)), some (av_R (some a1)), some (av_I a2), some (av_I a3), some (av_I v4), none]) (And.intro rfl (And.intro rfl (And.intro rfl (And.intro rfl (And.intro rfl trivial))))) ?_
        exact b_Trees_fill_73 ha1 hX3  hb22 H
theorem lp_Trees_fill_3 {G : cx_T} {s : Nat} {a1 : Nat} {a2 : Int} {a3 : Int} (ha1 : isS a1) {Q : Option av_T → ah_T → Prop} (I : Int → ah_T → Prop) (μ : Int → ah_T → Nat) (hI : ∀ (v4 : Int) (h : ah_T), hb s h → I v4 h → B_Trees_fill_3 G s a1 a2 a3 v4 h Q (fun v4' h' => I v4' h' ∧ μ v4' h' < μ v4 h)) : ∀ (v4 : Int) (h : ah_T), hb s h → I v4 h → aw G (rm_R 4 0 0) m_Trees_fill 0 0 3 [some (av_R (some 162)), some (av_R (some a1)), some (av_I a2), some (av_I a3), some (av_I v4), none] [] h Q := by
  have key : ∀ (n : Nat) (v4 : Int) (h : ah_T), hb s h → I v4 h → μ v4 h < n → aw G (rm_R 4 0 0) m_Trees_fill 0 0 3 [some (av_R (some 162)), some (av_R (some a1)), some (av_I a2), some (av_I a3), some (av_I v4), none] [] h Q := by
    intro n
    induction n with
    | zero => intro v4 h  hb0 hi hm; omega
    | succ n ih => intro v4 h  hb0 hi hm; exact b_Trees_fill_3 ha1 (fun v4' h'  hb' hx => ih v4' h'  hb' hx.1 (by have := hx.2; omega))  hb0 (hI v4 h  hb0 hi)
  exact fun v4 h  hb0 hi => key _ v4 h  hb0 hi (Nat.lt_succ_self _)
def B_Trees_fill_0 (G : cx_T) (s : Nat) (a1 : Nat) (a2 : Int) (a3 : Int) (h : ah_T) (Q : Option av_T → ah_T → Prop) (X3 : Int → ah_T → Prop) : Prop :=
 X3 (0) h
theorem b_Trees_fill_0 {G : cx_T} {s : Nat} {a1 : Nat} {a2 : Int} {a3 : Int} (ha1 : isS a1) {h : ah_T} {Q : Option av_T → ah_T → Prop} {X3 : Int → ah_T → Prop} (hX3 : ∀ (v4 : Int) (h : ah_T), hb s h → X3 v4 h → aw G (rm_R 4 0 0) m_Trees_fill 0 0 3 [some (av_R (some 162)), some (av_R (some a1)), some (av_I a2), some (av_I a3), some (av_I v4), none] [] h Q) (hb0 : hb s h) (H : B_Trees_fill_0 G s a1 a2 a3 h Q X3) : aw G (rm_R 4 0 0) m_Trees_fill 0 0 0 [some (av_R (some 162)), some (av_R (some a1)), some (av_I a2), some (av_I a3), none, none] [] h Q := by
  unfold B_Trees_fill_0 at H
  have hS : isS s := hb0.2.1
  refine A_iconst d_Trees_fill_0 rfl ?_
  refine A_istore (L' := [some (av_R (some 162)), some (av_R (some a1)), some (av_I a2), some (av_I a3), some (av_I 0), none]) d_Trees_fill_1 (Nat.le_of_ble_eq_true rfl) rfl ?_
  refine A_pc (pc' := 3) rfl ?_
  exact hX3 (0) h  hb0 H
theorem c_Trees_fill {G : cx_T} {s : Nat} {a1 : Nat} {a2 : Int} {a3 : Int} (ha1 : isS a1) {h : ah_T} {Q : Option av_T → ah_T → Prop} {X3 : Int → ah_T → Prop} (hX3 : ∀ (v4 : Int) (h : ah_T), hb s h → X3 v4 h → aw G (rm_R 4 0 0) m_Trees_fill 0 0 3 [some (av_R (some 162)), some (av_R (some a1)), some (av_I a2), some (av_I a3), some (av_I v4), none] [] h Q) (hb0 : hb s h) (H : i32 a2 → i32 a3 → B_Trees_fill_0 G s a1 a2 a3 h Q X3) : con G 4 0 0 m_Trees_fill [av_R (some 162), av_R (some a1), av_I a2, av_I a3] h Q := by
  have hS : isS s := hb0.2.1
  refine con_of (L := [some (av_R (some 162)), some (av_R (some a1)), some (av_I a2), some (av_I a3), none, none]) (by decide +kernel) (Nat.le_of_ble_eq_true rfl) rfl ?_
  refine A_locI 2 rfl (fun ra2 => ?_)
  refine A_locI 3 rfl (fun ra3 => ?_)
  exact b_Trees_fill_0 ha1 hX3 hb0 (H ra2 ra3)
def B_Trees_find_36 (G : cx_T) (s : Nat) (a1 : Nat) (v2 : Int) (v3 : Int) (h : ah_T) (Q : Option av_T → ah_T → Prop) (X26 : Int → ah_T → Prop) (X36 : Int → Int → ah_T → Prop) : Prop :=
 ((-2147483648) ≤ (v3 + v2) ∧ (v3 + v2) ≤ 2147483647) ∧ ∀ x2 : Int, x2 = h.2.1 a1 12 → -2147483648 ≤ x2 → x2 ≤ 2147483647 → ((x2 < (v3 + v2) → ((-2147483648) ≤ (v2 + 1) ∧ (v2 + 1) ≤ 2147483647) ∧ X26 ((v2 + 1)) h) ∧ (¬ x2 < (v3 + v2) → con G 4 0 0 m_Trees_fill [av_R (some 162), av_R (some a1), av_I v3, av_I (v3 + v2)] h (fun r h4 => r = none ∧ hb s h4 ∧ ((-2147483648) ≤ (v3 + 1) ∧ (v3 + 1) ≤ 2147483647) ∧ X36 (v2) ((v3 + 1)) h4)))
theorem b_Trees_find_36 {G : cx_T} {s : Nat} {a1 : Nat} (ha1 : isS a1) {v2 : Int} {v3 : Int} {h : ah_T} {Q : Option av_T → ah_T → Prop} {X26 : Int → ah_T → Prop} {X36 : Int → Int → ah_T → Prop} (hX26 : ∀ (v2 : Int) (h : ah_T), hb s h → X26 v2 h → aw G (rm_R 5 0 0) m_Trees_find 0 0 26 [some (av_R (some 162)), some (av_R (some a1)), some (av_I v2), none] [] h Q) (hX36 : ∀ (v2 : Int) (v3 : Int) (h : ah_T), hb s h → X36 v2 v3 h → aw G (rm_R 5 0 0) m_Trees_find 0 0 36 [some (av_R (some 162)), some (av_R (some a1)), some (av_I v2), some (av_I v3)] [] h Q) (hb0 : hb s h) (H : B_Trees_find_36 G s a1 v2 v3 h Q X26 X36) : aw G (rm_R 5 0 0) m_Trees_find 0 0 36 [some (av_R (some 162)), some (av_R (some a1)), some (av_I v2), some (av_I v3)] [] h Q := by
  unfold B_Trees_find_36 at H
  have hS : isS s := hb0.2.1
  refine A_iload_n 3 d_Trees_find_36 rfl rfl ?_
  refine A_iload_n 2 d_Trees_find_37 rfl rfl ?_
  have g1 := H.1
  replace H := H.2
  refine A_iaddv (z := (v3 + v2)) d_Trees_find_38 (w32_to (by omega) (by unfold i32; omega)) ?_
  refine A_aload_n 1 d_Trees_find_39 rfl rfl ?_
  refine A_getIf T_ok d_Trees_find_40 f_Trees_23 (hs_S hb0 ha1) (fun x2 ex2 lx2 ux2 => ?_)
  replace H := H x2 ex2 lx2 ux2
  refine A_pc (pc' := 43) rfl ?_
  refine A_icmp_gt (tgt := 61) d_Trees_find_43 (by decide) (fun c => ?_) (fun c => ?_)
  · replace H := H.1 c
    have g3 := H.1
    replace H := H.2
    refine A_iincv (z := (v2 + 1)) (L' := [some (av_R (some 162)), some (av_R (some a1)), some (av_I (v2 + 1)), some (av_I v3)]) d_Trees_find_61 rfl (w32_to (by omega) (by unfold i32; omega)) rfl ?_
    refine A_goto (tgt := 26) d_Trees_find_64 (by decide) ?_
    refine A_pc (pc' := 26) rfl ?_
    refine A_free (L' := [some (av_R (some 162)), some (av_R (some a1)), some (av_I (v2 + 1)), none]) (And.intro rfl (And.intro rfl (And.intro rfl trivial))) ?_
    exact hX26 ((v2 + 1)) h  hb0 H
  · replace H := H.2 c
    refine A_aload_n 0 d_Trees_find_46 rfl rfl ?_
    refine A_aload_n 1 d_Trees_find_47 rfl rfl ?_
    refine A_iload_n 3 d_Trees_find_48 rfl rfl ?_
    refine A_iload_n 3 d_Trees_find_49 rfl rfl ?_
    refine A_iload_n 2 d_Trees_find_50 rfl rfl ?_
    refine A_pc (pc' := 51) rfl ?_
    refine A_iaddv (z := (v3 + v2)) d_Trees_find_51 (w32_to (by omega) (by unfold i32; omega)) ?_
    refine A_callV3 m_Trees_fill T_ok d_Trees_find_52 l_Trees_28 k_Trees_fill (hb_s hb0 sf_162) rfl (by decide +kernel) (by decide) (Nat.le_of_ble_eq_true rfl) H (fun r h4 hq => ?_)
    clear H
    obtain ⟨rfl, hb5, H⟩ := hq
    have g7 := H.1
    replace H := H.2
    refine A_iincv (z := (v3 + 1)) (L' := [some (av_R (some 162)), some (av_R (some a1)), some (av_I v2), some (av_I (v3 + 1))]) d_Trees_find_55 rfl (w32_to (by omega) (by unfold i32; omega)) rfl ?_
    refine A_goto (tgt := 36) d_Trees_find_58 (by decide) ?_
    refine A_pc (pc' := 36) rfl ?_
    exact hX36 (v2) ((v3 + 1)) h4  hb5 H
theorem lp_Trees_find_36 {G : cx_T} {s : Nat} {a1 : Nat} (ha1 : isS a1) {Q : Option av_T → ah_T → Prop} {X26 : Int → ah_T → Prop} (hX26 : ∀ (v2 : Int) (h : ah_T), hb s h → X26 v2 h → aw G (rm_R 5 0 0) m_Trees_find 0 0 26 [some (av_R (some 162)), some (av_R (some a1)), some (av_I v2), none] [] h Q) (I : Int → Int → ah_T → Prop) (μ : Int → Int → ah_T → Nat) (hI : ∀ (v2 : Int) (v3 : Int) (h : ah_T), hb s h → I v2 v3 h → B_Trees_find_36 G s a1 v2 v3 h Q X26 (fun v2' v3' h' => I v2' v3' h' ∧ μ v2' v3' h' < μ v2 v3 h)) : ∀ (v2 : Int) (v3 : Int) (h : ah_T), hb s h → I v2 v3 h → aw G (rm_R 5 0 0) m_Trees_find 0 0 36 [some (av_R (some 162)), some (av_R (some a1)), some (av_I v2), some (av_I v3)] [] h Q := by
  have key : ∀ (n : Nat) (v2 : Int) (v3 : Int) (h : ah_T), hb s h → I v2 v3 h → μ v2 v3 h < n → aw G (rm_R 5 0 0) m_Trees_find 0 0 36 [some (av_R (some 162)), some (av_R (some a1)), some (av_I v2), some (av_I v3)] [] h Q := by
    intro n
    induction n with
    | zero => intro v2 v3 h  hb0 hi hm; omega
    | succ n ih => intro v2 v3 h  hb0 hi hm; exact b_Trees_find_36 ha1 hX26 (fun v2' v3' h'  hb' hx => ih v2' v3' h'  hb' hx.1 (by have := hx.2; omega))  hb0 (hI v2 v3 h  hb0 hi)
  exact fun v2 v3 h  hb0 hi => key _ v2 v3 h  hb0 hi (Nat.lt_succ_self _)
def B_Trees_find_26 (G : cx_T) (s : Nat) (a1 : Nat) (v2 : Int) (h : ah_T) (Q : Option av_T → ah_T → Prop) (X36 : Int → Int → ah_T → Prop) : Prop :=
 ∀ x1 : Int, x1 = h.2.1 a1 12 → -2147483648 ≤ x1 → x1 ≤ 2147483647 → ((x1 < v2 → ∀ x3 : Int, x3 = h.2.1 (a1 + 3) 0 → -2147483648 ≤ x3 → x3 ≤ 2147483647 → con G 1 0 0 m_Trees_treesOf [av_R (some 162), av_I x3, av_I 0, av_I x1] h (fun r h5 => ∃ z7 : Int, r = some (av_I z7) ∧ hb s h5 ∧ ((z7 ≤ 1000000 → ∀ h8 : ah_T, h8 = st_i h5 162 1 z7 → Q (some (av_I z7)) h8) ∧ (¬ z7 ≤ 1000000 → Q (some (av_I (-4))) h5)))) ∧ (¬ x1 < v2 → X36 (v2) (0) h))
theorem b_Trees_find_26 {G : cx_T} {s : Nat} {a1 : Nat} (ha1 : isS a1) {v2 : Int} {h : ah_T} {Q : Option av_T → ah_T → Prop} {X36 : Int → Int → ah_T → Prop} (hX36 : ∀ (v2 : Int) (v3 : Int) (h : ah_T), hb s h → X36 v2 v3 h → aw G (rm_R 5 0 0) m_Trees_find 0 0 36 [some (av_R (some 162)), some (av_R (some a1)), some (av_I v2), some (av_I v3)] [] h Q) (hb0 : hb s h) (H : B_Trees_find_26 G s a1 v2 h Q X36) : aw G (rm_R 5 0 0) m_Trees_find 0 0 26 [some (av_R (some 162)), some (av_R (some a1)), some (av_I v2), none] [] h Q := by
  unfold B_Trees_find_26 at H
  have hS : isS s := hb0.2.1
  refine A_iload_n 2 d_Trees_find_26 rfl rfl ?_
  refine A_aload_n 1 d_Trees_find_27 rfl rfl ?_
  refine A_getIf T_ok d_Trees_find_28 f_Trees_23 (hs_S hb0 ha1) (fun x1 ex1 lx1 ux1 => ?_)
  replace H := H x1 ex1 lx1 ux1
  refine A_icmp_gt (tgt := 67) d_Trees_find_31 (by decide) (fun c => ?_) (fun c => ?_)
  · replace H := H.1 c
    refine A_aload_n 0 d_Trees_find_67 rfl rfl ?_
    refine A_aload_n 1 d_Trees_find_68 rfl rfl ?_
    refine A_getAv (z := some (a1 + 3)) T_ok d_Trees_find_69 f_Trees_32 (hs_S hb0 ha1) (hr_S_7 hb0 ha1) ?_
    refine A_iconst d_Trees_find_72 rfl ?_
    refine A_ialoadf d_Trees_find_73 (hs_S_7 hb0 ha1) (by decide) (by decide) (fun x3 ex3 lx3 ux3 => ?_)
    replace H := H x3 ex3 lx3 ux3
    refine A_pc (pc' := 74) rfl ?_
    refine A_iconst d_Trees_find_74 rfl ?_
    refine A_aload_n 1 d_Trees_find_75 rfl rfl ?_
    refine A_getIv (z := x1) T_ok d_Trees_find_76 f_Trees_23 (hs_S hb0 ha1) ex1.symm ?_
    refine A_callV3 m_Trees_treesOf T_ok d_Trees_find_79 l_Trees_35 k_Trees_treesOf (hb_s hb0 sf_162) rfl (by decide +kernel) (by decide) (Nat.le_of_ble_eq_true rfl) H (fun r h5 hq => ?_)
    clear H
    obtain ⟨z7, rfl, hb6, H⟩ := hq
    refine A_istore_n 2 (L' := [some (av_R (some 162)), some (av_R (some a1)), some (av_I z7), none]) d_Trees_find_82 rfl (Nat.le_of_ble_eq_true rfl) rfl ?_
    refine A_iload_n 2 d_Trees_find_83 rfl rfl ?_
    refine A_ldc (z := 1000000) d_Trees_find_84 cst_Trees_38 rfl ?_
    refine A_icmp_le (tgt := 92) d_Trees_find_86 (by decide) (fun c => ?_) (fun c => ?_)
    · replace H := H.1 c
      refine A_aload_n 0 d_Trees_find_92 rfl rfl ?_
      refine A_iload_n 2 d_Trees_find_93 rfl rfl ?_
      refine A_putI T_ok d_Trees_find_94 f_Trees_15 (hb_s hb6 sf_162) fin_f ?_
      refine A_hn (fun h8 eh8 => ?_)
      have hb9 := hb_i hb6 eh8
      replace H := H h8 eh8
      refine A_iload_n 2 d_Trees_find_97 rfl rfl ?_
      exact A_iret d_Trees_find_98 (by decide) rfl H
    · replace H := H.2 c
      refine A_bipush d_Trees_find_89 rfl ?_
      exact A_iret d_Trees_find_91 (by decide) rfl H
  · replace H := H.2 c
    refine A_iconst d_Trees_find_34 rfl ?_
    refine A_istore_n 3 (L' := [some (av_R (some 162)), some (av_R (some a1)), some (av_I v2), some (av_I 0)]) d_Trees_find_35 rfl (Nat.le_of_ble_eq_true rfl) rfl ?_
    refine A_pc (pc' := 36) rfl ?_
    exact hX36 (v2) (0) h  hb0 H
theorem lp_Trees_find_26 {G : cx_T} {s : Nat} {a1 : Nat} (ha1 : isS a1) {Q : Option av_T → ah_T → Prop} {X36 : Int → Int → ah_T → Prop} (hX36 : ∀ (v2 : Int) (v3 : Int) (h : ah_T), hb s h → X36 v2 v3 h → aw G (rm_R 5 0 0) m_Trees_find 0 0 36 [some (av_R (some 162)), some (av_R (some a1)), some (av_I v2), some (av_I v3)] [] h Q) (I : Int → ah_T → Prop) (μ : Int → ah_T → Nat) (hI : ∀ (v2 : Int) (h : ah_T), hb s h → I v2 h → B_Trees_find_26 G s a1 v2 h Q X36) : ∀ (v2 : Int) (h : ah_T), hb s h → I v2 h → aw G (rm_R 5 0 0) m_Trees_find 0 0 26 [some (av_R (some 162)), some (av_R (some a1)), some (av_I v2), none] [] h Q := by
  have key : ∀ (n : Nat) (v2 : Int) (h : ah_T), hb s h → I v2 h → μ v2 h < n → aw G (rm_R 5 0 0) m_Trees_find 0 0 26 [some (av_R (some 162)), some (av_R (some a1)), some (av_I v2), none] [] h Q := by
    intro n
    induction n with
    | zero => intro v2 h  hb0 hi hm; omega
    | succ n ih => intro v2 h  hb0 hi hm; exact b_Trees_find_26 ha1 hX36  hb0 (hI v2 h  hb0 hi)
  exact fun v2 h  hb0 hi => key _ v2 h  hb0 hi (Nat.lt_succ_self _)
def B_Trees_find_2 (G : cx_T) (s : Nat) (a1 : Nat) (v2 : Int) (h : ah_T) (Q : Option av_T → ah_T → Prop) (X2 : Int → ah_T → Prop) (X26 : Int → ah_T → Prop) : Prop :=
 ((2704 ≤ v2 → X26 (1) h) ∧ (¬ 2704 ≤ v2 → (0 ≤ v2 ∧ v2 < 2704) ∧ ∀ h4 : ah_T, h4 = st_i h 163 (v2).toNat 0 → ((-2147483648) ≤ (v2 + 1) ∧ (v2 + 1) ≤ 2147483647) ∧ X2 ((v2 + 1)) h4))
theorem b_Trees_find_2 {G : cx_T} {s : Nat} {a1 : Nat} (ha1 : isS a1) {v2 : Int} {h : ah_T} {Q : Option av_T → ah_T → Prop} {X2 : Int → ah_T → Prop} {X26 : Int → ah_T → Prop} (hX2 : ∀ (v2 : Int) (h : ah_T), hb s h → X2 v2 h → aw G (rm_R 5 0 0) m_Trees_find 0 0 2 [some (av_R (some 162)), some (av_R (some a1)), some (av_I v2), none] [] h Q) (hX26 : ∀ (v2 : Int) (h : ah_T), hb s h → X26 v2 h → aw G (rm_R 5 0 0) m_Trees_find 0 0 26 [some (av_R (some 162)), some (av_R (some a1)), some (av_I v2), none] [] h Q) (hb0 : hb s h) (H : B_Trees_find_2 G s a1 v2 h Q X2 X26) : aw G (rm_R 5 0 0) m_Trees_find 0 0 2 [some (av_R (some 162)), some (av_R (some a1)), some (av_I v2), none] [] h Q := by
  unfold B_Trees_find_2 at H
  have hS : isS s := hb0.2.1
  refine A_iload_n 2 d_Trees_find_2 rfl rfl ?_
  refine A_aload_n 0 d_Trees_find_3 rfl rfl ?_
  refine A_getAv (z := some 163) T_ok d_Trees_find_4 f_Trees_11 (hb_s hb0 sf_162) (hb_r hb0 rff_162_0) ?_
  refine A_alenN d_Trees_find_7 (hb_s hb0 sf_163) (by decide) (by decide) ?_
  refine A_icmp_ge (tgt := 24) d_Trees_find_8 (by decide) (fun c => ?_) (fun c => ?_)
  · replace H := H.1 c
    refine A_iconst d_Trees_find_24 rfl ?_
    refine A_istore_n 2 (L' := [some (av_R (some 162)), some (av_R (some a1)), some (av_I 1), none]) d_Trees_find_25 rfl (Nat.le_of_ble_eq_true rfl) rfl ?_
    refine A_pc (pc' := 26) rfl ?_
    exact hX26 (1) h  hb0 H
  · replace H := H.2 c
    refine A_aload_n 0 d_Trees_find_11 rfl rfl ?_
    refine A_getAv (z := some 163) T_ok d_Trees_find_12 f_Trees_11 (hb_s hb0 sf_162) (hb_r hb0 rff_162_0) ?_
    refine A_iload_n 2 d_Trees_find_15 rfl rfl ?_
    refine A_iconst d_Trees_find_16 rfl ?_
    have g3 := H.1
    replace H := H.2
    refine A_iastoreN d_Trees_find_17 (hb_s hb0 sf_163) g3.1 g3.2 ?_
    refine A_hn (fun h4 eh4 => ?_)
    have hb5 := hb_i hb0 eh4
    replace H := H h4 eh4
    refine A_pc (pc' := 18) rfl ?_
    have g6 := H.1
    replace H := H.2
    refine A_iincv (z := (v2 + 1)) (L' := [some (av_R (some 162)), some (av_R (some a1)), some (av_I (v2 + 1)), none]) d_Trees_find_18 rfl (w32_to (by omega) (by unfold i32; omega)) rfl ?_
    refine A_goto (tgt := 2) d_Trees_find_21 (by decide) ?_
    refine A_pc (pc' := 2) rfl ?_
    exact hX2 ((v2 + 1)) h4  hb5 H
theorem lp_Trees_find_2 {G : cx_T} {s : Nat} {a1 : Nat} (ha1 : isS a1) {Q : Option av_T → ah_T → Prop} {X26 : Int → ah_T → Prop} (hX26 : ∀ (v2 : Int) (h : ah_T), hb s h → X26 v2 h → aw G (rm_R 5 0 0) m_Trees_find 0 0 26 [some (av_R (some 162)), some (av_R (some a1)), some (av_I v2), none] [] h Q) (I : Int → ah_T → Prop) (μ : Int → ah_T → Nat) (hI : ∀ (v2 : Int) (h : ah_T), hb s h → I v2 h → B_Trees_find_2 G s a1 v2 h Q (fun v2' h' => I v2' h' ∧ μ v2' h' < μ v2 h) X26) : ∀ (v2 : Int) (h : ah_T), hb s h → I v2 h → aw G (rm_R 5 0 0) m_Trees_find 0 0 2 [some (av_R (some 162)), some (av_R (some a1)), some (av_I v2), none] [] h Q := by
  have key : ∀ (n : Nat) (v2 : Int) (h : ah_T), hb s h → I v2 h → μ v2 h < n → aw G (rm_R 5 0 0) m_Trees_find 0 0 2 [some (av_R (some 162)), some (av_R (some a1)), some (av_I v2), none] [] h Q := by
    intro n
    induction n with
    | zero => intro v2 h  hb0 hi hm; omega
    | succ n ih => intro v2 h  hb0 hi hm; exact b_Trees_find_2 ha1 (fun v2' h'  hb' hx => ih v2' h'  hb' hx.1 (by have := hx.2; omega)) hX26  hb0 (hI v2 h  hb0 hi)
  exact fun v2 h  hb0 hi => key _ v2 h  hb0 hi (Nat.lt_succ_self _)
def B_Trees_find_0 (G : cx_T) (s : Nat) (a1 : Nat) (h : ah_T) (Q : Option av_T → ah_T → Prop) (X2 : Int → ah_T → Prop) : Prop :=
 X2 (0) h
theorem b_Trees_find_0 {G : cx_T} {s : Nat} {a1 : Nat} (ha1 : isS a1) {h : ah_T} {Q : Option av_T → ah_T → Prop} {X2 : Int → ah_T → Prop} (hX2 : ∀ (v2 : Int) (h : ah_T), hb s h → X2 v2 h → aw G (rm_R 5 0 0) m_Trees_find 0 0 2 [some (av_R (some 162)), some (av_R (some a1)), some (av_I v2), none] [] h Q) (hb0 : hb s h) (H : B_Trees_find_0 G s a1 h Q X2) : aw G (rm_R 5 0 0) m_Trees_find 0 0 0 [some (av_R (some 162)), some (av_R (some a1)), none, none] [] h Q := by
  unfold B_Trees_find_0 at H
  have hS : isS s := hb0.2.1
  refine A_iconst d_Trees_find_0 rfl ?_
  refine A_istore_n 2 (L' := [some (av_R (some 162)), some (av_R (some a1)), some (av_I 0), none]) d_Trees_find_1 rfl (Nat.le_of_ble_eq_true rfl) rfl ?_
  refine A_pc (pc' := 2) rfl ?_
  exact hX2 (0) h  hb0 H
theorem c_Trees_find {G : cx_T} {s : Nat} {a1 : Nat} (ha1 : isS a1) {h : ah_T} {Q : Option av_T → ah_T → Prop} {X2 : Int → ah_T → Prop} (hX2 : ∀ (v2 : Int) (h : ah_T), hb s h → X2 v2 h → aw G (rm_R 5 0 0) m_Trees_find 0 0 2 [some (av_R (some 162)), some (av_R (some a1)), some (av_I v2), none] [] h Q) (hb0 : hb s h) (H : B_Trees_find_0 G s a1 h Q X2) : con G 5 0 0 m_Trees_find [av_R (some 162), av_R (some a1)] h Q := by
  have hS : isS s := hb0.2.1
  refine con_of (L := [some (av_R (some 162)), some (av_R (some a1)), none, none]) (by decide +kernel) (Nat.le_of_ble_eq_true rfl) rfl ?_
  exact b_Trees_find_0 ha1 hX2 hb0 (H )
def B_Trees_findRule_59 (G : cx_T) (s : Nat) (a1 : Nat) (v2 : Int) (h : ah_T) (Q : Option av_T → ah_T → Prop) (X2 : Int → ah_T → Prop) : Prop :=
 ((-2147483648) ≤ (v2 + 1) ∧ (v2 + 1) ≤ 2147483647) ∧ X2 ((v2 + 1)) h
theorem b_Trees_findRule_59 {G : cx_T} {s : Nat} {a1 : Nat} (ha1 : isS a1) {v2 : Int} {h : ah_T} {Q : Option av_T → ah_T → Prop} {X2 : Int → ah_T → Prop} (hX2 : ∀ (v2 : Int) (h : ah_T), hb s h → X2 v2 h → aw G (rm_R 4 0 0) m_Trees_findRule 0 0 2 [some (av_R (some 162)), some (av_R (some a1)), some (av_I v2), none, none] [] h Q) (hb0 : hb s h) (H : B_Trees_findRule_59 G s a1 v2 h Q X2) : aw G (rm_R 4 0 0) m_Trees_findRule 0 0 59 [some (av_R (some 162)), some (av_R (some a1)), some (av_I v2), none, none] [] h Q := by
  unfold B_Trees_findRule_59 at H
  have hS : isS s := hb0.2.1
  have g1 := H.1
  replace H := H.2
  refine A_iincv (z := (v2 + 1)) (L' := [some (av_R (some 162)), some (av_R (some a1)), some (av_I (v2 + 1)), none, none]) d_Trees_findRule_59 rfl (w32_to (by omega) (by unfold i32; omega)) rfl ?_
  refine A_goto (tgt := 2) d_Trees_findRule_62 (by decide) ?_
  refine A_pc (pc' := 2) rfl ?_
  exact hX2 ((v2 + 1)) h  hb0 H
def B_Trees_findRule_2 (G : cx_T) (s : Nat) (a1 : Nat) (v2 : Int) (h : ah_T) (Q : Option av_T → ah_T → Prop) (X2 : Int → ah_T → Prop) : Prop :=
 ∀ x1 : Int, x1 = h.2.1 a1 10 → -2147483648 ≤ x1 → x1 ≤ 2147483647 → ((x1 ≤ v2 → Q (some (av_I (-1))) h) ∧ (¬ x1 ≤ v2 → (0 ≤ v2 ∧ v2 < 24) ∧ ∀ x3 : Int, x3 = h.2.1 (a1 + 3) (v2).toNat → -2147483648 ≤ x3 → x3 ≤ 2147483647 → ∀ x5 : Int, x5 = h.2.1 162 2 → -2147483648 ≤ x5 → x5 ≤ 2147483647 → ((x3 = x5 → ∀ x6 : Int, x6 = h.2.1 162 3 → -2147483648 ≤ x6 → x6 ≤ 2147483647 → ∀ x7 : Int, x7 = h.2.1 162 4 → -2147483648 ≤ x7 → x7 ≤ 2147483647 → con G 3 0 0 m_Trees_treesBy [av_R (some 162), av_R (some a1), av_I v2, av_I x6, av_I x7] h (fun r h8 => ∃ z10 : Int, r = some (av_L z10) ∧ hb s h8 ∧ ∀ x11 : Int, x11 = h8.2.2.1 162 5 → -9223372036854775808 ≤ x11 → x11 ≤ 9223372036854775807 → ((z10 ≤ x11 → ((-9223372036854775808) ≤ (x11 - z10) ∧ (x11 - z10) ≤ 9223372036854775807) ∧ ∀ h15 : ah_T, h15 = st_l h8 162 5 (x11 - z10) → B_Trees_findRule_59 G s a1 (v2) h15 Q X2) ∧ (¬ z10 ≤ x11 → Q (some (av_I v2)) h8)))) ∧ (¬ x3 = x5 → B_Trees_findRule_59 G s a1 (v2) h Q X2))))
theorem b_Trees_findRule_2 {G : cx_T} {s : Nat} {a1 : Nat} (ha1 : isS a1) {v2 : Int} {h : ah_T} {Q : Option av_T → ah_T → Prop} {X2 : Int → ah_T → Prop} (hX2 : ∀ (v2 : Int) (h : ah_T), hb s h → X2 v2 h → aw G (rm_R 4 0 0) m_Trees_findRule 0 0 2 [some (av_R (some 162)), some (av_R (some a1)), some (av_I v2), none, none] [] h Q) (hb0 : hb s h) (H : B_Trees_findRule_2 G s a1 v2 h Q X2) : aw G (rm_R 4 0 0) m_Trees_findRule 0 0 2 [some (av_R (some 162)), some (av_R (some a1)), some (av_I v2), none, none] [] h Q := by
  unfold B_Trees_findRule_2 at H
  have hS : isS s := hb0.2.1
  refine A_iload_n 2 d_Trees_findRule_2 rfl rfl ?_
  refine A_aload_n 1 d_Trees_findRule_3 rfl rfl ?_
  refine A_getIf T_ok d_Trees_findRule_4 f_Trees_39 (hs_S hb0 ha1) (fun x1 ex1 lx1 ux1 => ?_)
  replace H := H x1 ex1 lx1 ux1
  refine A_icmp_ge (tgt := 65) d_Trees_findRule_7 (by decide) (fun c => ?_) (fun c => ?_)
  · replace H := H.1 c
    refine A_iconst d_Trees_findRule_65 rfl ?_
    exact A_iret d_Trees_findRule_66 (by decide) rfl H
  · replace H := H.2 c
    refine A_aload_n 1 d_Trees_findRule_10 rfl rfl ?_
    refine A_getAv (z := some (a1 + 3)) T_ok d_Trees_findRule_11 f_Trees_32 (hs_S hb0 ha1) (hr_S_7 hb0 ha1) ?_
    refine A_iload_n 2 d_Trees_findRule_14 rfl rfl ?_
    have g4 := H.1
    replace H := H.2
    refine A_ialoadf d_Trees_findRule_15 (hs_S_7 hb0 ha1) g4.1 g4.2 (fun x3 ex3 lx3 ux3 => ?_)
    replace H := H x3 ex3 lx3 ux3
    refine A_aload_n 0 d_Trees_findRule_16 rfl rfl ?_
    refine A_pc (pc' := 17) rfl ?_
    refine A_getIf T_ok d_Trees_findRule_17 f_Trees_67 (hb_s hb0 sf_162) (fun x5 ex5 lx5 ux5 => ?_)
    replace H := H x5 ex5 lx5 ux5
    refine A_icmp_ne (tgt := 59) d_Trees_findRule_20 (by decide) (fun c => ?_) (fun c => ?_)
    · replace H := H.2 c
      refine A_pc (pc' := 59) rfl ?_
      exact b_Trees_findRule_59 ha1 hX2  hb0 H
    · replace H := H.1 c
      refine A_aload_n 0 d_Trees_findRule_23 rfl rfl ?_
      refine A_aload_n 1 d_Trees_findRule_24 rfl rfl ?_
      refine A_iload_n 2 d_Trees_findRule_25 rfl rfl ?_
      refine A_aload_n 0 d_Trees_findRule_26 rfl rfl ?_
      refine A_getIf T_ok d_Trees_findRule_27 f_Trees_70 (hb_s hb0 sf_162) (fun x6 ex6 lx6 ux6 => ?_)
      replace H := H x6 ex6 lx6 ux6
      refine A_pc (pc' := 30) rfl ?_
      refine A_aload_n 0 d_Trees_findRule_30 rfl rfl ?_
      refine A_getIf T_ok d_Trees_findRule_31 f_Trees_73 (hb_s hb0 sf_162) (fun x7 ex7 lx7 ux7 => ?_)
      replace H := H x7 ex7 lx7 ux7
      refine A_callV4 m_Trees_treesBy T_ok d_Trees_findRule_34 l_Trees_42 k_Trees_treesBy (hb_s hb0 sf_162) rfl (by decide +kernel) (by decide) (Nat.le_of_ble_eq_true rfl) H (fun r h8 hq => ?_)
      clear H
      obtain ⟨z10, rfl, hb9, H⟩ := hq
      refine A_lstore_n 3 (L' := [some (av_R (some 162)), some (av_R (some a1)), some (av_I v2), some (av_L z10), none]) d_Trees_findRule_37 rfl (Nat.le_of_ble_eq_true rfl) rfl ?_
      refine A_aload_n 0 d_Trees_findRule_38 rfl rfl ?_
      refine A_getLf T_ok d_Trees_findRule_39 f_Trees_76 (hb_s hb9 sf_162) (fun x11 ex11 lx11 ux11 => ?_)
      replace H := H x11 ex11 lx11 ux11
      refine A_lload_n 3 d_Trees_findRule_42 rfl rfl ?_
      refine A_lcmpn d_Trees_findRule_43 (fun x12 lx12 ex12 gx12 _ _ => ?_)
      refine A_pc (pc' := 44) rfl ?_
      refine A_if_ge (tgt := 49) d_Trees_findRule_44 (by decide) (fun c => ?_) (fun c => ?_)
      · replace H := H.1 (by omega)
        refine A_aload_n 0 d_Trees_findRule_49 rfl rfl ?_
        refine A_dupR d_Trees_findRule_50 ?_
        refine A_getLv (z := x11) T_ok d_Trees_findRule_51 f_Trees_76 (hb_s hb9 sf_162) ex11.symm ?_
        refine A_lload_n 3 d_Trees_findRule_54 rfl rfl ?_
        have g14 := H.1
        replace H := H.2
        refine A_lsubv (z := (x11 - z10)) d_Trees_findRule_55 (w64_to (by omega) (by unfold i64; omega)) ?_
        refine A_pc (pc' := 56) rfl ?_
        refine A_putL T_ok d_Trees_findRule_56 f_Trees_76 (hb_s hb9 sf_162) fin_f ?_
        refine A_hn (fun h15 eh15 => ?_)
        have hb16 := hb_l hb9 eh15
        replace H := H h15 eh15
        refine A_pc (pc' := 59) rfl ?_
        refine A_free (L' := [some (av_R (some 162)), some (av_R (some a1)), some (av_I v2), none, none]) (And.intro rfl (And.intro rfl (And.intro rfl trivial))) ?_
        exact b_Trees_findRule_59 ha1 hX2  hb16 H
      · replace H := H.2 (by omega)
        refine A_iload_n 2 d_Trees_findRule_47 rfl rfl ?_
        exact A_iret d_Trees_findRule_48 (by decide) rfl H
theorem lp_Trees_findRule_2 {G : cx_T} {s : Nat} {a1 : Nat} (ha1 : isS a1) {Q : Option av_T → ah_T → Prop} (I : Int → ah_T → Prop) (μ : Int → ah_T → Nat) (hI : ∀ (v2 : Int) (h : ah_T), hb s h → I v2 h → B_Trees_findRule_2 G s a1 v2 h Q (fun v2' h' => I v2' h' ∧ μ v2' h' < μ v2 h)) : ∀ (v2 : Int) (h : ah_T), hb s h → I v2 h → aw G (rm_R 4 0 0) m_Trees_findRule 0 0 2 [some (av_R (some 162)), some (av_R (some a1)), some (av_I v2), none, none] [] h Q := by
  have key : ∀ (n : Nat) (v2 : Int) (h : ah_T), hb s h → I v2 h → μ v2 h < n → aw G (rm_R 4 0 0) m_Trees_findRule 0 0 2 [some (av_R (some 162)), some (av_R (some a1)), some (av_I v2), none, none] [] h Q := by
    intro n
    induction n with
    | zero => intro v2 h  hb0 hi hm; omega
    | succ n ih => intro v2 h  hb0 hi hm; exact b_Trees_findRule_2 ha1 (fun v2' h'  hb' hx => ih v2' h'  hb' hx.1 (by have := hx.2; omega))  hb0 (hI v2 h  hb0 hi)
  exact fun v2 h  hb0 hi => key _ v2 h  hb0 hi (Nat.lt_succ_self _)
def B_Trees_findRule_0 (G : cx_T) (s : Nat) (a1 : Nat) (h : ah_T) (Q : Option av_T → ah_T → Prop) (X2 : Int → ah_T → Prop) : Prop :=
 X2 (0) h
theorem b_Trees_findRule_0 {G : cx_T} {s : Nat} {a1 : Nat} (ha1 : isS a1) {h : ah_T} {Q : Option av_T → ah_T → Prop} {X2 : Int → ah_T → Prop} (hX2 : ∀ (v2 : Int) (h : ah_T), hb s h → X2 v2 h → aw G (rm_R 4 0 0) m_Trees_findRule 0 0 2 [some (av_R (some 162)), some (av_R (some a1)), some (av_I v2), none, none] [] h Q) (hb0 : hb s h) (H : B_Trees_findRule_0 G s a1 h Q X2) : aw G (rm_R 4 0 0) m_Trees_findRule 0 0 0 [some (av_R (some 162)), some (av_R (some a1)), none, none, none] [] h Q := by
  unfold B_Trees_findRule_0 at H
  have hS : isS s := hb0.2.1
  refine A_iconst d_Trees_findRule_0 rfl ?_
  refine A_istore_n 2 (L' := [some (av_R (some 162)), some (av_R (some a1)), some (av_I 0), none, none]) d_Trees_findRule_1 rfl (Nat.le_of_ble_eq_true rfl) rfl ?_
  refine A_pc (pc' := 2) rfl ?_
  exact hX2 (0) h  hb0 H
theorem c_Trees_findRule {G : cx_T} {s : Nat} {a1 : Nat} (ha1 : isS a1) {h : ah_T} {Q : Option av_T → ah_T → Prop} {X2 : Int → ah_T → Prop} (hX2 : ∀ (v2 : Int) (h : ah_T), hb s h → X2 v2 h → aw G (rm_R 4 0 0) m_Trees_findRule 0 0 2 [some (av_R (some 162)), some (av_R (some a1)), some (av_I v2), none, none] [] h Q) (hb0 : hb s h) (H : B_Trees_findRule_0 G s a1 h Q X2) : con G 4 0 0 m_Trees_findRule [av_R (some 162), av_R (some a1)] h Q := by
  have hS : isS s := hb0.2.1
  refine con_of (L := [some (av_R (some 162)), some (av_R (some a1)), none, none, none]) (by decide +kernel) (Nat.le_of_ble_eq_true rfl) rfl ?_
  exact b_Trees_findRule_0 ha1 hX2 hb0 (H )
def B_Trees_findCut_7 (G : cx_T) (s : Nat) (a1 : Nat) (a2 : Int) (v3 : Int) (h : ah_T) (Q : Option av_T → ah_T → Prop) (X7 : Int → ah_T → Prop) : Prop :=
 ∀ x1 : Int, x1 = h.2.1 162 4 → -2147483648 ≤ x1 → x1 ≤ 2147483647 → ((x1 ≤ v3 → Q (some (av_I x1)) h) ∧ (¬ x1 ≤ v3 → ∀ x3 : Int, x3 = h.2.1 162 3 → -2147483648 ≤ x3 → x3 ≤ 2147483647 → con G 2 0 0 m_Trees_treesCut [av_R (some 162), av_R (some a1), av_I a2, av_I x3, av_I v3, av_I x1] h (fun r h5 => ∃ z7 : Int, r = some (av_L z7) ∧ hb s h5 ∧ ∀ x8 : Int, x8 = h5.2.2.1 162 5 → -9223372036854775808 ≤ x8 → x8 ≤ 9223372036854775807 → ((z7 ≤ x8 → ((-9223372036854775808) ≤ (x8 - z7) ∧ (x8 - z7) ≤ 9223372036854775807) ∧ ∀ h12 : ah_T, h12 = st_l h5 162 5 (x8 - z7) → ((-2147483648) ≤ (v3 + 1) ∧ (v3 + 1) ≤ 2147483647) ∧ X7 ((v3 + 1)) h12) ∧ (¬ z7 ≤ x8 → Q (some (av_I v3)) h5)))))
theorem b_Trees_findCut_7 {G : cx_T} {s : Nat} {a1 : Nat} {a2 : Int} (ha1 : isS a1) {v3 : Int} {h : ah_T} {Q : Option av_T → ah_T → Prop} {X7 : Int → ah_T → Prop} (hX7 : ∀ (v3 : Int) (h : ah_T), hb s h → X7 v3 h → aw G (rm_R 3 0 0) m_Trees_findCut 0 0 7 [some (av_R (some 162)), some (av_R (some a1)), some (av_I a2), some (av_I v3), none, none] [] h Q) (hb0 : hb s h) (H : B_Trees_findCut_7 G s a1 a2 v3 h Q X7) : aw G (rm_R 3 0 0) m_Trees_findCut 0 0 7 [some (av_R (some 162)), some (av_R (some a1)), some (av_I a2), some (av_I v3), none, none] [] h Q := by
  unfold B_Trees_findCut_7 at H
  have hS : isS s := hb0.2.1
  refine A_iload_n 3 d_Trees_findCut_7 rfl rfl ?_
  refine A_aload_n 0 d_Trees_findCut_8 rfl rfl ?_
  refine A_getIf T_ok d_Trees_findCut_9 f_Trees_73 (hb_s hb0 sf_162) (fun x1 ex1 lx1 ux1 => ?_)
  replace H := H x1 ex1 lx1 ux1
  refine A_icmp_ge (tgt := 61) d_Trees_findCut_12 (by decide) (fun c => ?_) (fun c => ?_)
  · replace H := H.1 c
    refine A_aload_n 0 d_Trees_findCut_61 rfl rfl ?_
    refine A_getIv (z := x1) T_ok d_Trees_findCut_62 f_Trees_73 (hb_s hb0 sf_162) ex1.symm ?_
    exact A_iret d_Trees_findCut_65 (by decide) rfl H
  · replace H := H.2 c
    refine A_aload_n 0 d_Trees_findCut_15 rfl rfl ?_
    refine A_aload_n 1 d_Trees_findCut_16 rfl rfl ?_
    refine A_iload_n 2 d_Trees_findCut_17 rfl rfl ?_
    refine A_aload_n 0 d_Trees_findCut_18 rfl rfl ?_
    refine A_getIf T_ok d_Trees_findCut_19 f_Trees_70 (hb_s hb0 sf_162) (fun x3 ex3 lx3 ux3 => ?_)
    replace H := H x3 ex3 lx3 ux3
    refine A_pc (pc' := 22) rfl ?_
    refine A_iload_n 3 d_Trees_findCut_22 rfl rfl ?_
    refine A_aload_n 0 d_Trees_findCut_23 rfl rfl ?_
    refine A_getIv (z := x1) T_ok d_Trees_findCut_24 f_Trees_73 (hb_s hb0 sf_162) ex1.symm ?_
    refine A_callV5 m_Trees_treesCut T_ok d_Trees_findCut_27 l_Trees_63 k_Trees_treesCut (hb_s hb0 sf_162) rfl (by decide +kernel) (by decide) (Nat.le_of_ble_eq_true rfl) H (fun r h5 hq => ?_)
    clear H
    obtain ⟨z7, rfl, hb6, H⟩ := hq
    refine A_lstore (L' := [some (av_R (some 162)), some (av_R (some a1)), some (av_I a2), some (av_I v3), some (av_L z7), none]) d_Trees_findCut_30 (Nat.le_of_ble_eq_true rfl) rfl ?_
    refine A_aload_n 0 d_Trees_findCut_32 rfl rfl ?_
    refine A_getLf T_ok d_Trees_findCut_33 f_Trees_76 (hb_s hb6 sf_162) (fun x8 ex8 lx8 ux8 => ?_)
    replace H := H x8 ex8 lx8 ux8
    refine A_lload d_Trees_findCut_36 rfl ?_
    refine A_lcmpn d_Trees_findCut_38 (fun x9 lx9 ex9 gx9 _ _ => ?_)
    refine A_pc (pc' := 39) rfl ?_
    refine A_if_ge (tgt := 44) d_Trees_findCut_39 (by decide) (fun c => ?_) (fun c => ?_)
    · replace H := H.1 (by omega)
      refine A_aload_n 0 d_Trees_findCut_44 rfl rfl ?_
      refine A_dupR d_Trees_findCut_45 ?_
      refine A_getLv (z := x8) T_ok d_Trees_findCut_46 f_Trees_76 (hb_s hb6 sf_162) ex8.symm ?_
      refine A_lload d_Trees_findCut_49 rfl ?_
      have g11 := H.1
      replace H := H.2
      refine A_lsubv (z := (x8 - z7)) d_Trees_findCut_51 (w64_to (by omega) (by unfold i64; omega)) ?_
      refine A_pc (pc' := 52) rfl ?_
      refine A_putL T_ok d_Trees_findCut_52 f_Trees_76 (hb_s hb6 sf_162) fin_f ?_
      refine A_hn (fun h12 eh12 => ?_)
      have hb13 := hb_l hb6 eh12
      replace H := H h12 eh12
      have g14 := H.1
      replace H := H.2
      refine A_iincv (z := (v3 + 1)) (L' := [some (av_R (some 162)), some (av_R (some a1)), some (av_I a2), some (av_I (v3 + 1)), some (av_L z7), none]) d_Trees_findCut_55 rfl (w32_to (by omega) (by unfold i32; omega)) rfl ?_
      refine A_goto (tgt := 7) d_Trees_findCut_58 (by decide) ?_
      refine A_pc (pc' := 7) rfl ?_
      refine A_free (L' := [some (av_R (some 162)), some (av_R (some a1)), some (av_I a2), some (av_I (v3 + 1)), none, none]) (And.intro rfl (And.intro rfl (And.intro rfl (And.intro rfl trivial)))) ?_
      exact hX7 ((v3 + 1)) h12  hb13 H
    · replace H := H.2 (by omega)
      refine A_iload_n 3 d_Trees_findCut_42 rfl rfl ?_
      exact A_iret d_Trees_findCut_43 (by decide) rfl H
theorem lp_Trees_findCut_7 {G : cx_T} {s : Nat} {a1 : Nat} {a2 : Int} (ha1 : isS a1) {Q : Option av_T → ah_T → Prop} (I : Int → ah_T → Prop) (μ : Int → ah_T → Nat) (hI : ∀ (v3 : Int) (h : ah_T), hb s h → I v3 h → B_Trees_findCut_7 G s a1 a2 v3 h Q (fun v3' h' => I v3' h' ∧ μ v3' h' < μ v3 h)) : ∀ (v3 : Int) (h : ah_T), hb s h → I v3 h → aw G (rm_R 3 0 0) m_Trees_findCut 0 0 7 [some (av_R (some 162)), some (av_R (some a1)), some (av_I a2), some (av_I v3), none, none] [] h Q := by
  have key : ∀ (n : Nat) (v3 : Int) (h : ah_T), hb s h → I v3 h → μ v3 h < n → aw G (rm_R 3 0 0) m_Trees_findCut 0 0 7 [some (av_R (some 162)), some (av_R (some a1)), some (av_I a2), some (av_I v3), none, none] [] h Q := by
    intro n
    induction n with
    | zero => intro v3 h  hb0 hi hm; omega
    | succ n ih => intro v3 h  hb0 hi hm; exact b_Trees_findCut_7 ha1 (fun v3' h'  hb' hx => ih v3' h'  hb' hx.1 (by have := hx.2; omega))  hb0 (hI v3 h  hb0 hi)
  exact fun v3 h  hb0 hi => key _ v3 h  hb0 hi (Nat.lt_succ_self _)
def B_Trees_findCut_0 (G : cx_T) (s : Nat) (a1 : Nat) (a2 : Int) (h : ah_T) (Q : Option av_T → ah_T → Prop) (X7 : Int → ah_T → Prop) : Prop :=
 ∀ x1 : Int, x1 = h.2.1 162 3 → -2147483648 ≤ x1 → x1 ≤ 2147483647 → ((-2147483648) ≤ (x1 + 1) ∧ (x1 + 1) ≤ 2147483647) ∧ X7 ((x1 + 1)) h
theorem b_Trees_findCut_0 {G : cx_T} {s : Nat} {a1 : Nat} {a2 : Int} (ha1 : isS a1) {h : ah_T} {Q : Option av_T → ah_T → Prop} {X7 : Int → ah_T → Prop} (hX7 : ∀ (v3 : Int) (h : ah_T), hb s h → X7 v3 h → aw G (rm_R 3 0 0) m_Trees_findCut 0 0 7 [some (av_R (some 162)), some (av_R (some a1)), some (av_I a2), some (av_I v3), none, none] [] h Q) (hb0 : hb s h) (H : B_Trees_findCut_0 G s a1 a2 h Q X7) : aw G (rm_R 3 0 0) m_Trees_findCut 0 0 0 [some (av_R (some 162)), some (av_R (some a1)), some (av_I a2), none, none, none] [] h Q := by
  unfold B_Trees_findCut_0 at H
  have hS : isS s := hb0.2.1
  refine A_aload_n 0 d_Trees_findCut_0 rfl rfl ?_
  refine A_getIf T_ok d_Trees_findCut_1 f_Trees_70 (hb_s hb0 sf_162) (fun x1 ex1 lx1 ux1 => ?_)
  replace H := H x1 ex1 lx1 ux1
  refine A_iconst d_Trees_findCut_4 rfl ?_
  have g2 := H.1
  replace H := H.2
  refine A_iaddv (z := (x1 + 1)) d_Trees_findCut_5 (w32_to (by omega) (by unfold i32; omega)) ?_
  refine A_istore_n 3 (L' := [some (av_R (some 162)), some (av_R (some a1)), some (av_I a2), some (av_I (x1 + 1)), none, none]) d_Trees_findCut_6 rfl (Nat.le_of_ble_eq_true rfl) rfl ?_
  refine A_pc (pc' := 7) rfl ?_
  exact hX7 ((x1 + 1)) h  hb0 H
theorem c_Trees_findCut {G : cx_T} {s : Nat} {a1 : Nat} {a2 : Int} (ha1 : isS a1) {h : ah_T} {Q : Option av_T → ah_T → Prop} {X7 : Int → ah_T → Prop} (hX7 : ∀ (v3 : Int) (h : ah_T), hb s h → X7 v3 h → aw G (rm_R 3 0 0) m_Trees_findCut 0 0 7 [some (av_R (some 162)), some (av_R (some a1)), some (av_I a2), some (av_I v3), none, none] [] h Q) (hb0 : hb s h) (H : i32 a2 → B_Trees_findCut_0 G s a1 a2 h Q X7) : con G 3 0 0 m_Trees_findCut [av_R (some 162), av_R (some a1), av_I a2] h Q := by
  have hS : isS s := hb0.2.1
  refine con_of (L := [some (av_R (some 162)), some (av_R (some a1)), some (av_I a2), none, none, none]) (by decide +kernel) (Nat.le_of_ble_eq_true rfl) rfl ?_
  refine A_locI 2 rfl (fun ra2 => ?_)
  exact b_Trees_findCut_0 ha1 hX7 hb0 (H ra2)
def B_Trees_goDown_82 (G : cx_T) (s : Nat) (a1 : Nat) (a2 : Int) (a3 : Int) (a4 : Int) (h : ah_T) (Q : Option av_T → ah_T → Prop) : Prop :=
 Q none h
theorem b_Trees_goDown_82 {G : cx_T} {s : Nat} {a1 : Nat} {a2 : Int} {a3 : Int} {a4 : Int} (ha1 : isS a1) {h : ah_T} {Q : Option av_T → ah_T → Prop} (hb0 : hb s h) (H : B_Trees_goDown_82 G s a1 a2 a3 a4 h Q ) : aw G (rm_R 2 0 0) m_Trees_goDown 0 0 82 [none, none, none, none, none, none, none] [] h Q := by
  unfold B_Trees_goDown_82 at H
  have hS : isS s := hb0.2.1
  exact A_vret d_Trees_goDown_82 (by decide) rfl H
def B_Trees_goDown_0 (G : cx_T) (s : Nat) (a1 : Nat) (a2 : Int) (a3 : Int) (a4 : Int) (h : ah_T) (Q : Option av_T → ah_T → Prop) : Prop :=
 (0 ≤ a2 ∧ a2 < 24) ∧ ∀ x2 : Int, x2 = h.2.1 (a1 + 5) (a2).toNat → -2147483648 ≤ x2 → x2 ≤ 2147483647 → ∀ x4 : Int, x4 = h.2.1 162 4 → -2147483648 ≤ x4 → x4 ≤ 2147483647 → con G 1 0 0 m_Trees_treesOf [av_R (some 162), av_I x2, av_I a3, av_I x4] h (fun r h5 => ∃ z7 : Int, r = some (av_I z7) ∧ hb s h5 ∧ ∀ x8 : Int, x8 = (if 1 < z7 then z7 else 1) → -2147483648 ≤ x8 → x8 ≤ 2147483647 → ((a4 = 0 → ∀ x10 : Int, x10 = h5.2.1 (a1 + 5) (a2).toNat → -2147483648 ≤ x10 → x10 ≤ 2147483647 → ∀ h11 : ah_T, h11 = st_i h5 162 2 x10 → ∀ h13 : ah_T, h13 = st_i h11 162 3 a3 → ∀ x15 : Int, x15 = h13.2.2.1 162 5 → -9223372036854775808 ≤ x15 → x15 ≤ 9223372036854775807 → (x8 ≠ 0) ∧ ∀ x16 : Int, x16 = (x15).tmod x8 → (-9223372036854775808) ≤ x16 → x16 ≤ 9223372036854775807 → ∀ h17 : ah_T, h17 = st_l h13 162 5 x16 → B_Trees_goDown_82 G s a1 a2 a3 a4 h17 Q ) ∧ (¬ a4 = 0 → ∀ x20 : Int, x20 = h5.2.1 (a1 + 4) (a2).toNat → -2147483648 ≤ x20 → x20 ≤ 2147483647 → ∀ h21 : ah_T, h21 = st_i h5 162 2 x20 → ∀ h23 : ah_T, h23 = st_i h21 162 4 a3 → ∀ x25 : Int, x25 = h23.2.2.1 162 5 → -9223372036854775808 ≤ x25 → x25 ≤ 9223372036854775807 → (x8 ≠ 0) ∧ ∀ x26 : Int, x26 = w64 ((x25).tdiv x8) → (-9223372036854775808) ≤ x26 → x26 ≤ 9223372036854775807 → ∀ h27 : ah_T, h27 = st_l h23 162 5 x26 → B_Trees_goDown_82 G s a1 a2 a3 a4 h27 Q )))
theorem b_Trees_goDown_0 {G : cx_T} {s : Nat} {a1 : Nat} {a2 : Int} {a3 : Int} {a4 : Int} (ha1 : isS a1) {h : ah_T} {Q : Option av_T → ah_T → Prop} (hb0 : hb s h) (H : B_Trees_goDown_0 G s a1 a2 a3 a4 h Q ) : aw G (rm_R 2 0 0) m_Trees_goDown 0 0 0 [some (av_R (some 162)), some (av_R (some a1)), some (av_I a2), some (av_I a3), some (av_I a4), none, none] [] h Q := by
  unfold B_Trees_goDown_0 at H
  have hS : isS s := hb0.2.1
  refine A_iconst d_Trees_goDown_0 rfl ?_
  refine A_aload_n 0 d_Trees_goDown_1 rfl rfl ?_
  refine A_aload_n 1 d_Trees_goDown_2 rfl rfl ?_
  refine A_getAv (z := some (a1 + 5)) T_ok d_Trees_goDown_3 f_Trees_54 (hs_S hb0 ha1) (hr_S_9 hb0 ha1) ?_
  refine A_iload_n 2 d_Trees_goDown_6 rfl rfl ?_
  refine A_pc (pc' := 7) rfl ?_
  have g3 := H.1
  replace H := H.2
  refine A_ialoadf d_Trees_goDown_7 (hs_S_9 hb0 ha1) g3.1 g3.2 (fun x2 ex2 lx2 ux2 => ?_)
  replace H := H x2 ex2 lx2 ux2
  refine A_iload_n 3 d_Trees_goDown_8 rfl rfl ?_
  refine A_aload_n 0 d_Trees_goDown_9 rfl rfl ?_
  refine A_getIf T_ok d_Trees_goDown_10 f_Trees_73 (hb_s hb0 sf_162) (fun x4 ex4 lx4 ux4 => ?_)
  replace H := H x4 ex4 lx4 ux4
  refine A_callV3 m_Trees_treesOf T_ok d_Trees_goDown_13 l_Trees_35 k_Trees_treesOf (hb_s hb0 sf_162) rfl (by decide +kernel) (by decide) (Nat.le_of_ble_eq_true rfl) H (fun r h5 hq => ?_)
  clear H
  obtain ⟨z7, rfl, hb6, H⟩ := hq
  refine A_mmax (z := (if 1 < z7 then z7 else 1)) d_Trees_goDown_16 lm_Trees_92 ma_max (by decide) (by decide) (Nat.le_of_ble_eq_true rfl) rfl ?_
  refine A_nrI (fun x8 ex8 lx8 ux8 => ?_)
  replace H := H x8 ex8 lx8 ux8
  refine A_i2l d_Trees_goDown_19 ?_
  refine A_lstore (L' := [some (av_R (some 162)), some (av_R (some a1)), some (av_I a2), some (av_I a3), some (av_I a4), some (av_L x8), none]) d_Trees_goDown_20 (Nat.le_of_ble_eq_true rfl) rfl ?_
  refine A_iload d_Trees_goDown_22 rfl ?_
  refine A_if_eq (tgt := 56) d_Trees_goDown_24 (by decide) (fun c => ?_) (fun c => ?_)
  · replace H := H.1 c
    refine A_aload_n 0 d_Trees_goDown_56 rfl rfl ?_
    refine A_aload_n 1 d_Trees_goDown_57 rfl rfl ?_
    refine A_getAv (z := some (a1 + 5)) T_ok d_Trees_goDown_58 f_Trees_54 (hs_S hb6 ha1) (hr_S_9 hb6 ha1) ?_
    refine A_iload_n 2 d_Trees_goDown_61 rfl rfl ?_
    refine A_ialoadf d_Trees_goDown_62 (hs_S_9 hb6 ha1) g3.1 g3.2 (fun x10 ex10 lx10 ux10 => ?_)
    replace H := H x10 ex10 lx10 ux10
    refine A_pc (pc' := 63) rfl ?_
    refine A_putI T_ok d_Trees_goDown_63 f_Trees_67 (hb_s hb6 sf_162) fin_f ?_
    refine A_hn (fun h11 eh11 => ?_)
    have hb12 := hb_i hb6 eh11
    replace H := H h11 eh11
    refine A_aload_n 0 d_Trees_goDown_66 rfl rfl ?_
    refine A_iload_n 3 d_Trees_goDown_67 rfl rfl ?_
    refine A_putI T_ok d_Trees_goDown_68 f_Trees_70 (hb_s hb12 sf_162) fin_f ?_
    refine A_hn (fun h13 eh13 => ?_)
    have hb14 := hb_i hb12 eh13
    replace H := H h13 eh13
    refine A_aload_n 0 d_Trees_goDown_71 rfl rfl ?_
    refine A_dupR d_Trees_goDown_72 ?_
    refine A_pc (pc' := 73) rfl ?_
    refine A_getLf T_ok d_Trees_goDown_73 f_Trees_76 (hb_s hb14 sf_162) (fun x15 ex15 lx15 ux15 => ?_)
    replace H := H x15 ex15 lx15 ux15
    refine A_lload d_Trees_goDown_76 rfl ?_
    have H0 := H.1
    replace H := H.2
    refine A_lremc d_Trees_goDown_78 H0 (fun x16 ex16 lx16 ux16 => ?_)
    replace H := H x16 ex16 lx16 ux16
    refine A_putL T_ok d_Trees_goDown_79 f_Trees_76 (hb_s hb14 sf_162) fin_f ?_
    refine A_hn (fun h17 eh17 => ?_)
    have hb18 := hb_l hb14 eh17
    replace H := H h17 eh17
    refine A_pc (pc' := 82) rfl ?_
    refine A_free (L' := [none, none, none, none, none, none, none]) trivial ?_
    exact b_Trees_goDown_82 ha1   hb18 H
  · replace H := H.2 c
    refine A_aload_n 0 d_Trees_goDown_27 rfl rfl ?_
    refine A_aload_n 1 d_Trees_goDown_28 rfl rfl ?_
    refine A_getAv (z := some (a1 + 4)) T_ok d_Trees_goDown_29 f_Trees_60 (hs_S hb6 ha1) (hr_S_8 hb6 ha1) ?_
    refine A_iload_n 2 d_Trees_goDown_32 rfl rfl ?_
    refine A_ialoadf d_Trees_goDown_33 (hs_S_8 hb6 ha1) g3.1 g3.2 (fun x20 ex20 lx20 ux20 => ?_)
    replace H := H x20 ex20 lx20 ux20
    refine A_pc (pc' := 34) rfl ?_
    refine A_putI T_ok d_Trees_goDown_34 f_Trees_67 (hb_s hb6 sf_162) fin_f ?_
    refine A_hn (fun h21 eh21 => ?_)
    have hb22 := hb_i hb6 eh21
    replace H := H h21 eh21
    refine A_aload_n 0 d_Trees_goDown_37 rfl rfl ?_
    refine A_iload_n 3 d_Trees_goDown_38 rfl rfl ?_
    refine A_putI T_ok d_Trees_goDown_39 f_Trees_73 (hb_s hb22 sf_162) fin_f ?_
    refine A_hn (fun h23 eh23 => ?_)
    have hb24 := hb_i hb22 eh23
    replace H := H h23 eh23
    refine A_aload_n 0 d_Trees_goDown_42 rfl rfl ?_
    refine A_dupR d_Trees_goDown_43 ?_
    refine A_pc (pc' := 44) rfl ?_
    refine A_getLf T_ok d_Trees_goDown_44 f_Trees_76 (hb_s hb24 sf_162) (fun x25 ex25 lx25 ux25 => ?_)
    replace H := H x25 ex25 lx25 ux25
    refine A_lload d_Trees_goDown_47 rfl ?_
    have H0 := H.1
    replace H := H.2
    refine A_ldivc d_Trees_goDown_49 H0 (fun x26 ex26 lx26 ux26 => ?_)
    replace H := H x26 ex26 lx26 ux26
    refine A_putL T_ok d_Trees_goDown_50 f_Trees_76 (hb_s hb24 sf_162) fin_f ?_
    refine A_hn (fun h27 eh27 => ?_)
    have hb28 := hb_l hb24 eh27
    replace H := H h27 eh27
    refine A_goto (tgt := 82) d_Trees_goDown_53 (by decide) ?_
    refine A_pc (pc' := 82) rfl ?_
    refine A_free (L' := [none, none, none, none, none, none, none]) trivial ?_
    exact b_Trees_goDown_82 ha1   hb28 H
theorem c_Trees_goDown {G : cx_T} {s : Nat} {a1 : Nat} {a2 : Int} {a3 : Int} {a4 : Int} (ha1 : isS a1) {h : ah_T} {Q : Option av_T → ah_T → Prop} (hb0 : hb s h) (H : i32 a2 → i32 a3 → i32 a4 → B_Trees_goDown_0 G s a1 a2 a3 a4 h Q ) : con G 2 0 0 m_Trees_goDown [av_R (some 162), av_R (some a1), av_I a2, av_I a3, av_I a4] h Q := by
  have hS : isS s := hb0.2.1
  refine con_of (L := [some (av_R (some 162)), some (av_R (some a1)), some (av_I a2), some (av_I a3), some (av_I a4), none, none]) (by decide +kernel) (Nat.le_of_ble_eq_true rfl) rfl ?_
  refine A_locI 2 rfl (fun ra2 => ?_)
  refine A_locI 3 rfl (fun ra3 => ?_)
  refine A_locI 4 rfl (fun ra4 => ?_)
  exact b_Trees_goDown_0 ha1  hb0 (H ra2 ra3 ra4)
def B_Trees_ruleIn_164 (G : cx_T) (s : Nat) (a1 : Nat) (a2 : Int) (a3 : Int) (v5 : Int) (t0 : Int) (t1 : Int) (h : ah_T) (Q : Option av_T → ah_T → Prop) (X65 : Int → Int → ah_T → Prop) : Prop :=
 ((-2147483648) ≤ (t0 - t1) ∧ (t0 - t1) ≤ 2147483647) ∧ ((-2147483648) ≤ (v5 + 1) ∧ (v5 + 1) ≤ 2147483647) ∧ X65 ((t0 - t1)) ((v5 + 1)) h
theorem b_Trees_ruleIn_164 {G : cx_T} {s : Nat} {a1 : Nat} {a2 : Int} {a3 : Int} (ha1 : isS a1) {v5 : Int} {t0 : Int} {t1 : Int} {h : ah_T} {Q : Option av_T → ah_T → Prop} {X65 : Int → Int → ah_T → Prop} (hX65 : ∀ (v4 : Int) (v5 : Int) (h : ah_T), hb s h → X65 v4 v5 h → aw G (rm_R 5 0 0) m_Trees_ruleIn 0 0 65 [some (av_R (some 162)), some (av_R (some a1)), none, none, some (av_I v4), some (av_I v5), none, none, none, none] [] h Q) (hb0 : hb s h) (H : B_Trees_ruleIn_164 G s a1 a2 a3 v5 t0 t1 h Q X65) : aw G (rm_R 5 0 0) m_Trees_ruleIn 0 0 164 [some (av_R (some 162)), some (av_R (some a1)), none, none, none, some (av_I v5), none, none, none, none] [av_I t1, av_I t0] h Q := by
  unfold B_Trees_ruleIn_164 at H
  have hS : isS s := hb0.2.1
  have g1 := H.1
  replace H := H.2
  refine A_isubv (z := (t0 - t1)) d_Trees_ruleIn_164 (w32_to (by omega) (by unfold i32; omega)) ?_
  refine A_istore (L' := [some (av_R (some 162)), some (av_R (some a1)), none, none, some (av_I (t0 - t1)), some (av_I v5), none, none, none, none]) d_Trees_ruleIn_165 (Nat.le_of_ble_eq_true rfl) rfl ?_
  have g2 := H.1
  replace H := H.2
  refine A_iincv (z := (v5 + 1)) (L' := [some (av_R (some 162)), some (av_R (some a1)), none, none, some (av_I (t0 - t1)), some (av_I (v5 + 1)), none, none, none, none]) d_Trees_ruleIn_167 rfl (w32_to (by omega) (by unfold i32; omega)) rfl ?_
  refine A_goto (tgt := 65) d_Trees_ruleIn_170 (by decide) ?_
  refine A_pc (pc' := 65) rfl ?_
  exact hX65 ((t0 - t1)) ((v5 + 1)) h  hb0 H
def B_Trees_ruleIn_136 (G : cx_T) (s : Nat) (a1 : Nat) (a2 : Int) (a3 : Int) (v4 : Int) (v5 : Int) (v6 : Int) (v7 : Int) (v8 : Int) (t0 : Int) (h : ah_T) (Q : Option av_T → ah_T → Prop) (X65 : Int → Int → ah_T → Prop) : Prop :=
 con G 2 0 0 m_Trees_goDown [av_R (some 162), av_R (some a1), av_I v6, av_I v7, av_I t0] h (fun r h1 => r = none ∧ hb s h1 ∧ ((t0 = 0 → ((-2147483648) ≤ (v8 + 1) ∧ (v8 + 1) ≤ 2147483647) ∧ B_Trees_ruleIn_164 G s a1 a2 a3 (v5) (v4) ((v8 + 1)) h1 Q X65) ∧ (¬ t0 = 0 → B_Trees_ruleIn_164 G s a1 a2 a3 (v5) (v4) (1) h1 Q X65)))
theorem b_Trees_ruleIn_136 {G : cx_T} {s : Nat} {a1 : Nat} {a2 : Int} {a3 : Int} (ha1 : isS a1) {v4 : Int} {v5 : Int} {v6 : Int} {v7 : Int} {v8 : Int} {t0 : Int} {h : ah_T} {Q : Option av_T → ah_T → Prop} {X65 : Int → Int → ah_T → Prop} (hX65 : ∀ (v4 : Int) (v5 : Int) (h : ah_T), hb s h → X65 v4 v5 h → aw G (rm_R 5 0 0) m_Trees_ruleIn 0 0 65 [some (av_R (some 162)), some (av_R (some a1)), none, none, some (av_I v4), some (av_I v5), none, none, none, none] [] h Q) (hb0 : hb s h) (H : B_Trees_ruleIn_136 G s a1 a2 a3 v4 v5 v6 v7 v8 t0 h Q X65) : aw G (rm_R 5 0 0) m_Trees_ruleIn 0 0 136 [some (av_R (some 162)), some (av_R (some a1)), none, none, some (av_I v4), some (av_I v5), some (av_I v6), some (av_I v7), some (av_I v8), none] [av_I t0] h Q := by
  unfold B_Trees_ruleIn_136 at H
  have hS : isS s := hb0.2.1
  refine A_istore (L' := [some (av_R (some 162)), some (av_R (some a1)), none, none, some (av_I v4), some (av_I v5), some (av_I v6), some (av_I v7), some (av_I v8), some (av_I t0)]) d_Trees_ruleIn_136 (Nat.le_of_ble_eq_true rfl) rfl ?_
  refine A_aload_n 0 d_Trees_ruleIn_138 rfl rfl ?_
  refine A_aload_n 1 d_Trees_ruleIn_139 rfl rfl ?_
  refine A_iload d_Trees_ruleIn_140 rfl ?_
  refine A_iload d_Trees_ruleIn_142 rfl ?_
  refine A_pc (pc' := 144) rfl ?_
  refine A_iload d_Trees_ruleIn_144 rfl ?_
  refine A_callV4 m_Trees_goDown T_ok d_Trees_ruleIn_146 l_Trees_88 k_Trees_goDown (hb_s hb0 sf_162) rfl (by decide +kernel) (by decide) (Nat.le_of_ble_eq_true rfl) H (fun r h1 hq => ?_)
  clear H
  obtain ⟨rfl, hb2, H⟩ := hq
  refine A_iload d_Trees_ruleIn_149 rfl ?_
  refine A_iload d_Trees_ruleIn_151 rfl ?_
  refine A_if_eq (tgt := 160) d_Trees_ruleIn_153 (by decide) (fun c => ?_) (fun c => ?_)
  · replace H := H.1 c
    refine A_iconst d_Trees_ruleIn_160 rfl ?_
    refine A_iload d_Trees_ruleIn_161 rfl ?_
    have g4 := H.1
    replace H := H.2
    refine A_iaddv (z := (v8 + 1)) d_Trees_ruleIn_163 (w32_to (by omega) (by unfold i32; omega)) ?_
    refine A_pc (pc' := 164) rfl ?_
    refine A_free (L' := [some (av_R (some 162)), some (av_R (some a1)), none, none, none, some (av_I v5), none, none, none, none]) (And.intro rfl (And.intro rfl (And.intro rfl trivial))) ?_
    exact b_Trees_ruleIn_164 ha1 hX65  hb2 H
  · replace H := H.2 c
    refine A_iconst d_Trees_ruleIn_156 rfl ?_
    refine A_goto (tgt := 164) d_Trees_ruleIn_157 (by decide) ?_
    refine A_pc (pc' := 164) rfl ?_
    refine A_free (L' := [some (av_R (some 162)), some (av_R (some a1)), none, none, none, some (av_I v5), none, none, none, none]) (And.intro rfl (And.intro rfl (And.intro rfl trivial))) ?_
    exact b_Trees_ruleIn_164 ha1 hX65  hb2 H
def B_Trees_ruleIn_99 (G : cx_T) (s : Nat) (a1 : Nat) (a2 : Int) (a3 : Int) (v6 : Int) (h : ah_T) (Q : Option av_T → ah_T → Prop) : Prop :=
 Q (some (av_I v6)) h
theorem b_Trees_ruleIn_99 {G : cx_T} {s : Nat} {a1 : Nat} {a2 : Int} {a3 : Int} (ha1 : isS a1) {v6 : Int} {h : ah_T} {Q : Option av_T → ah_T → Prop} (hb0 : hb s h) (H : B_Trees_ruleIn_99 G s a1 a2 a3 v6 h Q ) : aw G (rm_R 5 0 0) m_Trees_ruleIn 0 0 99 [none, none, none, none, none, none, some (av_I v6), none, none, none] [] h Q := by
  unfold B_Trees_ruleIn_99 at H
  have hS : isS s := hb0.2.1
  refine A_iload d_Trees_ruleIn_99 rfl ?_
  exact A_iret d_Trees_ruleIn_101 (by decide) rfl H
def B_Trees_ruleIn_65 (G : cx_T) (s : Nat) (a1 : Nat) (a2 : Int) (a3 : Int) (v4 : Int) (v5 : Int) (h : ah_T) (Q : Option av_T → ah_T → Prop) (X65 : Int → Int → ah_T → Prop) : Prop :=
 ((24 ≤ v5 → Q (some (av_I (-1))) h) ∧ (¬ 24 ≤ v5 → con G 4 0 0 m_Trees_findRule [av_R (some 162), av_R (some a1)] h (fun r h1 => ∃ z3 : Int, r = some (av_I z3) ∧ hb s h1 ∧ ((v4 = 0 → B_Trees_ruleIn_99 G s a1 a2 a3 (z3) h1 Q ) ∧ (¬ v4 = 0 → ((z3 < 0 → B_Trees_ruleIn_99 G s a1 a2 a3 (z3) h1 Q ) ∧ (¬ z3 < 0 → (0 ≤ z3 ∧ z3 < 24) ∧ ∀ x5 : Int, x5 = h1.2.1 (a1 + 5) (z3).toNat → -2147483648 ≤ x5 → x5 ≤ 2147483647 → ((0 ≤ x5 → con G 3 0 0 m_Trees_findCut [av_R (some 162), av_R (some a1), av_I z3] h1 (fun r h7 => ∃ z9 : Int, r = some (av_I z9) ∧ hb s h7 ∧ ∀ x10 : Int, x10 = h7.2.1 162 3 → -2147483648 ≤ x10 → x10 ≤ 2147483647 → ((-2147483648) ≤ (z9 - x10) ∧ (z9 - x10) ≤ 2147483647) ∧ ((-2147483648) ≤ (2 * z9 - 2 * x10) ∧ (2 * z9 - 2 * x10) ≤ 2147483647) ∧ ((-2147483648) ≤ (2 * z9 - 2 * x10 - 1) ∧ (2 * z9 - 2 * x10 - 1) ≤ 2147483647) ∧ (((2 * z9 - 2 * x10 - 1) < v4 → B_Trees_ruleIn_136 G s a1 a2 a3 (v4) (v5) (z3) (z9) ((2 * z9 - 2 * x10 - 1)) (0) h7 Q X65) ∧ (¬ (2 * z9 - 2 * x10 - 1) < v4 → B_Trees_ruleIn_136 G s a1 a2 a3 (v4) (v5) (z3) (z9) ((2 * z9 - 2 * x10 - 1)) (1) h7 Q X65)))) ∧ (¬ 0 ≤ x5 → B_Trees_ruleIn_99 G s a1 a2 a3 (z3) h1 Q )))))))))
theorem b_Trees_ruleIn_65 {G : cx_T} {s : Nat} {a1 : Nat} {a2 : Int} {a3 : Int} (ha1 : isS a1) {v4 : Int} {v5 : Int} {h : ah_T} {Q : Option av_T → ah_T → Prop} {X65 : Int → Int → ah_T → Prop} (hX65 : ∀ (v4 : Int) (v5 : Int) (h : ah_T), hb s h → X65 v4 v5 h → aw G (rm_R 5 0 0) m_Trees_ruleIn 0 0 65 [some (av_R (some 162)), some (av_R (some a1)), none, none, some (av_I v4), some (av_I v5), none, none, none, none] [] h Q) (hb0 : hb s h) (H : B_Trees_ruleIn_65 G s a1 a2 a3 v4 v5 h Q X65) : aw G (rm_R 5 0 0) m_Trees_ruleIn 0 0 65 [some (av_R (some 162)), some (av_R (some a1)), none, none, some (av_I v4), some (av_I v5), none, none, none, none] [] h Q := by
  unfold B_Trees_ruleIn_65 at H
  have hS : isS s := hb0.2.1
  refine A_iload d_Trees_ruleIn_65 rfl ?_
  refine A_bipush d_Trees_ruleIn_67 rfl ?_
  refine A_icmp_ge (tgt := 173) d_Trees_ruleIn_69 (by decide) (fun c => ?_) (fun c => ?_)
  · replace H := H.1 c
    refine A_iconst d_Trees_ruleIn_173 rfl ?_
    exact A_iret d_Trees_ruleIn_174 (by decide) rfl H
  · replace H := H.2 c
    refine A_aload_n 0 d_Trees_ruleIn_72 rfl rfl ?_
    refine A_aload_n 1 d_Trees_ruleIn_73 rfl rfl ?_
    refine A_callV1 m_Trees_findRule T_ok d_Trees_ruleIn_74 l_Trees_80 k_Trees_findRule (hb_s hb0 sf_162) rfl (by decide +kernel) (by decide) (Nat.le_of_ble_eq_true rfl) H (fun r h1 hq => ?_)
    clear H
    obtain ⟨z3, rfl, hb2, H⟩ := hq
    refine A_istore (L' := [some (av_R (some 162)), some (av_R (some a1)), none, none, some (av_I v4), some (av_I v5), some (av_I z3), none, none, none]) d_Trees_ruleIn_77 (Nat.le_of_ble_eq_true rfl) rfl ?_
    refine A_iload d_Trees_ruleIn_79 rfl ?_
    refine A_if_eq (tgt := 99) d_Trees_ruleIn_81 (by decide) (fun c => ?_) (fun c => ?_)
    · replace H := H.1 c
      refine A_pc (pc' := 99) rfl ?_
      refine A_free (L' := [none, none, none, none, none, none, some (av_I z3), none, none, none]) (And.intro rfl trivial) ?_
      exact b_Trees_ruleIn_99 ha1   hb2 H
    · replace H := H.2 c
      refine A_iload d_Trees_ruleIn_84 rfl ?_
      refine A_if_lt (tgt := 99) d_Trees_ruleIn_86 (by decide) (fun c => ?_) (fun c => ?_)
      · replace H := H.1 c
        refine A_pc (pc' := 99) rfl ?_
        refine A_free (L' := [none, none, none, none, none, none, some (av_I z3), none, none, none]) (And.intro rfl trivial) ?_
        exact b_Trees_ruleIn_99 ha1   hb2 H
      · replace H := H.2 c
        refine A_aload_n 1 d_Trees_ruleIn_89 rfl rfl ?_
        refine A_getAv (z := some (a1 + 5)) T_ok d_Trees_ruleIn_90 f_Trees_54 (hs_S hb2 ha1) (hr_S_9 hb2 ha1) ?_
        refine A_iload d_Trees_ruleIn_93 rfl ?_
        have g6 := H.1
        replace H := H.2
        refine A_ialoadf d_Trees_ruleIn_95 (hs_S_9 hb2 ha1) g6.1 g6.2 (fun x5 ex5 lx5 ux5 => ?_)
        replace H := H x5 ex5 lx5 ux5
        refine A_if_ge (tgt := 102) d_Trees_ruleIn_96 (by decide) (fun c => ?_) (fun c => ?_)
        · replace H := H.1 c
          refine A_aload_n 0 d_Trees_ruleIn_102 rfl rfl ?_
          refine A_aload_n 1 d_Trees_ruleIn_103 rfl rfl ?_
          refine A_iload d_Trees_ruleIn_104 rfl ?_
          refine A_callV2 m_Trees_findCut T_ok d_Trees_ruleIn_106 l_Trees_84 k_Trees_findCut (hb_s hb2 sf_162) rfl (by decide +kernel) (by decide) (Nat.le_of_ble_eq_true rfl) H (fun r h7 hq => ?_)
          clear H
          obtain ⟨z9, rfl, hb8, H⟩ := hq
          refine A_istore (L' := [some (av_R (some 162)), some (av_R (some a1)), none, none, some (av_I v4), some (av_I v5), some (av_I z3), some (av_I z9), none, none]) d_Trees_ruleIn_109 (Nat.le_of_ble_eq_true rfl) rfl ?_
          refine A_iconst d_Trees_ruleIn_111 rfl ?_
          refine A_iload d_Trees_ruleIn_112 rfl ?_
          refine A_aload_n 0 d_Trees_ruleIn_114 rfl rfl ?_
          refine A_getIf T_ok d_Trees_ruleIn_115 f_Trees_70 (hb_s hb8 sf_162) (fun x10 ex10 lx10 ux10 => ?_)
          replace H := H x10 ex10 lx10 ux10
          refine A_pc (pc' := 118) rfl ?_
          have g11 := H.1
          replace H := H.2
          refine A_isubv (z := (z9 - x10)) d_Trees_ruleIn_118 (w32_to (by omega) (by unfold i32; omega)) ?_
          have g12 := H.1
          replace H := H.2
          refine A_imulv (z := (2 * z9 - 2 * x10)) d_Trees_ruleIn_119 (w32_to (by omega) (by unfold i32; omega)) ?_
          refine A_iconst d_Trees_ruleIn_120 rfl ?_
          have g13 := H.1
          replace H := H.2
          refine A_isubv (z := (2 * z9 - 2 * x10 - 1)) d_Trees_ruleIn_121 (w32_to (by omega) (by unfold i32; omega)) ?_
          refine A_istore (L' := [some (av_R (some 162)), some (av_R (some a1)), none, none, some (av_I v4), some (av_I v5), some (av_I z3), some (av_I z9), some (av_I (2 * z9 - 2 * x10 - 1)), none]) d_Trees_ruleIn_122 (Nat.le_of_ble_eq_true rfl) rfl ?_
          refine A_iload d_Trees_ruleIn_124 rfl ?_
          refine A_pc (pc' := 126) rfl ?_
          refine A_iload d_Trees_ruleIn_126 rfl ?_
          refine A_icmp_gt (tgt := 135) d_Trees_ruleIn_128 (by decide) (fun c => ?_) (fun c => ?_)
          · replace H := H.1 c
            refine A_iconst d_Trees_ruleIn_135 rfl ?_
            refine A_pc (pc' := 136) rfl ?_
            exact b_Trees_ruleIn_136 ha1 hX65  hb8 H
          · replace H := H.2 c
            refine A_iconst d_Trees_ruleIn_131 rfl ?_
            refine A_goto (tgt := 136) d_Trees_ruleIn_132 (by decide) ?_
            refine A_pc (pc' := 136) rfl ?_
            exact b_Trees_ruleIn_136 ha1 hX65  hb8 H
        · replace H := H.2 c
          refine A_pc (pc' := 99) rfl ?_
          refine A_free (L' := [none, none, none, none, none, none, some (av_I z3), none, none, none]) (And.intro rfl trivial) ?_
          exact b_Trees_ruleIn_99 ha1   hb2 H
theorem lp_Trees_ruleIn_65 {G : cx_T} {s : Nat} {a1 : Nat} {a2 : Int} {a3 : Int} (ha1 : isS a1) {Q : Option av_T → ah_T → Prop} (I : Int → Int → ah_T → Prop) (μ : Int → Int → ah_T → Nat) (hI : ∀ (v4 : Int) (v5 : Int) (h : ah_T), hb s h → I v4 v5 h → B_Trees_ruleIn_65 G s a1 a2 a3 v4 v5 h Q (fun v4' v5' h' => I v4' v5' h' ∧ μ v4' v5' h' < μ v4 v5 h)) : ∀ (v4 : Int) (v5 : Int) (h : ah_T), hb s h → I v4 v5 h → aw G (rm_R 5 0 0) m_Trees_ruleIn 0 0 65 [some (av_R (some 162)), some (av_R (some a1)), none, none, some (av_I v4), some (av_I v5), none, none, none, none] [] h Q := by
  have key : ∀ (n : Nat) (v4 : Int) (v5 : Int) (h : ah_T), hb s h → I v4 v5 h → μ v4 v5 h < n → aw G (rm_R 5 0 0) m_Trees_ruleIn 0 0 65 [some (av_R (some 162)), some (av_R (some a1)), none, none, some (av_I v4), some (av_I v5), none, none, none, none] [] h Q := by
    intro n
    induction n with
    | zero => intro v4 v5 h  hb0 hi hm; omega
    | succ n ih => intro v4 v5 h  hb0 hi hm; exact b_Trees_ruleIn_65 ha1 (fun v4' v5' h'  hb' hx => ih v4' v5' h'  hb' hx.1 (by have := hx.2; omega))  hb0 (hI v4 v5 h  hb0 hi)
  exact fun v4 v5 h  hb0 hi => key _ v4 v5 h  hb0 hi (Nat.lt_succ_self _)
def B_Trees_ruleIn_28 (G : cx_T) (s : Nat) (a1 : Nat) (a2 : Int) (a3 : Int) (h : ah_T) (Q : Option av_T → ah_T → Prop) : Prop :=
 Q (some (av_I (-1))) h
theorem b_Trees_ruleIn_28 {G : cx_T} {s : Nat} {a1 : Nat} {a2 : Int} {a3 : Int} (ha1 : isS a1) {h : ah_T} {Q : Option av_T → ah_T → Prop} (hb0 : hb s h) (H : B_Trees_ruleIn_28 G s a1 a2 a3 h Q ) : aw G (rm_R 5 0 0) m_Trees_ruleIn 0 0 28 [none, none, none, none, none, none, none, none, none, none] [] h Q := by
  unfold B_Trees_ruleIn_28 at H
  have hS : isS s := hb0.2.1
  refine A_iconst d_Trees_ruleIn_28 rfl ?_
  exact A_iret d_Trees_ruleIn_29 (by decide) rfl H
def B_Trees_ruleIn_0 (G : cx_T) (s : Nat) (a1 : Nat) (a2 : Int) (a3 : Int) (h : ah_T) (Q : Option av_T → ah_T → Prop) (X65 : Int → Int → ah_T → Prop) : Prop :=
 ((a2 < 0 → B_Trees_ruleIn_28 G s a1 a2 a3 h Q ) ∧ (¬ a2 < 0 → ∀ x1 : Int, x1 = h.2.1 162 1 → -2147483648 ≤ x1 → x1 ≤ 2147483647 → ((x1 ≤ a2 → B_Trees_ruleIn_28 G s a1 a2 a3 h Q ) ∧ (¬ x1 ≤ a2 → ((a3 < 0 → B_Trees_ruleIn_28 G s a1 a2 a3 h Q ) ∧ (¬ a3 < 0 → ∀ x2 : Int, x2 = h.2.1 a1 12 → -2147483648 ≤ x2 → x2 ≤ 2147483647 → ((-2147483648) ≤ (2 * x2) ∧ (2 * x2) ≤ 2147483647) ∧ ((-2147483648) ≤ (2 * x2 - 1) ∧ (2 * x2 - 1) ≤ 2147483647) ∧ ((a3 < (2 * x2 - 1) → ∀ x6 : Int, x6 = h.2.1 (a1 + 3) 0 → -2147483648 ≤ x6 → x6 ≤ 2147483647 → ∀ h7 : ah_T, h7 = st_i h 162 2 x6 → ∀ h9 : ah_T, h9 = st_i h7 162 3 0 → ∀ x11 : Int, x11 = h9.2.1 a1 12 → -2147483648 ≤ x11 → x11 ≤ 2147483647 → ∀ h12 : ah_T, h12 = st_i h9 162 4 x11 → ∀ h14 : ah_T, h14 = st_l h12 162 5 a2 → X65 (a3) (0) h14) ∧ (¬ a3 < (2 * x2 - 1) → B_Trees_ruleIn_28 G s a1 a2 a3 h Q ))))))))
theorem b_Trees_ruleIn_0 {G : cx_T} {s : Nat} {a1 : Nat} {a2 : Int} {a3 : Int} (ha1 : isS a1) {h : ah_T} {Q : Option av_T → ah_T → Prop} {X65 : Int → Int → ah_T → Prop} (hX65 : ∀ (v4 : Int) (v5 : Int) (h : ah_T), hb s h → X65 v4 v5 h → aw G (rm_R 5 0 0) m_Trees_ruleIn 0 0 65 [some (av_R (some 162)), some (av_R (some a1)), none, none, some (av_I v4), some (av_I v5), none, none, none, none] [] h Q) (hb0 : hb s h) (H : B_Trees_ruleIn_0 G s a1 a2 a3 h Q X65) : aw G (rm_R 5 0 0) m_Trees_ruleIn 0 0 0 [some (av_R (some 162)), some (av_R (some a1)), some (av_I a2), some (av_I a3), none, none, none, none, none, none] [] h Q := by
  unfold B_Trees_ruleIn_0 at H
  have hS : isS s := hb0.2.1
  refine A_iload_n 2 d_Trees_ruleIn_0 rfl rfl ?_
  refine A_if_lt (tgt := 28) d_Trees_ruleIn_1 (by decide) (fun c => ?_) (fun c => ?_)
  · replace H := H.1 c
    refine A_pc (pc' := 28) rfl ?_
    refine A_free (L' := [none, none, none, none, none, none, none, none, none, none]) trivial ?_
    exact b_Trees_ruleIn_28 ha1   hb0 H
  · replace H := H.2 c
    refine A_iload_n 2 d_Trees_ruleIn_4 rfl rfl ?_
    refine A_aload_n 0 d_Trees_ruleIn_5 rfl rfl ?_
    refine A_getIf T_ok d_Trees_ruleIn_6 f_Trees_15 (hb_s hb0 sf_162) (fun x1 ex1 lx1 ux1 => ?_)
    replace H := H x1 ex1 lx1 ux1
    refine A_icmp_ge (tgt := 28) d_Trees_ruleIn_9 (by decide) (fun c => ?_) (fun c => ?_)
    · replace H := H.1 c
      refine A_pc (pc' := 28) rfl ?_
      refine A_free (L' := [none, none, none, none, none, none, none, none, none, none]) trivial ?_
      exact b_Trees_ruleIn_28 ha1   hb0 H
    · replace H := H.2 c
      refine A_iload_n 3 d_Trees_ruleIn_12 rfl rfl ?_
      refine A_if_lt (tgt := 28) d_Trees_ruleIn_13 (by decide) (fun c => ?_) (fun c => ?_)
      · replace H := H.1 c
        refine A_pc (pc' := 28) rfl ?_
        refine A_free (L' := [none, none, none, none, none, none, none, none, none, none]) trivial ?_
        exact b_Trees_ruleIn_28 ha1   hb0 H
      · replace H := H.2 c
        refine A_iload_n 3 d_Trees_ruleIn_16 rfl rfl ?_
        refine A_iconst d_Trees_ruleIn_17 rfl ?_
        refine A_aload_n 1 d_Trees_ruleIn_18 rfl rfl ?_
        refine A_getIf T_ok d_Trees_ruleIn_19 f_Trees_23 (hs_S hb0 ha1) (fun x2 ex2 lx2 ux2 => ?_)
        replace H := H x2 ex2 lx2 ux2
        have g3 := H.1
        replace H := H.2
        refine A_imulv (z := (2 * x2)) d_Trees_ruleIn_22 (w32_to (by omega) (by unfold i32; omega)) ?_
        refine A_pc (pc' := 23) rfl ?_
        refine A_iconst d_Trees_ruleIn_23 rfl ?_
        have g4 := H.1
        replace H := H.2
        refine A_isubv (z := (2 * x2 - 1)) d_Trees_ruleIn_24 (w32_to (by omega) (by unfold i32; omega)) ?_
        refine A_icmp_lt (tgt := 30) d_Trees_ruleIn_25 (by decide) (fun c => ?_) (fun c => ?_)
        · replace H := H.1 c
          refine A_aload_n 0 d_Trees_ruleIn_30 rfl rfl ?_
          refine A_aload_n 1 d_Trees_ruleIn_31 rfl rfl ?_
          refine A_getAv (z := some (a1 + 3)) T_ok d_Trees_ruleIn_32 f_Trees_32 (hs_S hb0 ha1) (hr_S_7 hb0 ha1) ?_
          refine A_iconst d_Trees_ruleIn_35 rfl ?_
          refine A_ialoadf d_Trees_ruleIn_36 (hs_S_7 hb0 ha1) (by decide) (by decide) (fun x6 ex6 lx6 ux6 => ?_)
          replace H := H x6 ex6 lx6 ux6
          refine A_pc (pc' := 37) rfl ?_
          refine A_putI T_ok d_Trees_ruleIn_37 f_Trees_67 (hb_s hb0 sf_162) fin_f ?_
          refine A_hn (fun h7 eh7 => ?_)
          have hb8 := hb_i hb0 eh7
          replace H := H h7 eh7
          refine A_aload_n 0 d_Trees_ruleIn_40 rfl rfl ?_
          refine A_iconst d_Trees_ruleIn_41 rfl ?_
          refine A_putI T_ok d_Trees_ruleIn_42 f_Trees_70 (hb_s hb8 sf_162) fin_f ?_
          refine A_hn (fun h9 eh9 => ?_)
          have hb10 := hb_i hb8 eh9
          replace H := H h9 eh9
          refine A_aload_n 0 d_Trees_ruleIn_45 rfl rfl ?_
          refine A_aload_n 1 d_Trees_ruleIn_46 rfl rfl ?_
          refine A_pc (pc' := 47) rfl ?_
          refine A_getIf T_ok d_Trees_ruleIn_47 f_Trees_23 (hs_S hb10 ha1) (fun x11 ex11 lx11 ux11 => ?_)
          replace H := H x11 ex11 lx11 ux11
          refine A_putI T_ok d_Trees_ruleIn_50 f_Trees_73 (hb_s hb10 sf_162) fin_f ?_
          refine A_hn (fun h12 eh12 => ?_)
          have hb13 := hb_i hb10 eh12
          replace H := H h12 eh12
          refine A_aload_n 0 d_Trees_ruleIn_53 rfl rfl ?_
          refine A_iload_n 2 d_Trees_ruleIn_54 rfl rfl ?_
          refine A_i2l d_Trees_ruleIn_55 ?_
          refine A_putL T_ok d_Trees_ruleIn_56 f_Trees_76 (hb_s hb13 sf_162) fin_f ?_
          refine A_hn (fun h14 eh14 => ?_)
          have hb15 := hb_l hb13 eh14
          replace H := H h14 eh14
          refine A_pc (pc' := 59) rfl ?_
          refine A_iload_n 3 d_Trees_ruleIn_59 rfl rfl ?_
          refine A_istore (L' := [some (av_R (some 162)), some (av_R (some a1)), some (av_I a2), some (av_I a3), some (av_I a3), none, none, none, none, none]) d_Trees_ruleIn_60 (Nat.le_of_ble_eq_true rfl) rfl ?_
          refine A_iconst d_Trees_ruleIn_62 rfl ?_
          refine A_istore (L' := [some (av_R (some 162)), some (av_R (some a1)), some (av_I a2), some (av_I a3), some (av_I a3), some (av_I 0), none, none, none, none]) d_Trees_ruleIn_63 (Nat.le_of_ble_eq_true rfl) rfl ?_
          refine A_pc (pc' := 65) rfl ?_
          refine A_free (L' := [some (av_R (some 162)), some (av_R (some a1)), none, none, some (av_I a3), some (av_I 0), none, none, none, none]) (And.intro rfl (And.intro rfl (And.intro rfl (And.intro rfl trivial)))) ?_
          exact hX65 (a3) (0) h14  hb15 H
        · replace H := H.2 c
          refine A_pc (pc' := 28) rfl ?_
          refine A_free (L' := [none, none, none, none, none, none, none, none, none, none]) trivial ?_
          exact b_Trees_ruleIn_28 ha1   hb0 H
theorem c_Trees_ruleIn {G : cx_T} {s : Nat} {a1 : Nat} {a2 : Int} {a3 : Int} (ha1 : isS a1) {h : ah_T} {Q : Option av_T → ah_T → Prop} {X65 : Int → Int → ah_T → Prop} (hX65 : ∀ (v4 : Int) (v5 : Int) (h : ah_T), hb s h → X65 v4 v5 h → aw G (rm_R 5 0 0) m_Trees_ruleIn 0 0 65 [some (av_R (some 162)), some (av_R (some a1)), none, none, some (av_I v4), some (av_I v5), none, none, none, none] [] h Q) (hb0 : hb s h) (H : i32 a2 → i32 a3 → B_Trees_ruleIn_0 G s a1 a2 a3 h Q X65) : con G 5 0 0 m_Trees_ruleIn [av_R (some 162), av_R (some a1), av_I a2, av_I a3] h Q := by
  have hS : isS s := hb0.2.1
  refine con_of (L := [some (av_R (some 162)), some (av_R (some a1)), some (av_I a2), some (av_I a3), none, none, none, none, none, none]) (by decide +kernel) (Nat.le_of_ble_eq_true rfl) rfl ?_
  refine A_locI 2 rfl (fun ra2 => ?_)
  refine A_locI 3 rfl (fun ra3 => ?_)
  exact b_Trees_ruleIn_0 ha1 hX65 hb0 (H ra2 ra3)
def B_PM_readings_20 (G : cx_T) (s : Nat) (h : ah_T) (Q : Option av_T → ah_T → Prop) : Prop :=
 Q (some (av_I (-2))) h
theorem b_PM_readings_20 {G : cx_T} {s : Nat} {h : ah_T} {Q : Option av_T → ah_T → Prop} (hb0 : hb s h) (H : B_PM_readings_20 G s h Q ) : aw G (rm_R 6 0 0) m_PM_readings 0 0 20 [none] [] h Q := by
  unfold B_PM_readings_20 at H
  have hS : isS s := hb0.2.1
  refine A_bipush d_PM_readings_20 rfl ?_
  exact A_iret d_PM_readings_22 (by decide) rfl H
def B_PM_readings_0 (G : cx_T) (s : Nat) (h : ah_T) (Q : Option av_T → ah_T → Prop) : Prop :=
 ∀ x2 : Int, x2 = h.2.1 (97 - s) 10 → -2147483648 ≤ x2 → x2 ≤ 2147483647 → ((x2 = 0 → B_PM_readings_20 G s h Q ) ∧ (¬ x2 = 0 → ∀ x4 : Int, x4 = h.2.1 (97 - s) 12 → -2147483648 ≤ x4 → x4 ≤ 2147483647 → ((x4 = 0 → B_PM_readings_20 G s h Q ) ∧ (¬ x4 = 0 → con G 5 0 0 m_Trees_find [av_R (some 162), av_R (some (97 - s))] h (fun r h7 => ∃ z9 : Int, r = some (av_I z9) ∧ hb s h7 ∧ Q (some (av_I z9)) h7)))))
theorem b_PM_readings_0 {G : cx_T} {s : Nat} {h : ah_T} {Q : Option av_T → ah_T → Prop} (hb0 : hb s h) (H : B_PM_readings_0 G s h Q ) : aw G (rm_R 6 0 0) m_PM_readings 0 0 0 [some (av_R (some 0))] [] h Q := by
  unfold B_PM_readings_0 at H
  have hS : isS s := hb0.2.1
  refine A_aload_n 0 d_PM_readings_0 rfl rfl ?_
  refine A_getOv (z := some (97 - s)) T_ok d_PM_readings_1 f_PM_27 (hb_s hb0 sf_0) hb0.2.2.1 ?_
  refine A_getIf T_ok d_PM_readings_4 f_PM_110 (hs_S hb0 (isS_o hS)) (fun x2 ex2 lx2 ux2 => ?_)
  replace H := H x2 ex2 lx2 ux2
  refine A_if_eq (tgt := 20) d_PM_readings_7 (by decide) (fun c => ?_) (fun c => ?_)
  · replace H := H.1 c
    refine A_pc (pc' := 20) rfl ?_
    refine A_free (L' := [none]) trivial ?_
    exact b_PM_readings_20    hb0 H
  · replace H := H.2 c
    refine A_aload_n 0 d_PM_readings_10 rfl rfl ?_
    refine A_getOv (z := some (97 - s)) T_ok d_PM_readings_11 f_PM_27 (hb_s hb0 sf_0) hb0.2.2.1 ?_
    refine A_getIf T_ok d_PM_readings_14 f_PM_113 (hs_S hb0 (isS_o hS)) (fun x4 ex4 lx4 ux4 => ?_)
    replace H := H x4 ex4 lx4 ux4
    refine A_if_ne (tgt := 23) d_PM_readings_17 (by decide) (fun c => ?_) (fun c => ?_)
    · replace H := H.2 c
      refine A_aload_n 0 d_PM_readings_23 rfl rfl ?_
      refine A_getOv (z := some 162) T_ok d_PM_readings_24 f_PM_65 (hb_s hb0 sf_0) (hb_r hb0 rff_0_9) ?_
      refine A_aload_n 0 d_PM_readings_27 rfl rfl ?_
      refine A_getOv (z := some (97 - s)) T_ok d_PM_readings_28 f_PM_27 (hb_s hb0 sf_0) hb0.2.2.1 ?_
      refine A_callV1 m_Trees_find T_ok d_PM_readings_31 l_PM_186 k_Trees_find (hb_s hb0 sf_162) rfl (by decide +kernel) (by decide) (Nat.le_of_ble_eq_true rfl) H (fun r h7 hq => ?_)
      clear H
      obtain ⟨z9, rfl, hb8, H⟩ := hq
      exact A_iret d_PM_readings_34 (by decide) rfl H
    · replace H := H.1 c
      refine A_pc (pc' := 20) rfl ?_
      refine A_free (L' := [none]) trivial ?_
      exact b_PM_readings_20    hb0 H
theorem c_PM_readings {G : cx_T} {s : Nat} {h : ah_T} {Q : Option av_T → ah_T → Prop} (hb0 : hb s h) (H : B_PM_readings_0 G s h Q ) : con G 6 0 0 m_PM_readings [av_R (some 0)] h Q := by
  have hS : isS s := hb0.2.1
  refine con_of (L := [some (av_R (some 0))]) (by decide +kernel) (Nat.le_of_ble_eq_true rfl) rfl ?_
  exact b_PM_readings_0   hb0 (H )
def B_PM_tree_0 (G : cx_T) (s : Nat) (a1 : Int) (a2 : Int) (h : ah_T) (Q : Option av_T → ah_T → Prop) : Prop :=
 con G 5 0 0 m_Trees_ruleIn [av_R (some 162), av_R (some (97 - s)), av_I a1, av_I a2] h (fun r h3 => ∃ z5 : Int, r = some (av_I z5) ∧ hb s h3 ∧ Q (some (av_I z5)) h3)
theorem b_PM_tree_0 {G : cx_T} {s : Nat} {a1 : Int} {a2 : Int} {h : ah_T} {Q : Option av_T → ah_T → Prop} (hb0 : hb s h) (H : B_PM_tree_0 G s a1 a2 h Q ) : aw G (rm_R 6 0 0) m_PM_tree 0 0 0 [some (av_R (some 0)), some (av_I a1), some (av_I a2)] [] h Q := by
  unfold B_PM_tree_0 at H
  have hS : isS s := hb0.2.1
  refine A_aload_n 0 d_PM_tree_0 rfl rfl ?_
  refine A_getOv (z := some 162) T_ok d_PM_tree_1 f_PM_65 (hb_s hb0 sf_0) (hb_r hb0 rff_0_9) ?_
  refine A_aload_n 0 d_PM_tree_4 rfl rfl ?_
  refine A_getOv (z := some (97 - s)) T_ok d_PM_tree_5 f_PM_27 (hb_s hb0 sf_0) hb0.2.2.1 ?_
  refine A_iload_n 1 d_PM_tree_8 rfl rfl ?_
  refine A_pc (pc' := 9) rfl ?_
  refine A_iload_n 2 d_PM_tree_9 rfl rfl ?_
  refine A_callV3 m_Trees_ruleIn T_ok d_PM_tree_10 l_PM_188 k_Trees_ruleIn (hb_s hb0 sf_162) rfl (by decide +kernel) (by decide) (Nat.le_of_ble_eq_true rfl) H (fun r h3 hq => ?_)
  clear H
  obtain ⟨z5, rfl, hb4, H⟩ := hq
  exact A_iret d_PM_tree_13 (by decide) rfl H
theorem c_PM_tree {G : cx_T} {s : Nat} {a1 : Int} {a2 : Int} {h : ah_T} {Q : Option av_T → ah_T → Prop} (hb0 : hb s h) (H : i32 a1 → i32 a2 → B_PM_tree_0 G s a1 a2 h Q ) : con G 6 0 0 m_PM_tree [av_R (some 0), av_I a1, av_I a2] h Q := by
  have hS : isS s := hb0.2.1
  refine con_of (L := [some (av_R (some 0)), some (av_I a1), some (av_I a2)]) (by decide +kernel) (Nat.le_of_ble_eq_true rfl) rfl ?_
  refine A_locI 1 rfl (fun ra1 => ?_)
  refine A_locI 2 rfl (fun ra2 => ?_)
  exact b_PM_tree_0   hb0 (H ra1 ra2)
