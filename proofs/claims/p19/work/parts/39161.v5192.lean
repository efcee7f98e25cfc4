/-! ===== verification conditions, 5192 ===== -/
def B_MD_treeAt_0 (G : cx_T) (s : Nat) (a1 : Int) (a2 : Int) (a3 : Int) (h : ah_T) (Q : Option av_T → ah_T → Prop) : Prop :=
 ((-2147483648) ≤ (13 * a1) ∧ (13 * a1) ≤ 2147483647) ∧ ((-2147483648) ≤ (13 * a1 + a2) ∧ (13 * a1 + a2) ≤ 2147483647) ∧ ((-2147483648) ≤ (169 * a1 + 13 * a2) ∧ (169 * a1 + 13 * a2) ≤ 2147483647) ∧ ((-2147483648) ≤ (169 * a1 + 13 * a2 + a3) ∧ (169 * a1 + 13 * a2 + a3) ≤ 2147483647) ∧ Q (some (av_I (169 * a1 + 13 * a2 + a3))) h
theorem b_MD_treeAt_0 {G : cx_T} {s : Nat} {a1 : Int} {a2 : Int} {a3 : Int} {h : ah_T} {Q : Option av_T → ah_T → Prop} (hb0 : hb s h) (H : B_MD_treeAt_0 G s a1 a2 a3 h Q ) : aw G (rm_R 0 0 0) m_MD_treeAt 0 0 0 [some (av_R (some 170)), some (av_I a1), some (av_I a2), some (av_I a3)] [] h Q := by
  unfold B_MD_treeAt_0 at H
  have hS : isS s := hb0.2.1
  refine A_iload_n 1 d_MD_treeAt_0 rfl rfl ?_
  refine A_bipush d_MD_treeAt_1 rfl ?_
  have g1 := H.1
  replace H := H.2
  refine A_imulv (z := (13 * a1)) d_MD_treeAt_3 (w32_to (by omega) (by unfold i32; omega)) ?_
  refine A_iload_n 2 d_MD_treeAt_4 rfl rfl ?_
  have g2 := H.1
  replace H := H.2
  refine A_iaddv (z := (13 * a1 + a2)) d_MD_treeAt_5 (w32_to (by omega) (by unfold i32; omega)) ?_
  refine A_pc (pc' := 6) rfl ?_
  refine A_bipush d_MD_treeAt_6 rfl ?_
  have g3 := H.1
  replace H := H.2
  refine A_imulv (z := (169 * a1 + 13 * a2)) d_MD_treeAt_8 (w32_to (by omega) (by unfold i32; omega)) ?_
  refine A_iload_n 3 d_MD_treeAt_9 rfl rfl ?_
  have g4 := H.1
  replace H := H.2
  refine A_iaddv (z := (169 * a1 + 13 * a2 + a3)) d_MD_treeAt_10 (w32_to (by omega) (by unfold i32; omega)) ?_
  exact A_iret d_MD_treeAt_11 (by decide) rfl H
theorem c_MD_treeAt {G : cx_T} {s : Nat} {a1 : Int} {a2 : Int} {a3 : Int} {h : ah_T} {Q : Option av_T → ah_T → Prop} (hb0 : hb s h) (H : i32 a1 → i32 a2 → i32 a3 → B_MD_treeAt_0 G s a1 a2 a3 h Q ) : con G 0 0 0 m_MD_treeAt [av_R (some 170), av_I a1, av_I a2, av_I a3] h Q := by
  have hS : isS s := hb0.2.1
  refine con_of (L := [some (av_R (some 170)), some (av_I a1), some (av_I a2), some (av_I a3)]) (by decide +kernel) (Nat.le_of_ble_eq_true rfl) rfl ?_
  refine A_locI 1 rfl (fun ra1 => ?_)
  refine A_locI 2 rfl (fun ra2 => ?_)
  refine A_locI 3 rfl (fun ra3 => ?_)
  exact b_MD_treeAt_0   hb0 (H ra1 ra2 ra3)
def B_MD_capped_15 (G : cx_T) (s : Nat) (a1 : Int) (t0 : Int) (h : ah_T) (Q : Option av_T → ah_T → Prop) : Prop :=
 Q (some (av_L t0)) h
theorem b_MD_capped_15 {G : cx_T} {s : Nat} {a1 : Int} {t0 : Int} {h : ah_T} {Q : Option av_T → ah_T → Prop} (hb0 : hb s h) (H : B_MD_capped_15 G s a1 t0 h Q ) : aw G (rm_R 0 0 0) m_MD_capped 0 0 15 [none, none, none] [av_L t0] h Q := by
  unfold B_MD_capped_15 at H
  have hS : isS s := hb0.2.1
  exact A_lret d_MD_capped_15 (by decide) rfl H
def B_MD_capped_0 (G : cx_T) (s : Nat) (a1 : Int) (h : ah_T) (Q : Option av_T → ah_T → Prop) : Prop :=
 ((a1 ≤ 1000001 → B_MD_capped_15 G s a1 (a1) h Q ) ∧ (¬ a1 ≤ 1000001 → B_MD_capped_15 G s a1 (1000001) h Q ))
theorem b_MD_capped_0 {G : cx_T} {s : Nat} {a1 : Int} {h : ah_T} {Q : Option av_T → ah_T → Prop} (hb0 : hb s h) (H : B_MD_capped_0 G s a1 h Q ) : aw G (rm_R 0 0 0) m_MD_capped 0 0 0 [some (av_R (some 170)), some (av_L a1), none] [] h Q := by
  unfold B_MD_capped_0 at H
  have hS : isS s := hb0.2.1
  refine A_lload_n 1 d_MD_capped_0 rfl rfl ?_
  refine A_ldc2 (z := 1000001) d_MD_capped_1 cst_MD_581 rfl ?_
  refine A_lcmpn d_MD_capped_4 (fun x1 lx1 ex1 gx1 _ _ => ?_)
  refine A_if_le (tgt := 14) d_MD_capped_5 (by decide) (fun c => ?_) (fun c => ?_)
  · replace H := H.1 (by omega)
    refine A_lload_n 1 d_MD_capped_14 rfl rfl ?_
    refine A_pc (pc' := 15) rfl ?_
    refine A_free (L' := [none, none, none]) trivial ?_
    exact b_MD_capped_15    hb0 H
  · replace H := H.2 (by omega)
    refine A_ldc2 (z := 1000001) d_MD_capped_8 cst_MD_581 rfl ?_
    refine A_goto (tgt := 15) d_MD_capped_11 (by decide) ?_
    refine A_pc (pc' := 15) rfl ?_
    refine A_free (L' := [none, none, none]) trivial ?_
    exact b_MD_capped_15    hb0 H
theorem c_MD_capped {G : cx_T} {s : Nat} {a1 : Int} {h : ah_T} {Q : Option av_T → ah_T → Prop} (hb0 : hb s h) (H : i64 a1 → B_MD_capped_0 G s a1 h Q ) : con G 0 0 0 m_MD_capped [av_R (some 170), av_L a1] h Q := by
  have hS : isS s := hb0.2.1
  refine con_of (L := [some (av_R (some 170)), some (av_L a1), none]) (by decide +kernel) (Nat.le_of_ble_eq_true rfl) rfl ?_
  refine A_locL 1 rfl (fun ra1 => ?_)
  exact b_MD_capped_0   hb0 (H ra1)
def B_MD_byRule_34 (G : cx_T) (s : Nat) (a1 : Int) (a2 : Int) (a3 : Int) (a4 : Int) (t0 : Int) (h : ah_T) (Q : Option av_T → ah_T → Prop) : Prop :=
 Q (some (av_L t0)) h
theorem b_MD_byRule_34 {G : cx_T} {s : Nat} {a1 : Int} {a2 : Int} {a3 : Int} {a4 : Int} {t0 : Int} {h : ah_T} {Q : Option av_T → ah_T → Prop} (hb0 : hb s h) (H : B_MD_byRule_34 G s a1 a2 a3 a4 t0 h Q ) : aw G (rm_R 1 0 0) m_MD_byRule 0 0 34 [none, none, none, none, none] [av_L t0] h Q := by
  unfold B_MD_byRule_34 at H
  have hS : isS s := hb0.2.1
  exact A_lret d_MD_byRule_34 (by decide) rfl H
def B_MD_byRule_33 (G : cx_T) (s : Nat) (a1 : Int) (a2 : Int) (a3 : Int) (a4 : Int) (h : ah_T) (Q : Option av_T → ah_T → Prop) : Prop :=
 B_MD_byRule_34 G s a1 a2 a3 a4 (0) h Q 
theorem b_MD_byRule_33 {G : cx_T} {s : Nat} {a1 : Int} {a2 : Int} {a3 : Int} {a4 : Int} {h : ah_T} {Q : Option av_T → ah_T → Prop} (hb0 : hb s h) (H : B_MD_byRule_33 G s a1 a2 a3 a4 h Q ) : aw G (rm_R 1 0 0) m_MD_byRule 0 0 33 [none, none, none, none, none] [] h Q := by
  unfold B_MD_byRule_33 at H
  have hS : isS s := hb0.2.1
  refine A_lconst_0 d_MD_byRule_33 ?_
  refine A_pc (pc' := 34) rfl ?_
  exact b_MD_byRule_34    hb0 H
def B_MD_byRule_0 (G : cx_T) (s : Nat) (a1 : Int) (a2 : Int) (a3 : Int) (a4 : Int) (h : ah_T) (Q : Option av_T → ah_T → Prop) : Prop :=
 (0 ≤ a1 ∧ a1 < 48) ∧ ∀ x2 : Int, x2 = h.2.1 180 (a1).toNat → -2147483648 ≤ x2 → x2 ≤ 2147483647 → ((0 ≤ x2 → ∀ x6 : Int, x6 = h.2.1 179 (a1).toNat → -2147483648 ≤ x6 → x6 ≤ 2147483647 → con G 0 0 0 m_MD_treeAt [av_R (some 170), av_I x6, av_I a2, av_I a4] h (fun r h7 => ∃ z9 : Int, r = some (av_I z9) ∧ hb s h7 ∧ (0 ≤ z9 ∧ z9 < 2704) ∧ ∀ x10 : Int, x10 = h7.2.2.1 231 (z9).toNat → -9223372036854775808 ≤ x10 → x10 ≤ 9223372036854775807 → ∀ x14 : Int, x14 = h7.2.1 180 (a1).toNat → -2147483648 ≤ x14 → x14 ≤ 2147483647 → ((-2147483648) ≤ (a2 + a4) ∧ (a2 + a4) ≤ 2147483647) ∧ ((-2147483648) ≤ (a3 - a4) ∧ (a3 - a4) ≤ 2147483647) ∧ con G 0 0 0 m_MD_treeAt [av_R (some 170), av_I x14, av_I (a2 + a4), av_I (a3 - a4)] h7 (fun r h17 => ∃ z19 : Int, r = some (av_I z19) ∧ hb s h17 ∧ (0 ≤ z19 ∧ z19 < 2704) ∧ ∀ x20 : Int, x20 = h17.2.2.1 231 (z19).toNat → -9223372036854775808 ≤ x20 → x20 ≤ 9223372036854775807 → ∀ x22 : Int, x22 = x10 * x20 → ((-9223372036854775808) ≤ x22 ∧ x22 ≤ 9223372036854775807) ∧ con G 0 0 0 m_MD_capped [av_R (some 170), av_L x22] h17 (fun r h24 => ∃ z26 : Int, r = some (av_L z26) ∧ hb s h24 ∧ Q (some (av_L z26)) h24)))) ∧ (¬ 0 ≤ x2 → ((a3 = 1 → (0 ≤ a2 ∧ a2 < 24) ∧ ∀ x28 : Int, x28 = h.2.1 182 (a2).toNat → -2147483648 ≤ x28 → x28 ≤ 2147483647 → ∀ x31 : Int, x31 = h.2.1 179 (a1).toNat → -2147483648 ≤ x31 → x31 ≤ 2147483647 → ((x28 = x31 → B_MD_byRule_34 G s a1 a2 a3 a4 (1) h Q ) ∧ (¬ x28 = x31 → B_MD_byRule_33 G s a1 a2 a3 a4 h Q ))) ∧ (¬ a3 = 1 → B_MD_byRule_33 G s a1 a2 a3 a4 h Q ))))
theorem b_MD_byRule_0 {G : cx_T} {s : Nat} {a1 : Int} {a2 : Int} {a3 : Int} {a4 : Int} {h : ah_T} {Q : Option av_T → ah_T → Prop} (hb0 : hb s h) (H : B_MD_byRule_0 G s a1 a2 a3 a4 h Q ) : aw G (rm_R 1 0 0) m_MD_byRule 0 0 0 [some (av_R (some 170)), some (av_I a1), some (av_I a2), some (av_I a3), some (av_I a4)] [] h Q := by
  unfold B_MD_byRule_0 at H
  have hS : isS s := hb0.2.1
  refine A_aload_n 0 d_MD_byRule_0 rfl rfl ?_
  refine A_getAv (z := some 180) T_ok d_MD_byRule_1 f_MD_41 (hb_s hb0 sf_170) (hb_m hb0 rfm_22) ?_
  refine A_iload_n 1 d_MD_byRule_4 rfl rfl ?_
  have g3 := H.1
  replace H := H.2
  refine A_ialoadf d_MD_byRule_5 (hb_s hb0 sf_180) g3.1 g3.2 (fun x2 ex2 lx2 ux2 => ?_)
  replace H := H x2 ex2 lx2 ux2
  refine A_if_ge (tgt := 35) d_MD_byRule_6 (by decide) (fun c => ?_) (fun c => ?_)
  · replace H := H.1 c
    refine A_aload_n 0 d_MD_byRule_35 rfl rfl ?_
    refine A_aload_n 0 d_MD_byRule_36 rfl rfl ?_
    refine A_getAv (z := some 231) T_ok d_MD_byRule_37 f_MD_196 (hb_s hb0 sf_170) (hb_m hb0 rfm_99) ?_
    refine A_aload_n 0 d_MD_byRule_40 rfl rfl ?_
    refine A_aload_n 0 d_MD_byRule_41 rfl rfl ?_
    refine A_pc (pc' := 42) rfl ?_
    refine A_getAv (z := some 179) T_ok d_MD_byRule_42 f_MD_38 (hb_s hb0 sf_170) (hb_m hb0 rfm_21) ?_
    refine A_iload_n 1 d_MD_byRule_45 rfl rfl ?_
    refine A_ialoadf d_MD_byRule_46 (hb_s hb0 sf_179) g3.1 g3.2 (fun x6 ex6 lx6 ux6 => ?_)
    replace H := H x6 ex6 lx6 ux6
    refine A_iload_n 2 d_MD_byRule_47 rfl rfl ?_
    refine A_iload d_MD_byRule_48 rfl ?_
    refine A_callV3 m_MD_treeAt T_ok d_MD_byRule_50 l_MD_583 k_MD_treeAt (hb_s hb0 sf_170) rfl (by decide +kernel) (by decide) (Nat.le_of_ble_eq_true rfl) H (fun r h7 hq => ?_)
    clear H
    obtain ⟨z9, rfl, hb8, H⟩ := hq
    have g11 := H.1
    replace H := H.2
    refine A_laloadf d_MD_byRule_53 (hb_s hb8 sf_231) g11.1 g11.2 (fun x10 ex10 lx10 ux10 => ?_)
    replace H := H x10 ex10 lx10 ux10
    refine A_aload_n 0 d_MD_byRule_54 rfl rfl ?_
    refine A_getAv (z := some 231) T_ok d_MD_byRule_55 f_MD_196 (hb_s hb8 sf_170) (hb_m hb8 rfm_99) ?_
    refine A_aload_n 0 d_MD_byRule_58 rfl rfl ?_
    refine A_aload_n 0 d_MD_byRule_59 rfl rfl ?_
    refine A_pc (pc' := 60) rfl ?_
    refine A_getAv (z := some 180) T_ok d_MD_byRule_60 f_MD_41 (hb_s hb8 sf_170) (hb_m hb8 rfm_22) ?_
    refine A_iload_n 1 d_MD_byRule_63 rfl rfl ?_
    refine A_ialoadf d_MD_byRule_64 (hb_s hb8 sf_180) g3.1 g3.2 (fun x14 ex14 lx14 ux14 => ?_)
    replace H := H x14 ex14 lx14 ux14
    refine A_iload_n 2 d_MD_byRule_65 rfl rfl ?_
    refine A_iload d_MD_byRule_66 rfl ?_
    have g15 := H.1
    replace H := H.2
    refine A_iaddv (z := (a2 + a4)) d_MD_byRule_68 (w32_to (by omega) (by unfold i32; omega)) ?_
    refine A_pc (pc' := 69) rfl ?_
    refine A_iload_n 3 d_MD_byRule_69 rfl rfl ?_
    refine A_iload d_MD_byRule_70 rfl ?_
    have g16 := H.1
    replace H := H.2
    refine A_isubv (z := (a3 - a4)) d_MD_byRule_72 (w32_to (by omega) (by unfold i32; omega)) ?_
    refine A_callV3 m_MD_treeAt T_ok d_MD_byRule_73 l_MD_583 k_MD_treeAt (hb_s hb8 sf_170) rfl (by decide +kernel) (by decide) (Nat.le_of_ble_eq_true rfl) H (fun r h17 hq => ?_)
    clear H
    obtain ⟨z19, rfl, hb18, H⟩ := hq
    have g21 := H.1
    replace H := H.2
    refine A_laloadf d_MD_byRule_76 (hb_s hb18 sf_231) g21.1 g21.2 (fun x20 ex20 lx20 ux20 => ?_)
    replace H := H x20 ex20 lx20 ux20
    obtain ⟨x22, ex22⟩ : ∃ z : Int, z = x10 * x20 := ⟨_, rfl⟩
    replace H := H x22 ex22
    have g23 := H.1
    replace H := H.2
    refine A_lmulv (z := x22) d_MD_byRule_77 (w64_to ex22.symm (by unfold i64; omega)) ?_
    refine A_callV1 m_MD_capped T_ok d_MD_byRule_78 l_MD_587 k_MD_capped (hb_s hb18 sf_170) rfl (by decide +kernel) (by decide) (Nat.le_of_ble_eq_true rfl) H (fun r h24 hq => ?_)
    clear H
    obtain ⟨z26, rfl, hb25, H⟩ := hq
    exact A_lret d_MD_byRule_81 (by decide) rfl H
  · replace H := H.2 c
    refine A_iload_n 3 d_MD_byRule_9 rfl rfl ?_
    refine A_iconst d_MD_byRule_10 rfl ?_
    refine A_icmp_ne (tgt := 33) d_MD_byRule_11 (by decide) (fun c => ?_) (fun c => ?_)
    · replace H := H.2 c
      refine A_pc (pc' := 33) rfl ?_
      refine A_free (L' := [none, none, none, none, none]) trivial ?_
      exact b_MD_byRule_33    hb0 H
    · replace H := H.1 c
      refine A_aload_n 0 d_MD_byRule_14 rfl rfl ?_
      refine A_getAv (z := some 182) T_ok d_MD_byRule_15 f_MD_47 (hb_s hb0 sf_170) (hb_m hb0 rfm_24) ?_
      refine A_iload_n 2 d_MD_byRule_18 rfl rfl ?_
      have g29 := H.1
      replace H := H.2
      refine A_ialoadf d_MD_byRule_19 (hb_s hb0 sf_182) g29.1 g29.2 (fun x28 ex28 lx28 ux28 => ?_)
      replace H := H x28 ex28 lx28 ux28
      refine A_aload_n 0 d_MD_byRule_20 rfl rfl ?_
      refine A_pc (pc' := 21) rfl ?_
      refine A_getAv (z := some 179) T_ok d_MD_byRule_21 f_MD_38 (hb_s hb0 sf_170) (hb_m hb0 rfm_21) ?_
      refine A_iload_n 1 d_MD_byRule_24 rfl rfl ?_
      refine A_ialoadf d_MD_byRule_25 (hb_s hb0 sf_179) g3.1 g3.2 (fun x31 ex31 lx31 ux31 => ?_)
      replace H := H x31 ex31 lx31 ux31
      refine A_icmp_ne (tgt := 33) d_MD_byRule_26 (by decide) (fun c => ?_) (fun c => ?_)
      · replace H := H.2 c
        refine A_pc (pc' := 33) rfl ?_
        refine A_free (L' := [none, none, none, none, none]) trivial ?_
        exact b_MD_byRule_33    hb0 H
      · replace H := H.1 c
        refine A_lconst_1 d_MD_byRule_29 ?_
        refine A_goto (tgt := 34) d_MD_byRule_30 (by decide) ?_
        refine A_pc (pc' := 34) rfl ?_
        refine A_free (L' := [none, none, none, none, none]) trivial ?_
        exact b_MD_byRule_34    hb0 H
theorem c_MD_byRule {G : cx_T} {s : Nat} {a1 : Int} {a2 : Int} {a3 : Int} {a4 : Int} {h : ah_T} {Q : Option av_T → ah_T → Prop} (hb0 : hb s h) (H : i32 a1 → i32 a2 → i32 a3 → i32 a4 → B_MD_byRule_0 G s a1 a2 a3 a4 h Q ) : con G 1 0 0 m_MD_byRule [av_R (some 170), av_I a1, av_I a2, av_I a3, av_I a4] h Q := by
  have hS : isS s := hb0.2.1
  refine con_of (L := [some (av_R (some 170)), some (av_I a1), some (av_I a2), some (av_I a3), some (av_I a4)]) (by decide +kernel) (Nat.le_of_ble_eq_true rfl) rfl ?_
  refine A_locI 1 rfl (fun ra1 => ?_)
  refine A_locI 2 rfl (fun ra2 => ?_)
  refine A_locI 3 rfl (fun ra3 => ?_)
  refine A_locI 4 rfl (fun ra4 => ?_)
  exact b_MD_byRule_0   hb0 (H ra1 ra2 ra3 ra4)
def B_MD_readings_158 (G : cx_T) (s : Nat) (v1 : Int) (v2 : Int) (v3 : Int) (v4 : Int) (v6 : Int) (h : ah_T) (Q : Option av_T → ah_T → Prop) (X61 : Int → Int → Int → Int → Int → ah_T → Prop) : Prop :=
 ((-2147483648) ≤ (v6 + 1) ∧ (v6 + 1) ≤ 2147483647) ∧ X61 (v1) (v2) (v3) (v4) ((v6 + 1)) h
theorem b_MD_readings_158 {G : cx_T} {s : Nat} {v1 : Int} {v2 : Int} {v3 : Int} {v4 : Int} {v6 : Int} {h : ah_T} {Q : Option av_T → ah_T → Prop} {X61 : Int → Int → Int → Int → Int → ah_T → Prop} (hX61 : ∀ (v1 : Int) (v2 : Int) (v3 : Int) (v4 : Int) (v6 : Int) (h : ah_T), hb s h → X61 v1 v2 v3 v4 v6 h → aw G (rm_R 2 0 0) m_MD_readings 0 0 61 [some (av_R (some 170)), some (av_I v1), some (av_I v2), some (av_I v3), some (av_L v4), none, some (av_I v6), none] [] h Q) (hb0 : hb s h) (H : B_MD_readings_158 G s v1 v2 v3 v4 v6 h Q X61) : aw G (rm_R 2 0 0) m_MD_readings 0 0 158 [some (av_R (some 170)), some (av_I v1), some (av_I v2), some (av_I v3), some (av_L v4), none, some (av_I v6), none] [] h Q := by
  unfold B_MD_readings_158 at H
  have hS : isS s := hb0.2.1
  have g1 := H.1
  replace H := H.2
  refine A_iincv (z := (v6 + 1)) (L' := [some (av_R (some 170)), some (av_I v1), some (av_I v2), some (av_I v3), some (av_L v4), none, some (av_I (v6 + 1)), none]) d_MD_readings_158 rfl (w32_to (by omega) (by unfold i32; omega)) rfl ?_
  refine A_goto (tgt := 61) d_MD_readings_161 (by decide) ?_
  refine A_pc (pc' := 61) rfl ?_
  exact hX61 (v1) (v2) (v3) (v4) ((v6 + 1)) h  hb0 H
def B_MD_readings_117 (G : cx_T) (s : Nat) (v1 : Int) (v2 : Int) (v3 : Int) (v4 : Int) (v6 : Int) (v7 : Int) (h : ah_T) (Q : Option av_T → ah_T → Prop) (X61 : Int → Int → Int → Int → Int → ah_T → Prop) (X117 : Int → Int → Int → Int → Int → Int → ah_T → Prop) : Prop :=
 ((v1 ≤ v7 → B_MD_readings_158 G s (v1) (v2) (v3) (v4) (v6) h Q X61) ∧ (¬ v1 ≤ v7 → (0 ≤ v6 ∧ v6 < 48) ∧ ∀ x2 : Int, x2 = h.2.1 180 (v6).toNat → -2147483648 ≤ x2 → x2 ≤ 2147483647 → ((x2 < 0 → B_MD_readings_158 G s (v1) (v2) (v3) (v4) (v6) h Q X61) ∧ (¬ x2 < 0 → con G 1 0 0 m_MD_byRule [av_R (some 170), av_I v6, av_I v2, av_I v1, av_I v7] h (fun r h4 => ∃ z6 : Int, r = some (av_L z6) ∧ hb s h4 ∧ ((-9223372036854775808) ≤ (v4 + z6) ∧ (v4 + z6) ≤ 9223372036854775807) ∧ con G 0 0 0 m_MD_capped [av_R (some 170), av_L (v4 + z6)] h4 (fun r h8 => ∃ z10 : Int, r = some (av_L z10) ∧ hb s h8 ∧ ((-2147483648) ≤ (v7 + 1) ∧ (v7 + 1) ≤ 2147483647) ∧ X117 (v1) (v2) (v3) (z10) (v6) ((v7 + 1)) h8))))))
theorem b_MD_readings_117 {G : cx_T} {s : Nat} {v1 : Int} {v2 : Int} {v3 : Int} {v4 : Int} {v6 : Int} {v7 : Int} {h : ah_T} {Q : Option av_T → ah_T → Prop} {X61 : Int → Int → Int → Int → Int → ah_T → Prop} {X117 : Int → Int → Int → Int → Int → Int → ah_T → Prop} (hX61 : ∀ (v1 : Int) (v2 : Int) (v3 : Int) (v4 : Int) (v6 : Int) (h : ah_T), hb s h → X61 v1 v2 v3 v4 v6 h → aw G (rm_R 2 0 0) m_MD_readings 0 0 61 [some (av_R (some 170)), some (av_I v1), some (av_I v2), some (av_I v3), some (av_L v4), none, some (av_I v6), none] [] h Q) (hX117 : ∀ (v1 : Int) (v2 : Int) (v3 : Int) (v4 : Int) (v6 : Int) (v7 : Int) (h : ah_T), hb s h → X117 v1 v2 v3 v4 v6 v7 h → aw G (rm_R 2 0 0) m_MD_readings 0 0 117 [some (av_R (some 170)), some (av_I v1), some (av_I v2), some (av_I v3), some (av_L v4), none, some (av_I v6), some (av_I v7)] [] h Q) (hb0 : hb s h) (H : B_MD_readings_117 G s v1 v2 v3 v4 v6 v7 h Q X61 X117) : aw G (rm_R 2 0 0) m_MD_readings 0 0 117 [some (av_R (some 170)), some (av_I v1), some (av_I v2), some (av_I v3), some (av_L v4), none, some (av_I v6), some (av_I v7)] [] h Q := by
  unfold B_MD_readings_117 at H
  have hS : isS s := hb0.2.1
  refine A_iload d_MD_readings_117 rfl ?_
  refine A_iload_n 1 d_MD_readings_119 rfl rfl ?_
  refine A_icmp_ge (tgt := 158) d_MD_readings_120 (by decide) (fun c => ?_) (fun c => ?_)
  · replace H := H.1 c
    refine A_pc (pc' := 158) rfl ?_
    refine A_free (L' := [some (av_R (some 170)), some (av_I v1), some (av_I v2), some (av_I v3), some (av_L v4), none, some (av_I v6), none]) (And.intro rfl (And.intro rfl (And.intro rfl (And.intro rfl (And.intro rfl (And.intro rfl trivial)))))) ?_
    exact b_MD_readings_158  hX61  hb0 H
  · replace H := H.2 c
    refine A_aload_n 0 d_MD_readings_123 rfl rfl ?_
    refine A_getAv (z := some 180) T_ok d_MD_readings_124 f_MD_41 (hb_s hb0 sf_170) (hb_m hb0 rfm_22) ?_
    refine A_iload d_MD_readings_127 rfl ?_
    have g3 := H.1
    replace H := H.2
    refine A_ialoadf d_MD_readings_129 (hb_s hb0 sf_180) g3.1 g3.2 (fun x2 ex2 lx2 ux2 => ?_)
    replace H := H x2 ex2 lx2 ux2
    refine A_if_lt (tgt := 158) d_MD_readings_130 (by decide) (fun c => ?_) (fun c => ?_)
    · replace H := H.1 c
      refine A_pc (pc' := 158) rfl ?_
      refine A_free (L' := [some (av_R (some 170)), some (av_I v1), some (av_I v2), some (av_I v3), some (av_L v4), none, some (av_I v6), none]) (And.intro rfl (And.intro rfl (And.intro rfl (And.intro rfl (And.intro rfl (And.intro rfl trivial)))))) ?_
      exact b_MD_readings_158  hX61  hb0 H
    · replace H := H.2 c
      refine A_aload_n 0 d_MD_readings_133 rfl rfl ?_
      refine A_lload d_MD_readings_134 rfl ?_
      refine A_aload_n 0 d_MD_readings_136 rfl rfl ?_
      refine A_iload d_MD_readings_137 rfl ?_
      refine A_iload_n 2 d_MD_readings_139 rfl rfl ?_
      refine A_pc (pc' := 140) rfl ?_
      refine A_iload_n 1 d_MD_readings_140 rfl rfl ?_
      refine A_iload d_MD_readings_141 rfl ?_
      refine A_callV4 m_MD_byRule T_ok d_MD_readings_143 l_MD_591 k_MD_byRule (hb_s hb0 sf_170) rfl (by decide +kernel) (by decide) (Nat.le_of_ble_eq_true rfl) H (fun r h4 hq => ?_)
      clear H
      obtain ⟨z6, rfl, hb5, H⟩ := hq
      have g7 := H.1
      replace H := H.2
      refine A_laddv (z := (v4 + z6)) d_MD_readings_146 (w64_to (by omega) (by unfold i64; omega)) ?_
      refine A_callV1 m_MD_capped T_ok d_MD_readings_147 l_MD_587 k_MD_capped (hb_s hb5 sf_170) rfl (by decide +kernel) (by decide) (Nat.le_of_ble_eq_true rfl) H (fun r h8 hq => ?_)
      clear H
      obtain ⟨z10, rfl, hb9, H⟩ := hq
      refine A_lstore (L' := [some (av_R (some 170)), some (av_I v1), some (av_I v2), some (av_I v3), some (av_L z10), none, some (av_I v6), some (av_I v7)]) d_MD_readings_150 (Nat.le_of_ble_eq_true rfl) rfl ?_
      have g11 := H.1
      replace H := H.2
      refine A_iincv (z := (v7 + 1)) (L' := [some (av_R (some 170)), some (av_I v1), some (av_I v2), some (av_I v3), some (av_L z10), none, some (av_I v6), some (av_I (v7 + 1))]) d_MD_readings_152 rfl (w32_to (by omega) (by unfold i32; omega)) rfl ?_
      refine A_goto (tgt := 117) d_MD_readings_155 (by decide) ?_
      refine A_pc (pc' := 117) rfl ?_
      exact hX117 (v1) (v2) (v3) (z10) (v6) ((v7 + 1)) h8  hb9 H
theorem lp_MD_readings_117 {G : cx_T} {s : Nat} {Q : Option av_T → ah_T → Prop} {X61 : Int → Int → Int → Int → Int → ah_T → Prop} (hX61 : ∀ (v1 : Int) (v2 : Int) (v3 : Int) (v4 : Int) (v6 : Int) (h : ah_T), hb s h → X61 v1 v2 v3 v4 v6 h → aw G (rm_R 2 0 0) m_MD_readings 0 0 61 [some (av_R (some 170)), some (av_I v1), some (av_I v2), some (av_I v3), some (av_L v4), none, some (av_I v6), none] [] h Q) (I : Int → Int → Int → Int → Int → Int → ah_T → Prop) (μ : Int → Int → Int → Int → Int → Int → ah_T → Nat) (hI : ∀ (v1 : Int) (v2 : Int) (v3 : Int) (v4 : Int) (v6 : Int) (v7 : Int) (h : ah_T), hb s h → I v1 v2 v3 v4 v6 v7 h → B_MD_readings_117 G s v1 v2 v3 v4 v6 v7 h Q X61 (fun v1' v2' v3' v4' v6' v7' h' => I v1' v2' v3' v4' v6' v7' h' ∧ μ v1' v2' v3' v4' v6' v7' h' < μ v1 v2 v3 v4 v6 v7 h)) : ∀ (v1 : Int) (v2 : Int) (v3 : Int) (v4 : Int) (v6 : Int) (v7 : Int) (h : ah_T), hb s h → I v1 v2 v3 v4 v6 v7 h → aw G (rm_R 2 0 0) m_MD_readings 0 0 117 [some (av_R (some 170)), some (av_I v1), some (av_I v2), some (av_I v3), some (av_L v4), none, some (av_I v6), some (av_I v7)] [] h Q := by
  have key : ∀ (n : Nat) (v1 : Int) (v2 : Int) (v3 : Int) (v4 : Int) (v6 : Int) (v7 : Int) (h : ah_T), hb s h → I v1 v2 v3 v4 v6 v7 h → μ v1 v2 v3 v4 v6 v7 h < n → aw G (rm_R 2 0 0) m_MD_readings 0 0 117 [some (av_R (some 170)), some (av_I v1), some (av_I v2), some (av_I v3), some (av_L v4), none, some (av_I v6), some (av_I v7)] [] h Q := by
    intro n
    induction n with
    | zero => intro v1 v2 v3 v4 v6 v7 h  hb0 hi hm; omega
    | succ n ih => intro v1 v2 v3 v4 v6 v7 h  hb0 hi hm; exact b_MD_readings_117  hX61 (fun v1' v2' v3' v4' v6' v7' h'  hb' hx => ih v1' v2' v3' v4' v6' v7' h'  hb' hx.1 (by have := hx.2; omega))  hb0 (hI v1 v2 v3 v4 v6 v7 h  hb0 hi)
  exact fun v1 v2 v3 v4 v6 v7 h  hb0 hi => key _ v1 v2 v3 v4 v6 v7 h  hb0 hi (Nat.lt_succ_self _)
def B_MD_readings_114 (G : cx_T) (s : Nat) (v1 : Int) (v2 : Int) (v3 : Int) (v4 : Int) (v6 : Int) (h : ah_T) (Q : Option av_T → ah_T → Prop) (X117 : Int → Int → Int → Int → Int → Int → ah_T → Prop) : Prop :=
 X117 (v1) (v2) (v3) (v4) (v6) (1) h
theorem b_MD_readings_114 {G : cx_T} {s : Nat} {v1 : Int} {v2 : Int} {v3 : Int} {v4 : Int} {v6 : Int} {h : ah_T} {Q : Option av_T → ah_T → Prop} {X117 : Int → Int → Int → Int → Int → Int → ah_T → Prop} (hX117 : ∀ (v1 : Int) (v2 : Int) (v3 : Int) (v4 : Int) (v6 : Int) (v7 : Int) (h : ah_T), hb s h → X117 v1 v2 v3 v4 v6 v7 h → aw G (rm_R 2 0 0) m_MD_readings 0 0 117 [some (av_R (some 170)), some (av_I v1), some (av_I v2), some (av_I v3), some (av_L v4), none, some (av_I v6), some (av_I v7)] [] h Q) (hb0 : hb s h) (H : B_MD_readings_114 G s v1 v2 v3 v4 v6 h Q X117) : aw G (rm_R 2 0 0) m_MD_readings 0 0 114 [some (av_R (some 170)), some (av_I v1), some (av_I v2), some (av_I v3), some (av_L v4), none, some (av_I v6), none] [] h Q := by
  unfold B_MD_readings_114 at H
  have hS : isS s := hb0.2.1
  refine A_iconst d_MD_readings_114 rfl ?_
  refine A_istore (L' := [some (av_R (some 170)), some (av_I v1), some (av_I v2), some (av_I v3), some (av_L v4), none, some (av_I v6), some (av_I 1)]) d_MD_readings_115 (Nat.le_of_ble_eq_true rfl) rfl ?_
  refine A_pc (pc' := 117) rfl ?_
  exact hX117 (v1) (v2) (v3) (v4) (v6) (1) h  hb0 H
def B_MD_readings_61 (G : cx_T) (s : Nat) (v1 : Int) (v2 : Int) (v3 : Int) (v4 : Int) (v6 : Int) (h : ah_T) (Q : Option av_T → ah_T → Prop) (X49 : Int → Int → Int → ah_T → Prop) (X61 : Int → Int → Int → Int → Int → ah_T → Prop) (X117 : Int → Int → Int → Int → Int → Int → ah_T → Prop) : Prop :=
 ∀ x2 : Int, x2 = h.2.1 177 0 → -2147483648 ≤ x2 → x2 ≤ 2147483647 → ((x2 ≤ v6 → con G 0 0 0 m_MD_treeAt [av_R (some 170), av_I v3, av_I v2, av_I v1] h (fun r h4 => ∃ z6 : Int, r = some (av_I z6) ∧ hb s h4 ∧ (0 ≤ z6 ∧ z6 < 2704) ∧ ∀ h8 : ah_T, h8 = st_l h4 231 (z6).toNat v4 → ((-2147483648) ≤ (v3 + 1) ∧ (v3 + 1) ≤ 2147483647) ∧ X49 (v1) (v2) ((v3 + 1)) h8)) ∧ (¬ x2 ≤ v6 → (0 ≤ v6 ∧ v6 < 48) ∧ ∀ x12 : Int, x12 = h.2.1 178 (v6).toNat → -2147483648 ≤ x12 → x12 ≤ 2147483647 → ((x12 = v3 → ∀ x15 : Int, x15 = h.2.1 180 (v6).toNat → -2147483648 ≤ x15 → x15 ≤ 2147483647 → ((0 ≤ x15 → B_MD_readings_114 G s (v1) (v2) (v3) (v4) (v6) h Q X117) ∧ (¬ 0 ≤ x15 → con G 1 0 0 m_MD_byRule [av_R (some 170), av_I v6, av_I v2, av_I v1, av_I 0] h (fun r h16 => ∃ z18 : Int, r = some (av_L z18) ∧ hb s h16 ∧ ((-9223372036854775808) ≤ (v4 + z18) ∧ (v4 + z18) ≤ 9223372036854775807) ∧ con G 0 0 0 m_MD_capped [av_R (some 170), av_L (v4 + z18)] h16 (fun r h20 => ∃ z22 : Int, r = some (av_L z22) ∧ hb s h20 ∧ B_MD_readings_114 G s (v1) (v2) (v3) (z22) (v6) h20 Q X117))))) ∧ (¬ x12 = v3 → B_MD_readings_158 G s (v1) (v2) (v3) (v4) (v6) h Q X61))))
theorem b_MD_readings_61 {G : cx_T} {s : Nat} {v1 : Int} {v2 : Int} {v3 : Int} {v4 : Int} {v6 : Int} {h : ah_T} {Q : Option av_T → ah_T → Prop} {X49 : Int → Int → Int → ah_T → Prop} {X61 : Int → Int → Int → Int → Int → ah_T → Prop} {X117 : Int → Int → Int → Int → Int → Int → ah_T → Prop} (hX49 : ∀ (v1 : Int) (v2 : Int) (v3 : Int) (h : ah_T), hb s h → X49 v1 v2 v3 h → aw G (rm_R 2 0 0) m_MD_readings 0 0 49 [some (av_R (some 170)), some (av_I v1), some (av_I v2), some (av_I v3), none, none, none, none] [] h Q) (hX61 : ∀ (v1 : Int) (v2 : Int) (v3 : Int) (v4 : Int) (v6 : Int) (h : ah_T), hb s h → X61 v1 v2 v3 v4 v6 h → aw G (rm_R 2 0 0) m_MD_readings 0 0 61 [some (av_R (some 170)), some (av_I v1), some (av_I v2), some (av_I v3), some (av_L v4), none, some (av_I v6), none] [] h Q) (hX117 : ∀ (v1 : Int) (v2 : Int) (v3 : Int) (v4 : Int) (v6 : Int) (v7 : Int) (h : ah_T), hb s h → X117 v1 v2 v3 v4 v6 v7 h → aw G (rm_R 2 0 0) m_MD_readings 0 0 117 [some (av_R (some 170)), some (av_I v1), some (av_I v2), some (av_I v3), some (av_L v4), none, some (av_I v6), some (av_I v7)] [] h Q) (hb0 : hb s h) (H : B_MD_readings_61 G s v1 v2 v3 v4 v6 h Q X49 X61 X117) : aw G (rm_R 2 0 0) m_MD_readings 0 0 61 [some (av_R (some 170)), some (av_I v1), some (av_I v2), some (av_I v3), some (av_L v4), none, some (av_I v6), none] [] h Q := by
  unfold B_MD_readings_61 at H
  have hS : isS s := hb0.2.1
  refine A_iload d_MD_readings_61 rfl ?_
  refine A_aload_n 0 d_MD_readings_63 rfl rfl ?_
  refine A_getAv (z := some 177) T_ok d_MD_readings_64 f_MD_32 (hb_s hb0 sf_170) (hb_m hb0 rfm_19) ?_
  refine A_iconst d_MD_readings_67 rfl ?_
  refine A_ialoadf d_MD_readings_68 (hb_s hb0 sf_177) (by decide) (by decide) (fun x2 ex2 lx2 ux2 => ?_)
  replace H := H x2 ex2 lx2 ux2
  refine A_pc (pc' := 69) rfl ?_
  refine A_icmp_ge (tgt := 164) d_MD_readings_69 (by decide) (fun c => ?_) (fun c => ?_)
  · replace H := H.1 c
    refine A_aload_n 0 d_MD_readings_164 rfl rfl ?_
    refine A_getAv (z := some 231) T_ok d_MD_readings_165 f_MD_196 (hb_s hb0 sf_170) (hb_m hb0 rfm_99) ?_
    refine A_aload_n 0 d_MD_readings_168 rfl rfl ?_
    refine A_iload_n 3 d_MD_readings_169 rfl rfl ?_
    refine A_iload_n 2 d_MD_readings_170 rfl rfl ?_
    refine A_pc (pc' := 171) rfl ?_
    refine A_iload_n 1 d_MD_readings_171 rfl rfl ?_
    refine A_callV3 m_MD_treeAt T_ok d_MD_readings_172 l_MD_583 k_MD_treeAt (hb_s hb0 sf_170) rfl (by decide +kernel) (by decide) (Nat.le_of_ble_eq_true rfl) H (fun r h4 hq => ?_)
    clear H
    obtain ⟨z6, rfl, hb5, H⟩ := hq
    refine A_lload d_MD_readings_175 rfl ?_
    have g7 := H.1
    replace H := H.2
    refine A_lastoreN d_MD_readings_177 (hb_s hb5 sf_231) g7.1 g7.2 ?_
    refine A_hn (fun h8 eh8 => ?_)
    have hb9 := hb_l hb5 eh8
    replace H := H h8 eh8
    have g10 := H.1
    replace H := H.2
    refine A_iincv (z := (v3 + 1)) (L' := [some (av_R (some 170)), some (av_I v1), some (av_I v2), some (av_I (v3 + 1)), some (av_L v4), none, some (av_I v6), none]) d_MD_readings_178 rfl (w32_to (by omega) (by unfold i32; omega)) rfl ?_
    refine A_goto (tgt := 49) d_MD_readings_181 (by decide) ?_
    refine A_pc (pc' := 49) rfl ?_
    refine A_free (L' := [some (av_R (some 170)), some (av_I v1), some (av_I v2), some (av_I (v3 + 1)), none, none, none, none]) (And.intro rfl (And.intro rfl (And.intro rfl (And.intro rfl trivial)))) ?_
    exact hX49 (v1) (v2) ((v3 + 1)) h8  hb9 H
  · replace H := H.2 c
    refine A_aload_n 0 d_MD_readings_72 rfl rfl ?_
    refine A_getAv (z := some 178) T_ok d_MD_readings_73 f_MD_35 (hb_s hb0 sf_170) (hb_m hb0 rfm_20) ?_
    refine A_iload d_MD_readings_76 rfl ?_
    have g13 := H.1
    replace H := H.2
    refine A_ialoadf d_MD_readings_78 (hb_s hb0 sf_178) g13.1 g13.2 (fun x12 ex12 lx12 ux12 => ?_)
    replace H := H x12 ex12 lx12 ux12
    refine A_iload_n 3 d_MD_readings_79 rfl rfl ?_
    refine A_pc (pc' := 80) rfl ?_
    refine A_icmp_eq (tgt := 86) d_MD_readings_80 (by decide) (fun c => ?_) (fun c => ?_)
    · replace H := H.1 c
      refine A_aload_n 0 d_MD_readings_86 rfl rfl ?_
      refine A_getAv (z := some 180) T_ok d_MD_readings_87 f_MD_41 (hb_s hb0 sf_170) (hb_m hb0 rfm_22) ?_
      refine A_iload d_MD_readings_90 rfl ?_
      refine A_ialoadf d_MD_readings_92 (hb_s hb0 sf_180) g13.1 g13.2 (fun x15 ex15 lx15 ux15 => ?_)
      replace H := H x15 ex15 lx15 ux15
      refine A_if_ge (tgt := 114) d_MD_readings_93 (by decide) (fun c => ?_) (fun c => ?_)
      · replace H := H.1 c
        refine A_pc (pc' := 114) rfl ?_
        exact b_MD_readings_114  hX117  hb0 H
      · replace H := H.2 c
        refine A_aload_n 0 d_MD_readings_96 rfl rfl ?_
        refine A_lload d_MD_readings_97 rfl ?_
        refine A_aload_n 0 d_MD_readings_99 rfl rfl ?_
        refine A_iload d_MD_readings_100 rfl ?_
        refine A_iload_n 2 d_MD_readings_102 rfl rfl ?_
        refine A_pc (pc' := 103) rfl ?_
        refine A_iload_n 1 d_MD_readings_103 rfl rfl ?_
        refine A_iconst d_MD_readings_104 rfl ?_
        refine A_callV4 m_MD_byRule T_ok d_MD_readings_105 l_MD_591 k_MD_byRule (hb_s hb0 sf_170) rfl (by decide +kernel) (by decide) (Nat.le_of_ble_eq_true rfl) H (fun r h16 hq => ?_)
        clear H
        obtain ⟨z18, rfl, hb17, H⟩ := hq
        have g19 := H.1
        replace H := H.2
        refine A_laddv (z := (v4 + z18)) d_MD_readings_108 (w64_to (by omega) (by unfold i64; omega)) ?_
        refine A_callV1 m_MD_capped T_ok d_MD_readings_109 l_MD_587 k_MD_capped (hb_s hb17 sf_170) rfl (by decide +kernel) (by decide) (Nat.le_of_ble_eq_true rfl) H (fun r h20 hq => ?_)
        clear H
        obtain ⟨z22, rfl, hb21, H⟩ := hq
        refine A_lstore (L' := [some (av_R (some 170)), some (av_I v1), some (av_I v2), some (av_I v3), some (av_L z22), none, some (av_I v6), none]) d_MD_readings_112 (Nat.le_of_ble_eq_true rfl) rfl ?_
        refine A_pc (pc' := 114) rfl ?_
        exact b_MD_readings_114  hX117  hb21 H
    · replace H := H.2 c
      refine A_goto (tgt := 158) d_MD_readings_83 (by decide) ?_
      refine A_pc (pc' := 158) rfl ?_
      exact b_MD_readings_158  hX61  hb0 H
theorem lp_MD_readings_61 {G : cx_T} {s : Nat} {Q : Option av_T → ah_T → Prop} {X49 : Int → Int → Int → ah_T → Prop} {X117 : Int → Int → Int → Int → Int → Int → ah_T → Prop} (hX49 : ∀ (v1 : Int) (v2 : Int) (v3 : Int) (h : ah_T), hb s h → X49 v1 v2 v3 h → aw G (rm_R 2 0 0) m_MD_readings 0 0 49 [some (av_R (some 170)), some (av_I v1), some (av_I v2), some (av_I v3), none, none, none, none] [] h Q) (hX117 : ∀ (v1 : Int) (v2 : Int) (v3 : Int) (v4 : Int) (v6 : Int) (v7 : Int) (h : ah_T), hb s h → X117 v1 v2 v3 v4 v6 v7 h → aw G (rm_R 2 0 0) m_MD_readings 0 0 117 [some (av_R (some 170)), some (av_I v1), some (av_I v2), some (av_I v3), some (av_L v4), none, some (av_I v6), some (av_I v7)] [] h Q) (I : Int → Int → Int → Int → Int → ah_T → Prop) (μ : Int → Int → Int → Int → Int → ah_T → Nat) (hI : ∀ (v1 : Int) (v2 : Int) (v3 : Int) (v4 : Int) (v6 : Int) (h : ah_T), hb s h → I v1 v2 v3 v4 v6 h → B_MD_readings_61 G s v1 v2 v3 v4 v6 h Q X49 (fun v1' v2' v3' v4' v6' h' => I v1' v2' v3' v4' v6' h' ∧ μ v1' v2' v3' v4' v6' h' < μ v1 v2 v3 v4 v6 h) X117) : ∀ (v1 : Int) (v2 : Int) (v3 : Int) (v4 : Int) (v6 : Int) (h : ah_T), hb s h → I v1 v2 v3 v4 v6 h → aw G (rm_R 2 0 0) m_MD_readings 0 0 61 [some (av_R (some 170)), some (av_I v1), some (av_I v2), some (av_I v3), some (av_L v4), none, some (av_I v6), none] [] h Q := by
  have key : ∀ (n : Nat) (v1 : Int) (v2 : Int) (v3 : Int) (v4 : Int) (v6 : Int) (h : ah_T), hb s h → I v1 v2 v3 v4 v6 h → μ v1 v2 v3 v4 v6 h < n → aw G (rm_R 2 0 0) m_MD_readings 0 0 61 [some (av_R (some 170)), some (av_I v1), some (av_I v2), some (av_I v3), some (av_L v4), none, some (av_I v6), none] [] h Q := by
    intro n
    induction n with
    | zero => intro v1 v2 v3 v4 v6 h  hb0 hi hm; omega
    | succ n ih => intro v1 v2 v3 v4 v6 h  hb0 hi hm; exact b_MD_readings_61  hX49 (fun v1' v2' v3' v4' v6' h'  hb' hx => ih v1' v2' v3' v4' v6' h'  hb' hx.1 (by have := hx.2; omega)) hX117  hb0 (hI v1 v2 v3 v4 v6 h  hb0 hi)
  exact fun v1 v2 v3 v4 v6 h  hb0 hi => key _ v1 v2 v3 v4 v6 h  hb0 hi (Nat.lt_succ_self _)
def B_MD_readings_49 (G : cx_T) (s : Nat) (v1 : Int) (v2 : Int) (v3 : Int) (h : ah_T) (Q : Option av_T → ah_T → Prop) (X35 : Int → Int → ah_T → Prop) (X61 : Int → Int → Int → Int → Int → ah_T → Prop) : Prop :=
 ((16 ≤ v3 → ((-2147483648) ≤ (v2 + 1) ∧ (v2 + 1) ≤ 2147483647) ∧ X35 (v1) ((v2 + 1)) h) ∧ (¬ 16 ≤ v3 → X61 (v1) (v2) (v3) (0) (0) h))
theorem b_MD_readings_49 {G : cx_T} {s : Nat} {v1 : Int} {v2 : Int} {v3 : Int} {h : ah_T} {Q : Option av_T → ah_T → Prop} {X35 : Int → Int → ah_T → Prop} {X61 : Int → Int → Int → Int → Int → ah_T → Prop} (hX35 : ∀ (v1 : Int) (v2 : Int) (h : ah_T), hb s h → X35 v1 v2 h → aw G (rm_R 2 0 0) m_MD_readings 0 0 35 [some (av_R (some 170)), some (av_I v1), some (av_I v2), none, none, none, none, none] [] h Q) (hX61 : ∀ (v1 : Int) (v2 : Int) (v3 : Int) (v4 : Int) (v6 : Int) (h : ah_T), hb s h → X61 v1 v2 v3 v4 v6 h → aw G (rm_R 2 0 0) m_MD_readings 0 0 61 [some (av_R (some 170)), some (av_I v1), some (av_I v2), some (av_I v3), some (av_L v4), none, some (av_I v6), none] [] h Q) (hb0 : hb s h) (H : B_MD_readings_49 G s v1 v2 v3 h Q X35 X61) : aw G (rm_R 2 0 0) m_MD_readings 0 0 49 [some (av_R (some 170)), some (av_I v1), some (av_I v2), some (av_I v3), none, none, none, none] [] h Q := by
  unfold B_MD_readings_49 at H
  have hS : isS s := hb0.2.1
  refine A_iload_n 3 d_MD_readings_49 rfl rfl ?_
  refine A_bipush d_MD_readings_50 rfl ?_
  refine A_icmp_ge (tgt := 184) d_MD_readings_52 (by decide) (fun c => ?_) (fun c => ?_)
  · replace H := H.1 c
    have g1 := H.1
    replace H := H.2
    refine A_iincv (z := (v2 + 1)) (L' := [some (av_R (some 170)), some (av_I v1), some (av_I (v2 + 1)), some (av_I v3), none, none, none, none]) d_MD_readings_184 rfl (w32_to (by omega) (by unfold i32; omega)) rfl ?_
    refine A_goto (tgt := 35) d_MD_readings_187 (by decide) ?_
    refine A_pc (pc' := 35) rfl ?_
    refine A_free (L' := [some (av_R (some 170)), some (av_I v1), some (av_I (v2 + 1)), none, none, none, none, none]) (And.intro rfl (And.intro rfl (And.intro rfl trivial))) ?_
    exact hX35 (v1) ((v2 + 1)) h  hb0 H
  · replace H := H.2 c
    refine A_lconst_0 d_MD_readings_55 ?_
    refine A_lstore (L' := [some (av_R (some 170)), some (av_I v1), some (av_I v2), some (av_I v3), some (av_L 0), none, none, none]) d_MD_readings_56 (Nat.le_of_ble_eq_true rfl) rfl ?_
    refine A_iconst d_MD_readings_58 rfl ?_
    refine A_istore (L' := [some (av_R (some 170)), some (av_I v1), some (av_I v2), some (av_I v3), some (av_L 0), none, some (av_I 0), none]) d_MD_readings_59 (Nat.le_of_ble_eq_true rfl) rfl ?_
    refine A_pc (pc' := 61) rfl ?_
    exact hX61 (v1) (v2) (v3) (0) (0) h  hb0 H
theorem lp_MD_readings_49 {G : cx_T} {s : Nat} {Q : Option av_T → ah_T → Prop} {X35 : Int → Int → ah_T → Prop} {X61 : Int → Int → Int → Int → Int → ah_T → Prop} (hX35 : ∀ (v1 : Int) (v2 : Int) (h : ah_T), hb s h → X35 v1 v2 h → aw G (rm_R 2 0 0) m_MD_readings 0 0 35 [some (av_R (some 170)), some (av_I v1), some (av_I v2), none, none, none, none, none] [] h Q) (hX61 : ∀ (v1 : Int) (v2 : Int) (v3 : Int) (v4 : Int) (v6 : Int) (h : ah_T), hb s h → X61 v1 v2 v3 v4 v6 h → aw G (rm_R 2 0 0) m_MD_readings 0 0 61 [some (av_R (some 170)), some (av_I v1), some (av_I v2), some (av_I v3), some (av_L v4), none, some (av_I v6), none] [] h Q) (I : Int → Int → Int → ah_T → Prop) (μ : Int → Int → Int → ah_T → Nat) (hI : ∀ (v1 : Int) (v2 : Int) (v3 : Int) (h : ah_T), hb s h → I v1 v2 v3 h → B_MD_readings_49 G s v1 v2 v3 h Q X35 X61) : ∀ (v1 : Int) (v2 : Int) (v3 : Int) (h : ah_T), hb s h → I v1 v2 v3 h → aw G (rm_R 2 0 0) m_MD_readings 0 0 49 [some (av_R (some 170)), some (av_I v1), some (av_I v2), some (av_I v3), none, none, none, none] [] h Q := by
  have key : ∀ (n : Nat) (v1 : Int) (v2 : Int) (v3 : Int) (h : ah_T), hb s h → I v1 v2 v3 h → μ v1 v2 v3 h < n → aw G (rm_R 2 0 0) m_MD_readings 0 0 49 [some (av_R (some 170)), some (av_I v1), some (av_I v2), some (av_I v3), none, none, none, none] [] h Q := by
    intro n
    induction n with
    | zero => intro v1 v2 v3 h  hb0 hi hm; omega
    | succ n ih => intro v1 v2 v3 h  hb0 hi hm; exact b_MD_readings_49  hX35 hX61  hb0 (hI v1 v2 v3 h  hb0 hi)
  exact fun v1 v2 v3 h  hb0 hi => key _ v1 v2 v3 h  hb0 hi (Nat.lt_succ_self _)
def B_MD_readings_35 (G : cx_T) (s : Nat) (v1 : Int) (v2 : Int) (h : ah_T) (Q : Option av_T → ah_T → Prop) (X23 : Int → ah_T → Prop) (X49 : Int → Int → Int → ah_T → Prop) : Prop :=
 ((-2147483648) ≤ (v2 + v1) ∧ (v2 + v1) ≤ 2147483647) ∧ ∀ x3 : Int, x3 = h.2.1 181 0 → -2147483648 ≤ x3 → x3 ≤ 2147483647 → ((x3 < (v2 + v1) → ((-2147483648) ≤ (v1 + 1) ∧ (v1 + 1) ≤ 2147483647) ∧ X23 ((v1 + 1)) h) ∧ (¬ x3 < (v2 + v1) → X49 (v1) (v2) (0) h))
theorem b_MD_readings_35 {G : cx_T} {s : Nat} {v1 : Int} {v2 : Int} {h : ah_T} {Q : Option av_T → ah_T → Prop} {X23 : Int → ah_T → Prop} {X49 : Int → Int → Int → ah_T → Prop} (hX23 : ∀ (v1 : Int) (h : ah_T), hb s h → X23 v1 h → aw G (rm_R 2 0 0) m_MD_readings 0 0 23 [some (av_R (some 170)), some (av_I v1), none, none, none, none, none, none] [] h Q) (hX49 : ∀ (v1 : Int) (v2 : Int) (v3 : Int) (h : ah_T), hb s h → X49 v1 v2 v3 h → aw G (rm_R 2 0 0) m_MD_readings 0 0 49 [some (av_R (some 170)), some (av_I v1), some (av_I v2), some (av_I v3), none, none, none, none] [] h Q) (hb0 : hb s h) (H : B_MD_readings_35 G s v1 v2 h Q X23 X49) : aw G (rm_R 2 0 0) m_MD_readings 0 0 35 [some (av_R (some 170)), some (av_I v1), some (av_I v2), none, none, none, none, none] [] h Q := by
  unfold B_MD_readings_35 at H
  have hS : isS s := hb0.2.1
  refine A_iload_n 2 d_MD_readings_35 rfl rfl ?_
  refine A_iload_n 1 d_MD_readings_36 rfl rfl ?_
  have g1 := H.1
  replace H := H.2
  refine A_iaddv (z := (v2 + v1)) d_MD_readings_37 (w32_to (by omega) (by unfold i32; omega)) ?_
  refine A_aload_n 0 d_MD_readings_38 rfl rfl ?_
  refine A_getAv (z := some 181) T_ok d_MD_readings_39 f_MD_44 (hb_s hb0 sf_170) (hb_m hb0 rfm_23) ?_
  refine A_pc (pc' := 42) rfl ?_
  refine A_iconst d_MD_readings_42 rfl ?_
  refine A_ialoadf d_MD_readings_43 (hb_s hb0 sf_181) (by decide) (by decide) (fun x3 ex3 lx3 ux3 => ?_)
  replace H := H x3 ex3 lx3 ux3
  refine A_icmp_gt (tgt := 190) d_MD_readings_44 (by decide) (fun c => ?_) (fun c => ?_)
  · replace H := H.1 c
    have g4 := H.1
    replace H := H.2
    refine A_iincv (z := (v1 + 1)) (L' := [some (av_R (some 170)), some (av_I (v1 + 1)), some (av_I v2), none, none, none, none, none]) d_MD_readings_190 rfl (w32_to (by omega) (by unfold i32; omega)) rfl ?_
    refine A_goto (tgt := 23) d_MD_readings_193 (by decide) ?_
    refine A_pc (pc' := 23) rfl ?_
    refine A_free (L' := [some (av_R (some 170)), some (av_I (v1 + 1)), none, none, none, none, none, none]) (And.intro rfl (And.intro rfl trivial)) ?_
    exact hX23 ((v1 + 1)) h  hb0 H
  · replace H := H.2 c
    refine A_iconst d_MD_readings_47 rfl ?_
    refine A_istore_n 3 (L' := [some (av_R (some 170)), some (av_I v1), some (av_I v2), some (av_I 0), none, none, none, none]) d_MD_readings_48 rfl (Nat.le_of_ble_eq_true rfl) rfl ?_
    refine A_pc (pc' := 49) rfl ?_
    exact hX49 (v1) (v2) (0) h  hb0 H
theorem lp_MD_readings_35 {G : cx_T} {s : Nat} {Q : Option av_T → ah_T → Prop} {X23 : Int → ah_T → Prop} {X49 : Int → Int → Int → ah_T → Prop} (hX23 : ∀ (v1 : Int) (h : ah_T), hb s h → X23 v1 h → aw G (rm_R 2 0 0) m_MD_readings 0 0 23 [some (av_R (some 170)), some (av_I v1), none, none, none, none, none, none] [] h Q) (hX49 : ∀ (v1 : Int) (v2 : Int) (v3 : Int) (h : ah_T), hb s h → X49 v1 v2 v3 h → aw G (rm_R 2 0 0) m_MD_readings 0 0 49 [some (av_R (some 170)), some (av_I v1), some (av_I v2), some (av_I v3), none, none, none, none] [] h Q) (I : Int → Int → ah_T → Prop) (μ : Int → Int → ah_T → Nat) (hI : ∀ (v1 : Int) (v2 : Int) (h : ah_T), hb s h → I v1 v2 h → B_MD_readings_35 G s v1 v2 h Q X23 X49) : ∀ (v1 : Int) (v2 : Int) (h : ah_T), hb s h → I v1 v2 h → aw G (rm_R 2 0 0) m_MD_readings 0 0 35 [some (av_R (some 170)), some (av_I v1), some (av_I v2), none, none, none, none, none] [] h Q := by
  have key : ∀ (n : Nat) (v1 : Int) (v2 : Int) (h : ah_T), hb s h → I v1 v2 h → μ v1 v2 h < n → aw G (rm_R 2 0 0) m_MD_readings 0 0 35 [some (av_R (some 170)), some (av_I v1), some (av_I v2), none, none, none, none, none] [] h Q := by
    intro n
    induction n with
    | zero => intro v1 v2 h  hb0 hi hm; omega
    | succ n ih => intro v1 v2 h  hb0 hi hm; exact b_MD_readings_35  hX23 hX49  hb0 (hI v1 v2 h  hb0 hi)
  exact fun v1 v2 h  hb0 hi => key _ v1 v2 h  hb0 hi (Nat.lt_succ_self _)
def B_MD_readings_23 (G : cx_T) (s : Nat) (v1 : Int) (h : ah_T) (Q : Option av_T → ah_T → Prop) (X35 : Int → Int → ah_T → Prop) : Prop :=
 ∀ x2 : Int, x2 = h.2.1 181 0 → -2147483648 ≤ x2 → x2 ≤ 2147483647 → ((x2 < v1 → ∀ x5 : Int, x5 = h.2.1 178 0 → -2147483648 ≤ x5 → x5 ≤ 2147483647 → con G 0 0 0 m_MD_treeAt [av_R (some 170), av_I x5, av_I 0, av_I x2] h (fun r h8 => ∃ z10 : Int, r = some (av_I z10) ∧ hb s h8 ∧ (0 ≤ z10 ∧ z10 < 2704) ∧ ∀ x11 : Int, x11 = h8.2.2.1 231 (z10).toNat → -9223372036854775808 ≤ x11 → x11 ≤ 9223372036854775807 → ((x11 ≤ 1000000 → ((-2147483648) ≤ x11 ∧ x11 ≤ 2147483647) ∧ ∀ h15 : ah_T, h15 = st_i h8 170 98 x11 → Q (some (av_I x11)) h15) ∧ (¬ x11 ≤ 1000000 → Q (some (av_I (-4))) h8)))) ∧ (¬ x2 < v1 → X35 (v1) (0) h))
theorem b_MD_readings_23 {G : cx_T} {s : Nat} {v1 : Int} {h : ah_T} {Q : Option av_T → ah_T → Prop} {X35 : Int → Int → ah_T → Prop} (hX35 : ∀ (v1 : Int) (v2 : Int) (h : ah_T), hb s h → X35 v1 v2 h → aw G (rm_R 2 0 0) m_MD_readings 0 0 35 [some (av_R (some 170)), some (av_I v1), some (av_I v2), none, none, none, none, none] [] h Q) (hb0 : hb s h) (H : B_MD_readings_23 G s v1 h Q X35) : aw G (rm_R 2 0 0) m_MD_readings 0 0 23 [some (av_R (some 170)), some (av_I v1), none, none, none, none, none, none] [] h Q := by
  unfold B_MD_readings_23 at H
  have hS : isS s := hb0.2.1
  refine A_iload_n 1 d_MD_readings_23 rfl rfl ?_
  refine A_aload_n 0 d_MD_readings_24 rfl rfl ?_
  refine A_getAv (z := some 181) T_ok d_MD_readings_25 f_MD_44 (hb_s hb0 sf_170) (hb_m hb0 rfm_23) ?_
  refine A_iconst d_MD_readings_28 rfl ?_
  refine A_ialoadf d_MD_readings_29 (hb_s hb0 sf_181) (by decide) (by decide) (fun x2 ex2 lx2 ux2 => ?_)
  replace H := H x2 ex2 lx2 ux2
  refine A_pc (pc' := 30) rfl ?_
  refine A_icmp_gt (tgt := 196) d_MD_readings_30 (by decide) (fun c => ?_) (fun c => ?_)
  · replace H := H.1 c
    refine A_aload_n 0 d_MD_readings_196 rfl rfl ?_
    refine A_getAv (z := some 231) T_ok d_MD_readings_197 f_MD_196 (hb_s hb0 sf_170) (hb_m hb0 rfm_99) ?_
    refine A_aload_n 0 d_MD_readings_200 rfl rfl ?_
    refine A_aload_n 0 d_MD_readings_201 rfl rfl ?_
    refine A_getAv (z := some 178) T_ok d_MD_readings_202 f_MD_35 (hb_s hb0 sf_170) (hb_m hb0 rfm_20) ?_
    refine A_pc (pc' := 205) rfl ?_
    refine A_iconst d_MD_readings_205 rfl ?_
    refine A_ialoadf d_MD_readings_206 (hb_s hb0 sf_178) (by decide) (by decide) (fun x5 ex5 lx5 ux5 => ?_)
    replace H := H x5 ex5 lx5 ux5
    refine A_iconst d_MD_readings_207 rfl ?_
    refine A_aload_n 0 d_MD_readings_208 rfl rfl ?_
    refine A_getAv (z := some 181) T_ok d_MD_readings_209 f_MD_44 (hb_s hb0 sf_170) (hb_m hb0 rfm_23) ?_
    refine A_iconst d_MD_readings_212 rfl ?_
    refine A_pc (pc' := 213) rfl ?_
    refine A_ialoadv (z := x2) d_MD_readings_213 (hb_s hb0 sf_181) (by decide) (by decide) ex2.symm ?_
    refine A_callV3 m_MD_treeAt T_ok d_MD_readings_214 l_MD_583 k_MD_treeAt (hb_s hb0 sf_170) rfl (by decide +kernel) (by decide) (Nat.le_of_ble_eq_true rfl) H (fun r h8 hq => ?_)
    clear H
    obtain ⟨z10, rfl, hb9, H⟩ := hq
    have g12 := H.1
    replace H := H.2
    refine A_laloadf d_MD_readings_217 (hb_s hb9 sf_231) g12.1 g12.2 (fun x11 ex11 lx11 ux11 => ?_)
    replace H := H x11 ex11 lx11 ux11
    refine A_lstore_n 1 (L' := [some (av_R (some 170)), some (av_L x11), none, none, none, none, none, none]) d_MD_readings_218 rfl (Nat.le_of_ble_eq_true rfl) rfl ?_
    refine A_lload_n 1 d_MD_readings_219 rfl rfl ?_
    refine A_ldc2 (z := 1000000) d_MD_readings_220 cst_MD_397 rfl ?_
    refine A_lcmpn d_MD_readings_223 (fun x13 lx13 ex13 gx13 _ _ => ?_)
    refine A_pc (pc' := 224) rfl ?_
    refine A_if_le (tgt := 230) d_MD_readings_224 (by decide) (fun c => ?_) (fun c => ?_)
    · replace H := H.1 (by omega)
      refine A_aload_n 0 d_MD_readings_230 rfl rfl ?_
      refine A_lload_n 1 d_MD_readings_231 rfl rfl ?_
      have g14 := H.1
      replace H := H.2
      refine A_l2iv (z := x11) d_MD_readings_232 (w32_id (by unfold i32; omega)) ?_
      refine A_putI T_ok d_MD_readings_233 f_MD_483 (hb_s hb9 sf_170) fin_f ?_
      refine A_hn (fun h15 eh15 => ?_)
      have hb16 := hb_i hb9 eh15
      replace H := H h15 eh15
      refine A_aload_n 0 d_MD_readings_236 rfl rfl ?_
      refine A_pc (pc' := 237) rfl ?_
      refine A_getIv (z := x11) T_ok d_MD_readings_237 f_MD_483 (hb_s hb16 sf_170) (mv_i eh15) ?_
      exact A_iret d_MD_readings_240 (by decide) rfl H
    · replace H := H.2 (by omega)
      refine A_bipush d_MD_readings_227 rfl ?_
      exact A_iret d_MD_readings_229 (by decide) rfl H
  · replace H := H.2 c
    refine A_iconst d_MD_readings_33 rfl ?_
    refine A_istore_n 2 (L' := [some (av_R (some 170)), some (av_I v1), some (av_I 0), none, none, none, none, none]) d_MD_readings_34 rfl (Nat.le_of_ble_eq_true rfl) rfl ?_
    refine A_pc (pc' := 35) rfl ?_
    exact hX35 (v1) (0) h  hb0 H
theorem lp_MD_readings_23 {G : cx_T} {s : Nat} {Q : Option av_T → ah_T → Prop} {X35 : Int → Int → ah_T → Prop} (hX35 : ∀ (v1 : Int) (v2 : Int) (h : ah_T), hb s h → X35 v1 v2 h → aw G (rm_R 2 0 0) m_MD_readings 0 0 35 [some (av_R (some 170)), some (av_I v1), some (av_I v2), none, none, none, none, none] [] h Q) (I : Int → ah_T → Prop) (μ : Int → ah_T → Nat) (hI : ∀ (v1 : Int) (h : ah_T), hb s h → I v1 h → B_MD_readings_23 G s v1 h Q X35) : ∀ (v1 : Int) (h : ah_T), hb s h → I v1 h → aw G (rm_R 2 0 0) m_MD_readings 0 0 23 [some (av_R (some 170)), some (av_I v1), none, none, none, none, none, none] [] h Q := by
  have key : ∀ (n : Nat) (v1 : Int) (h : ah_T), hb s h → I v1 h → μ v1 h < n → aw G (rm_R 2 0 0) m_MD_readings 0 0 23 [some (av_R (some 170)), some (av_I v1), none, none, none, none, none, none] [] h Q := by
    intro n
    induction n with
    | zero => intro v1 h  hb0 hi hm; omega
    | succ n ih => intro v1 h  hb0 hi hm; exact b_MD_readings_23  hX35  hb0 (hI v1 h  hb0 hi)
  exact fun v1 h  hb0 hi => key _ v1 h  hb0 hi (Nat.lt_succ_self _)
def B_MD_readings_18 (G : cx_T) (s : Nat) (h : ah_T) (Q : Option av_T → ah_T → Prop) : Prop :=
 Q (some (av_I (-2))) h
theorem b_MD_readings_18 {G : cx_T} {s : Nat} {h : ah_T} {Q : Option av_T → ah_T → Prop} (hb0 : hb s h) (H : B_MD_readings_18 G s h Q ) : aw G (rm_R 2 0 0) m_MD_readings 0 0 18 [none, none, none, none, none, none, none, none] [] h Q := by
  unfold B_MD_readings_18 at H
  have hS : isS s := hb0.2.1
  refine A_bipush d_MD_readings_18 rfl ?_
  exact A_iret d_MD_readings_20 (by decide) rfl H
def B_MD_readings_0 (G : cx_T) (s : Nat) (h : ah_T) (Q : Option av_T → ah_T → Prop) (X23 : Int → ah_T → Prop) : Prop :=
 ∀ x2 : Int, x2 = h.2.1 177 0 → -2147483648 ≤ x2 → x2 ≤ 2147483647 → ((x2 = 0 → B_MD_readings_18 G s h Q ) ∧ (¬ x2 = 0 → ∀ x4 : Int, x4 = h.2.1 181 0 → -2147483648 ≤ x4 → x4 ≤ 2147483647 → ((x4 = 0 → B_MD_readings_18 G s h Q ) ∧ (¬ x4 = 0 → X23 (1) h))))
theorem b_MD_readings_0 {G : cx_T} {s : Nat} {h : ah_T} {Q : Option av_T → ah_T → Prop} {X23 : Int → ah_T → Prop} (hX23 : ∀ (v1 : Int) (h : ah_T), hb s h → X23 v1 h → aw G (rm_R 2 0 0) m_MD_readings 0 0 23 [some (av_R (some 170)), some (av_I v1), none, none, none, none, none, none] [] h Q) (hb0 : hb s h) (H : B_MD_readings_0 G s h Q X23) : aw G (rm_R 2 0 0) m_MD_readings 0 0 0 [some (av_R (some 170)), none, none, none, none, none, none, none] [] h Q := by
  unfold B_MD_readings_0 at H
  have hS : isS s := hb0.2.1
  refine A_aload_n 0 d_MD_readings_0 rfl rfl ?_
  refine A_getAv (z := some 177) T_ok d_MD_readings_1 f_MD_32 (hb_s hb0 sf_170) (hb_m hb0 rfm_19) ?_
  refine A_iconst d_MD_readings_4 rfl ?_
  refine A_ialoadf d_MD_readings_5 (hb_s hb0 sf_177) (by decide) (by decide) (fun x2 ex2 lx2 ux2 => ?_)
  replace H := H x2 ex2 lx2 ux2
  refine A_if_eq (tgt := 18) d_MD_readings_6 (by decide) (fun c => ?_) (fun c => ?_)
  · replace H := H.1 c
    refine A_pc (pc' := 18) rfl ?_
    refine A_free (L' := [none, none, none, none, none, none, none, none]) trivial ?_
    exact b_MD_readings_18    hb0 H
  · replace H := H.2 c
    refine A_aload_n 0 d_MD_readings_9 rfl rfl ?_
    refine A_getAv (z := some 181) T_ok d_MD_readings_10 f_MD_44 (hb_s hb0 sf_170) (hb_m hb0 rfm_23) ?_
    refine A_iconst d_MD_readings_13 rfl ?_
    refine A_ialoadf d_MD_readings_14 (hb_s hb0 sf_181) (by decide) (by decide) (fun x4 ex4 lx4 ux4 => ?_)
    replace H := H x4 ex4 lx4 ux4
    refine A_if_ne (tgt := 21) d_MD_readings_15 (by decide) (fun c => ?_) (fun c => ?_)
    · replace H := H.2 c
      refine A_iconst d_MD_readings_21 rfl ?_
      refine A_istore_n 1 (L' := [some (av_R (some 170)), some (av_I 1), none, none, none, none, none, none]) d_MD_readings_22 rfl (Nat.le_of_ble_eq_true rfl) rfl ?_
      refine A_pc (pc' := 23) rfl ?_
      exact hX23 (1) h  hb0 H
    · replace H := H.1 c
      refine A_pc (pc' := 18) rfl ?_
      refine A_free (L' := [none, none, none, none, none, none, none, none]) trivial ?_
      exact b_MD_readings_18    hb0 H
theorem c_MD_readings {G : cx_T} {s : Nat} {h : ah_T} {Q : Option av_T → ah_T → Prop} {X23 : Int → ah_T → Prop} (hX23 : ∀ (v1 : Int) (h : ah_T), hb s h → X23 v1 h → aw G (rm_R 2 0 0) m_MD_readings 0 0 23 [some (av_R (some 170)), some (av_I v1), none, none, none, none, none, none] [] h Q) (hb0 : hb s h) (H : B_MD_readings_0 G s h Q X23) : con G 2 0 0 m_MD_readings [av_R (some 170)] h Q := by
  have hS : isS s := hb0.2.1
  refine con_of (L := [some (av_R (some 170)), none, none, none, none, none, none, none]) (by decide +kernel) (Nat.le_of_ble_eq_true rfl) rfl ?_
  exact b_MD_readings_0  hX23 hb0 (H )
def B_MD_tree_372 (G : cx_T) (s : Nat) (a1 : Int) (a2 : Int) (v3 : Int) (v4 : Int) (h : ah_T) (Q : Option av_T → ah_T → Prop) (X62 : Int → Int → ah_T → Prop) : Prop :=
 X62 (v3) (v4) h
theorem b_MD_tree_372 {G : cx_T} {s : Nat} {a1 : Int} {a2 : Int} {v3 : Int} {v4 : Int} {h : ah_T} {Q : Option av_T → ah_T → Prop} {X62 : Int → Int → ah_T → Prop} (hX62 : ∀ (v3 : Int) (v4 : Int) (h : ah_T), hb s h → X62 v3 v4 h → aw G (rm_R 2 0 0) m_MD_tree 0 0 62 [some (av_R (some 170)), none, some (av_I a2), some (av_I v3), some (av_I v4), none, none, none, none, none, none, none, none, none, none, none, none] [] h Q) (hb0 : hb s h) (H : B_MD_tree_372 G s a1 a2 v3 v4 h Q X62) : aw G (rm_R 2 0 0) m_MD_tree 0 0 372 [some (av_R (some 170)), none, some (av_I a2), some (av_I v3), some (av_I v4), none, none, none, none, none, none, none, none, none, none, none, none] [] h Q := by
  unfold B_MD_tree_372 at H
  have hS : isS s := hb0.2.1
  refine A_goto (tgt := 62) d_MD_tree_372 (by decide) ?_
  refine A_pc (pc' := 62) rfl ?_
  exact hX62 (v3) (v4) h  hb0 H
def B_MD_tree_230 (G : cx_T) (s : Nat) (a1 : Int) (a2 : Int) (v3 : Int) (v4 : Int) (v5 : Int) (v6 : Int) (v7 : Int) (v9 : Int) (v10 : Int) (h : ah_T) (Q : Option av_T → ah_T → Prop) (X62 : Int → Int → ah_T → Prop) : Prop :=
 ((v4 = a2 → Q (some (av_I v9)) h) ∧ (¬ v4 = a2 → ((-2147483648) ≤ (v4 + 1) ∧ (v4 + 1) ≤ 2147483647) ∧ (0 ≤ v9 ∧ v9 < 48) ∧ ∀ x3 : Int, x3 = h.2.1 180 (v9).toNat → -2147483648 ≤ x3 → x3 ≤ 2147483647 → ((x3 < 0 → B_MD_tree_372 G s a1 a2 (v3) ((v4 + 1)) h Q X62) ∧ (¬ x3 < 0 → ((-2147483648) ≤ (v5 + v10) ∧ (v5 + v10) ≤ 2147483647) ∧ ((-2147483648) ≤ (v6 - v10) ∧ (v6 - v10) ≤ 2147483647) ∧ con G 0 0 0 m_MD_treeAt [av_R (some 170), av_I x3, av_I (v5 + v10), av_I (v6 - v10)] h (fun r h10 => ∃ z12 : Int, r = some (av_I z12) ∧ hb s h10 ∧ (0 ≤ z12 ∧ z12 < 2704) ∧ ∀ x13 : Int, x13 = h10.2.2.1 231 (z12).toNat → -9223372036854775808 ≤ x13 → x13 ≤ 9223372036854775807 → ∀ x17 : Int, x17 = h10.2.1 180 (v9).toNat → -2147483648 ≤ x17 → x17 ≤ 2147483647 → (0 ≤ v3 ∧ v3 < 32) ∧ ∀ h19 : ah_T, h19 = st_i h10 232 (v3).toNat x17 → ∀ h22 : ah_T, h22 = st_i h19 233 (v3).toNat (v5 + v10) → ∀ h25 : ah_T, h25 = st_i h22 234 (v3).toNat (v6 - v10) → (x13 ≠ 0) ∧ ∀ x28 : Int, x28 = (v7).tmod x13 → (-9223372036854775808) ≤ x28 → x28 ≤ 9223372036854775807 → ∀ h29 : ah_T, h29 = st_l h25 235 (v3).toNat x28 → ((-2147483648) ≤ (v3 + 1) ∧ (v3 + 1) ≤ 2147483647) ∧ ∀ x34 : Int, x34 = h29.2.1 179 (v9).toNat → -2147483648 ≤ x34 → x34 ≤ 2147483647 → (0 ≤ (v3 + 1) ∧ (v3 + 1) < 32) ∧ ∀ h36 : ah_T, h36 = st_i h29 232 ((v3 + 1)).toNat x34 → ∀ h39 : ah_T, h39 = st_i h36 233 ((v3 + 1)).toNat v5 → ∀ h42 : ah_T, h42 = st_i h39 234 ((v3 + 1)).toNat v10 → (x13 ≠ 0) ∧ ∀ x45 : Int, x45 = w64 ((v7).tdiv x13) → (-9223372036854775808) ≤ x45 → x45 ≤ 9223372036854775807 → ∀ h46 : ah_T, h46 = st_l h42 235 ((v3 + 1)).toNat x45 → ((-2147483648) ≤ (v3 + 2) ∧ (v3 + 2) ≤ 2147483647) ∧ B_MD_tree_372 G s a1 a2 ((v3 + 2)) ((v4 + 1)) h46 Q X62)))))
theorem b_MD_tree_230 {G : cx_T} {s : Nat} {a1 : Int} {a2 : Int} {v3 : Int} {v4 : Int} {v5 : Int} {v6 : Int} {v7 : Int} {v9 : Int} {v10 : Int} {h : ah_T} {Q : Option av_T → ah_T → Prop} {X62 : Int → Int → ah_T → Prop} (hX62 : ∀ (v3 : Int) (v4 : Int) (h : ah_T), hb s h → X62 v3 v4 h → aw G (rm_R 2 0 0) m_MD_tree 0 0 62 [some (av_R (some 170)), none, some (av_I a2), some (av_I v3), some (av_I v4), none, none, none, none, none, none, none, none, none, none, none, none] [] h Q) (hb0 : hb s h) (H : B_MD_tree_230 G s a1 a2 v3 v4 v5 v6 v7 v9 v10 h Q X62) : aw G (rm_R 2 0 0) m_MD_tree 0 0 230 [some (av_R (some 170)), none, some (av_I a2), some (av_I v3), some (av_I v4), some (av_I v5), some (av_I v6), some (av_L v7), none, some (av_I v9), some (av_I v10), none, none, none, none, none, none] [] h Q := by
  unfold B_MD_tree_230 at H
  have hS : isS s := hb0.2.1
  refine A_iload d_MD_tree_230 rfl ?_
  refine A_iload_n 2 d_MD_tree_232 rfl rfl ?_
  refine A_icmp_ne (tgt := 239) d_MD_tree_233 (by decide) (fun c => ?_) (fun c => ?_)
  · replace H := H.2 c
    have g1 := H.1
    replace H := H.2
    refine A_iincv (z := (v4 + 1)) (L' := [some (av_R (some 170)), none, some (av_I a2), some (av_I v3), some (av_I (v4 + 1)), some (av_I v5), some (av_I v6), some (av_L v7), none, some (av_I v9), some (av_I v10), none, none, none, none, none, none]) d_MD_tree_239 rfl (w32_to (by omega) (by unfold i32; omega)) rfl ?_
    refine A_aload_n 0 d_MD_tree_242 rfl rfl ?_
    refine A_getAv (z := some 180) T_ok d_MD_tree_243 f_MD_41 (hb_s hb0 sf_170) (hb_m hb0 rfm_22) ?_
    refine A_iload d_MD_tree_246 rfl ?_
    have g4 := H.1
    replace H := H.2
    refine A_ialoadf d_MD_tree_248 (hb_s hb0 sf_180) g4.1 g4.2 (fun x3 ex3 lx3 ux3 => ?_)
    replace H := H x3 ex3 lx3 ux3
    refine A_pc (pc' := 249) rfl ?_
    refine A_if_lt (tgt := 372) d_MD_tree_249 (by decide) (fun c => ?_) (fun c => ?_)
    · replace H := H.1 c
      refine A_pc (pc' := 372) rfl ?_
      refine A_free (L' := [some (av_R (some 170)), none, some (av_I a2), some (av_I v3), some (av_I (v4 + 1)), none, none, none, none, none, none, none, none, none, none, none, none]) (And.intro rfl (And.intro rfl (And.intro rfl (And.intro rfl trivial)))) ?_
      exact b_MD_tree_372  hX62  hb0 H
    · replace H := H.2 c
      refine A_aload_n 0 d_MD_tree_252 rfl rfl ?_
      refine A_getAv (z := some 231) T_ok d_MD_tree_253 f_MD_196 (hb_s hb0 sf_170) (hb_m hb0 rfm_99) ?_
      refine A_aload_n 0 d_MD_tree_256 rfl rfl ?_
      refine A_aload_n 0 d_MD_tree_257 rfl rfl ?_
      refine A_getAv (z := some 180) T_ok d_MD_tree_258 f_MD_41 (hb_s hb0 sf_170) (hb_m hb0 rfm_22) ?_
      refine A_pc (pc' := 261) rfl ?_
      refine A_iload d_MD_tree_261 rfl ?_
      refine A_ialoadv (z := x3) d_MD_tree_263 (hb_s hb0 sf_180) (by omega) (by omega) ex3.symm ?_
      refine A_iload d_MD_tree_264 rfl ?_
      refine A_iload d_MD_tree_266 rfl ?_
      have g8 := H.1
      replace H := H.2
      refine A_iaddv (z := (v5 + v10)) d_MD_tree_268 (w32_to (by omega) (by unfold i32; omega)) ?_
      refine A_iload d_MD_tree_269 rfl ?_
      refine A_pc (pc' := 271) rfl ?_
      refine A_iload d_MD_tree_271 rfl ?_
      have g9 := H.1
      replace H := H.2
      refine A_isubv (z := (v6 - v10)) d_MD_tree_273 (w32_to (by omega) (by unfold i32; omega)) ?_
      refine A_callV3 m_MD_treeAt T_ok d_MD_tree_274 l_MD_583 k_MD_treeAt (hb_s hb0 sf_170) rfl (by decide +kernel) (by decide) (Nat.le_of_ble_eq_true rfl) H (fun r h10 hq => ?_)
      clear H
      obtain ⟨z12, rfl, hb11, H⟩ := hq
      have g14 := H.1
      replace H := H.2
      refine A_laloadf d_MD_tree_277 (hb_s hb11 sf_231) g14.1 g14.2 (fun x13 ex13 lx13 ux13 => ?_)
      replace H := H x13 ex13 lx13 ux13
      refine A_lstore (L' := [some (av_R (some 170)), none, some (av_I a2), some (av_I v3), some (av_I (v4 + 1)), some (av_I v5), some (av_I v6), some (av_L v7), none, some (av_I v9), some (av_I v10), none, some (av_L x13), none, none, none, none]) d_MD_tree_278 (Nat.le_of_ble_eq_true rfl) rfl ?_
      refine A_aload_n 0 d_MD_tree_280 rfl rfl ?_
      refine A_getAv (z := some 232) T_ok d_MD_tree_281 f_MD_199 (hb_s hb11 sf_170) (hb_m hb11 rfm_100) ?_
      refine A_iload_n 3 d_MD_tree_284 rfl rfl ?_
      refine A_pc (pc' := 285) rfl ?_
      refine A_aload_n 0 d_MD_tree_285 rfl rfl ?_
      refine A_getAv (z := some 180) T_ok d_MD_tree_286 f_MD_41 (hb_s hb11 sf_170) (hb_m hb11 rfm_22) ?_
      refine A_iload d_MD_tree_289 rfl ?_
      refine A_ialoadf d_MD_tree_291 (hb_s hb11 sf_180) g4.1 g4.2 (fun x17 ex17 lx17 ux17 => ?_)
      replace H := H x17 ex17 lx17 ux17
      have g18 := H.1
      replace H := H.2
      refine A_iastoreN d_MD_tree_292 (hb_s hb11 sf_232) g18.1 g18.2 ?_
      refine A_hn (fun h19 eh19 => ?_)
      have hb20 := hb_i hb11 eh19
      replace H := H h19 eh19
      refine A_aload_n 0 d_MD_tree_293 rfl rfl ?_
      refine A_pc (pc' := 294) rfl ?_
      refine A_getAv (z := some 233) T_ok d_MD_tree_294 f_MD_202 (hb_s hb20 sf_170) (hb_m hb20 rfm_101) ?_
      refine A_iload_n 3 d_MD_tree_297 rfl rfl ?_
      refine A_iload d_MD_tree_298 rfl ?_
      refine A_iload d_MD_tree_300 rfl ?_
      refine A_iaddv (z := (v5 + v10)) d_MD_tree_302 (w32_to (by omega) (by unfold i32; omega)) ?_
      refine A_iastoreN d_MD_tree_303 (hb_s hb20 sf_233) g18.1 g18.2 ?_
      refine A_hn (fun h22 eh22 => ?_)
      have hb23 := hb_i hb20 eh22
      replace H := H h22 eh22
      refine A_pc (pc' := 304) rfl ?_
      refine A_aload_n 0 d_MD_tree_304 rfl rfl ?_
      refine A_getAv (z := some 234) T_ok d_MD_tree_305 f_MD_205 (hb_s hb23 sf_170) (hb_m hb23 rfm_102) ?_
      refine A_iload_n 3 d_MD_tree_308 rfl rfl ?_
      refine A_iload d_MD_tree_309 rfl ?_
      refine A_iload d_MD_tree_311 rfl ?_
      refine A_isubv (z := (v6 - v10)) d_MD_tree_313 (w32_to (by omega) (by unfold i32; omega)) ?_
      refine A_pc (pc' := 314) rfl ?_
      refine A_iastoreN d_MD_tree_314 (hb_s hb23 sf_234) g18.1 g18.2 ?_
      refine A_hn (fun h25 eh25 => ?_)
      have hb26 := hb_i hb23 eh25
      replace H := H h25 eh25
      refine A_aload_n 0 d_MD_tree_315 rfl rfl ?_
      refine A_getAv (z := some 235) T_ok d_MD_tree_316 f_MD_208 (hb_s hb26 sf_170) (hb_m hb26 rfm_103) ?_
      refine A_iload_n 3 d_MD_tree_319 rfl rfl ?_
      refine A_lload d_MD_tree_320 rfl ?_
      refine A_lload d_MD_tree_322 rfl ?_
      refine A_pc (pc' := 324) rfl ?_
      have H0 := H.1
      replace H := H.2
      refine A_lremc d_MD_tree_324 H0 (fun x28 ex28 lx28 ux28 => ?_)
      replace H := H x28 ex28 lx28 ux28
      refine A_lastoreN d_MD_tree_325 (hb_s hb26 sf_235) g18.1 g18.2 ?_
      refine A_hn (fun h29 eh29 => ?_)
      have hb30 := hb_l hb26 eh29
      replace H := H h29 eh29
      have g31 := H.1
      replace H := H.2
      refine A_iincv (z := (v3 + 1)) (L' := [some (av_R (some 170)), none, some (av_I a2), some (av_I (v3 + 1)), some (av_I (v4 + 1)), some (av_I v5), some (av_I v6), some (av_L v7), none, some (av_I v9), some (av_I v10), none, some (av_L x13), none, none, none, none]) d_MD_tree_326 rfl (w32_to (by omega) (by unfold i32; omega)) rfl ?_
      refine A_aload_n 0 d_MD_tree_329 rfl rfl ?_
      refine A_getAv (z := some 232) T_ok d_MD_tree_330 f_MD_199 (hb_s hb30 sf_170) (hb_m hb30 rfm_100) ?_
      refine A_iload_n 3 d_MD_tree_333 rfl rfl ?_
      refine A_pc (pc' := 334) rfl ?_
      refine A_aload_n 0 d_MD_tree_334 rfl rfl ?_
      refine A_getAv (z := some 179) T_ok d_MD_tree_335 f_MD_38 (hb_s hb30 sf_170) (hb_m hb30 rfm_21) ?_
      refine A_iload d_MD_tree_338 rfl ?_
      refine A_ialoadf d_MD_tree_340 (hb_s hb30 sf_179) g4.1 g4.2 (fun x34 ex34 lx34 ux34 => ?_)
      replace H := H x34 ex34 lx34 ux34
      have g35 := H.1
      replace H := H.2
      refine A_iastoreN d_MD_tree_341 (hb_s hb30 sf_232) g35.1 g35.2 ?_
      refine A_hn (fun h36 eh36 => ?_)
      have hb37 := hb_i hb30 eh36
      replace H := H h36 eh36
      refine A_aload_n 0 d_MD_tree_342 rfl rfl ?_
      refine A_pc (pc' := 343) rfl ?_
      refine A_getAv (z := some 233) T_ok d_MD_tree_343 f_MD_202 (hb_s hb37 sf_170) (hb_m hb37 rfm_101) ?_
      refine A_iload_n 3 d_MD_tree_346 rfl rfl ?_
      refine A_iload d_MD_tree_347 rfl ?_
      refine A_iastoreN d_MD_tree_349 (hb_s hb37 sf_233) g35.1 g35.2 ?_
      refine A_hn (fun h39 eh39 => ?_)
      have hb40 := hb_i hb37 eh39
      replace H := H h39 eh39
      refine A_aload_n 0 d_MD_tree_350 rfl rfl ?_
      refine A_getAv (z := some 234) T_ok d_MD_tree_351 f_MD_205 (hb_s hb40 sf_170) (hb_m hb40 rfm_102) ?_
      refine A_pc (pc' := 354) rfl ?_
      refine A_iload_n 3 d_MD_tree_354 rfl rfl ?_
      refine A_iload d_MD_tree_355 rfl ?_
      refine A_iastoreN d_MD_tree_357 (hb_s hb40 sf_234) g35.1 g35.2 ?_
      refine A_hn (fun h42 eh42 => ?_)
      have hb43 := hb_i hb40 eh42
      replace H := H h42 eh42
      refine A_aload_n 0 d_MD_tree_358 rfl rfl ?_
      refine A_getAv (z := some 235) T_ok d_MD_tree_359 f_MD_208 (hb_s hb43 sf_170) (hb_m hb43 rfm_103) ?_
      refine A_iload_n 3 d_MD_tree_362 rfl rfl ?_
      refine A_pc (pc' := 363) rfl ?_
      refine A_lload d_MD_tree_363 rfl ?_
      refine A_lload d_MD_tree_365 rfl ?_
      have H0 := H.1
      replace H := H.2
      refine A_ldivc d_MD_tree_367 H0 (fun x45 ex45 lx45 ux45 => ?_)
      replace H := H x45 ex45 lx45 ux45
      refine A_lastoreN d_MD_tree_368 (hb_s hb43 sf_235) g35.1 g35.2 ?_
      refine A_hn (fun h46 eh46 => ?_)
      have hb47 := hb_l hb43 eh46
      replace H := H h46 eh46
      have g48 := H.1
      replace H := H.2
      refine A_iincv (z := (v3 + 2)) (L' := [some (av_R (some 170)), none, some (av_I a2), some (av_I (v3 + 2)), some (av_I (v4 + 1)), some (av_I v5), some (av_I v6), some (av_L v7), none, some (av_I v9), some (av_I v10), none, some (av_L x13), none, none, none, none]) d_MD_tree_369 rfl (w32_to (by omega) (by unfold i32; omega)) rfl ?_
      refine A_pc (pc' := 372) rfl ?_
      refine A_free (L' := [some (av_R (some 170)), none, some (av_I a2), some (av_I (v3 + 2)), some (av_I (v4 + 1)), none, none, none, none, none, none, none, none, none, none, none, none]) (And.intro rfl (And.intro rfl (And.intro rfl (And.intro rfl trivial)))) ?_
      exact b_MD_tree_372  hX62  hb47 H
  · replace H := H.1 c
    refine A_iload d_MD_tree_236 rfl ?_
    exact A_iret d_MD_tree_238 (by decide) rfl H
def B_MD_tree_224 (G : cx_T) (s : Nat) (a1 : Int) (a2 : Int) (v3 : Int) (v4 : Int) (v5 : Int) (v6 : Int) (v7 : Int) (v9 : Int) (v10 : Int) (v11 : Int) (v12 : Int) (h : ah_T) (Q : Option av_T → ah_T → Prop) (X105 : Int → Int → Int → Int → Int → Int → Int → Int → Int → ah_T → Prop) : Prop :=
 ((-2147483648) ≤ (v12 + 1) ∧ (v12 + 1) ≤ 2147483647) ∧ X105 (v3) (v4) (v5) (v6) (v7) (v9) (v10) (v11) ((v12 + 1)) h
theorem b_MD_tree_224 {G : cx_T} {s : Nat} {a1 : Int} {a2 : Int} {v3 : Int} {v4 : Int} {v5 : Int} {v6 : Int} {v7 : Int} {v9 : Int} {v10 : Int} {v11 : Int} {v12 : Int} {h : ah_T} {Q : Option av_T → ah_T → Prop} {X105 : Int → Int → Int → Int → Int → Int → Int → Int → Int → ah_T → Prop} (hX105 : ∀ (v3 : Int) (v4 : Int) (v5 : Int) (v6 : Int) (v7 : Int) (v9 : Int) (v10 : Int) (v11 : Int) (v12 : Int) (h : ah_T), hb s h → X105 v3 v4 v5 v6 v7 v9 v10 v11 v12 h → aw G (rm_R 2 0 0) m_MD_tree 0 0 105 [some (av_R (some 170)), none, some (av_I a2), some (av_I v3), some (av_I v4), some (av_I v5), some (av_I v6), some (av_L v7), none, some (av_I v9), some (av_I v10), some (av_I v11), some (av_I v12), none, none, none, none] [] h Q) (hb0 : hb s h) (H : B_MD_tree_224 G s a1 a2 v3 v4 v5 v6 v7 v9 v10 v11 v12 h Q X105) : aw G (rm_R 2 0 0) m_MD_tree 0 0 224 [some (av_R (some 170)), none, some (av_I a2), some (av_I v3), some (av_I v4), some (av_I v5), some (av_I v6), some (av_L v7), none, some (av_I v9), some (av_I v10), some (av_I v11), some (av_I v12), none, none, none, none] [] h Q := by
  unfold B_MD_tree_224 at H
  have hS : isS s := hb0.2.1
  have g1 := H.1
  replace H := H.2
  refine A_iincv (z := (v12 + 1)) (L' := [some (av_R (some 170)), none, some (av_I a2), some (av_I v3), some (av_I v4), some (av_I v5), some (av_I v6), some (av_L v7), none, some (av_I v9), some (av_I v10), some (av_I v11), some (av_I (v12 + 1)), none, none, none, none]) d_MD_tree_224 rfl (w32_to (by omega) (by unfold i32; omega)) rfl ?_
  refine A_goto (tgt := 105) d_MD_tree_227 (by decide) ?_
  refine A_pc (pc' := 105) rfl ?_
  exact hX105 (v3) (v4) (v5) (v6) (v7) (v9) (v10) (v11) ((v12 + 1)) h  hb0 H
def B_MD_tree_218 (G : cx_T) (s : Nat) (a1 : Int) (a2 : Int) (v3 : Int) (v4 : Int) (v5 : Int) (v6 : Int) (v7 : Int) (v9 : Int) (v10 : Int) (v11 : Int) (v12 : Int) (v13 : Int) (v14 : Int) (h : ah_T) (Q : Option av_T → ah_T → Prop) (X163 : Int → Int → Int → Int → Int → Int → Int → Int → Int → Int → Int → ah_T → Prop) : Prop :=
 ((-2147483648) ≤ (v14 + 1) ∧ (v14 + 1) ≤ 2147483647) ∧ X163 (v3) (v4) (v5) (v6) (v7) (v9) (v10) (v11) (v12) (v13) ((v14 + 1)) h
theorem b_MD_tree_218 {G : cx_T} {s : Nat} {a1 : Int} {a2 : Int} {v3 : Int} {v4 : Int} {v5 : Int} {v6 : Int} {v7 : Int} {v9 : Int} {v10 : Int} {v11 : Int} {v12 : Int} {v13 : Int} {v14 : Int} {h : ah_T} {Q : Option av_T → ah_T → Prop} {X163 : Int → Int → Int → Int → Int → Int → Int → Int → Int → Int → Int → ah_T → Prop} (hX163 : ∀ (v3 : Int) (v4 : Int) (v5 : Int) (v6 : Int) (v7 : Int) (v9 : Int) (v10 : Int) (v11 : Int) (v12 : Int) (v13 : Int) (v14 : Int) (h : ah_T), hb s h → X163 v3 v4 v5 v6 v7 v9 v10 v11 v12 v13 v14 h → aw G (rm_R 2 0 0) m_MD_tree 0 0 163 [some (av_R (some 170)), none, some (av_I a2), some (av_I v3), some (av_I v4), some (av_I v5), some (av_I v6), some (av_L v7), none, some (av_I v9), some (av_I v10), some (av_I v11), some (av_I v12), some (av_I v13), some (av_I v14), none, none] [] h Q) (hb0 : hb s h) (H : B_MD_tree_218 G s a1 a2 v3 v4 v5 v6 v7 v9 v10 v11 v12 v13 v14 h Q X163) : aw G (rm_R 2 0 0) m_MD_tree 0 0 218 [some (av_R (some 170)), none, some (av_I a2), some (av_I v3), some (av_I v4), some (av_I v5), some (av_I v6), some (av_L v7), none, some (av_I v9), some (av_I v10), some (av_I v11), some (av_I v12), some (av_I v13), some (av_I v14), none, none] [] h Q := by
  unfold B_MD_tree_218 at H
  have hS : isS s := hb0.2.1
  have g1 := H.1
  replace H := H.2
  refine A_iincv (z := (v14 + 1)) (L' := [some (av_R (some 170)), none, some (av_I a2), some (av_I v3), some (av_I v4), some (av_I v5), some (av_I v6), some (av_L v7), none, some (av_I v9), some (av_I v10), some (av_I v11), some (av_I v12), some (av_I v13), some (av_I (v14 + 1)), none, none]) d_MD_tree_218 rfl (w32_to (by omega) (by unfold i32; omega)) rfl ?_
  refine A_goto (tgt := 163) d_MD_tree_221 (by decide) ?_
  refine A_pc (pc' := 163) rfl ?_
  exact hX163 (v3) (v4) (v5) (v6) (v7) (v9) (v10) (v11) (v12) (v13) ((v14 + 1)) h  hb0 H
def B_MD_tree_163 (G : cx_T) (s : Nat) (a1 : Int) (a2 : Int) (v3 : Int) (v4 : Int) (v5 : Int) (v6 : Int) (v7 : Int) (v9 : Int) (v10 : Int) (v11 : Int) (v12 : Int) (v13 : Int) (v14 : Int) (h : ah_T) (Q : Option av_T → ah_T → Prop) (X105 : Int → Int → Int → Int → Int → Int → Int → Int → Int → ah_T → Prop) (X163 : Int → Int → Int → Int → Int → Int → Int → Int → Int → Int → Int → ah_T → Prop) : Prop :=
 ((v13 < v14 → B_MD_tree_224 G s a1 a2 (v3) (v4) (v5) (v6) (v7) (v9) (v10) (v11) (v12) h Q X105) ∧ (¬ v13 < v14 → ((v11 = 0 → con G 1 0 0 m_MD_byRule [av_R (some 170), av_I v12, av_I v5, av_I v6, av_I v14] h (fun r h1 => ∃ z3 : Int, r = some (av_L z3) ∧ hb s h1 ∧ ((z3 ≤ v7 → ((-9223372036854775808) ≤ (v7 - z3) ∧ (v7 - z3) ≤ 9223372036854775807) ∧ B_MD_tree_218 G s a1 a2 (v3) (v4) (v5) (v6) ((v7 - z3)) (v9) (v10) (v11) (v12) (v13) (v14) h1 Q X163) ∧ (¬ z3 ≤ v7 → B_MD_tree_218 G s a1 a2 (v3) (v4) (v5) (v6) (v7) (v12) (v14) (1) (v12) (v13) (v14) h1 Q X163)))) ∧ (¬ v11 = 0 → B_MD_tree_224 G s a1 a2 (v3) (v4) (v5) (v6) (v7) (v9) (v10) (v11) (v12) h Q X105))))
theorem b_MD_tree_163 {G : cx_T} {s : Nat} {a1 : Int} {a2 : Int} {v3 : Int} {v4 : Int} {v5 : Int} {v6 : Int} {v7 : Int} {v9 : Int} {v10 : Int} {v11 : Int} {v12 : Int} {v13 : Int} {v14 : Int} {h : ah_T} {Q : Option av_T → ah_T → Prop} {X105 : Int → Int → Int → Int → Int → Int → Int → Int → Int → ah_T → Prop} {X163 : Int → Int → Int → Int → Int → Int → Int → Int → Int → Int → Int → ah_T → Prop} (hX105 : ∀ (v3 : Int) (v4 : Int) (v5 : Int) (v6 : Int) (v7 : Int) (v9 : Int) (v10 : Int) (v11 : Int) (v12 : Int) (h : ah_T), hb s h → X105 v3 v4 v5 v6 v7 v9 v10 v11 v12 h → aw G (rm_R 2 0 0) m_MD_tree 0 0 105 [some (av_R (some 170)), none, some (av_I a2), some (av_I v3), some (av_I v4), some (av_I v5), some (av_I v6), some (av_L v7), none, some (av_I v9), some (av_I v10), some (av_I v11), some (av_I v12), none, none, none, none] [] h Q) (hX163 : ∀ (v3 : Int) (v4 : Int) (v5 : Int) (v6 : Int) (v7 : Int) (v9 : Int) (v10 : Int) (v11 : Int) (v12 : Int) (v13 : Int) (v14 : Int) (h : ah_T), hb s h → X163 v3 v4 v5 v6 v7 v9 v10 v11 v12 v13 v14 h → aw G (rm_R 2 0 0) m_MD_tree 0 0 163 [some (av_R (some 170)), none, some (av_I a2), some (av_I v3), some (av_I v4), some (av_I v5), some (av_I v6), some (av_L v7), none, some (av_I v9), some (av_I v10), some (av_I v11), some (av_I v12), some (av_I v13), some (av_I v14), none, none] [] h Q) (hb0 : hb s h) (H : B_MD_tree_163 G s a1 a2 v3 v4 v5 v6 v7 v9 v10 v11 v12 v13 v14 h Q X105 X163) : aw G (rm_R 2 0 0) m_MD_tree 0 0 163 [some (av_R (some 170)), none, some (av_I a2), some (av_I v3), some (av_I v4), some (av_I v5), some (av_I v6), some (av_L v7), none, some (av_I v9), some (av_I v10), some (av_I v11), some (av_I v12), some (av_I v13), some (av_I v14), none, none] [] h Q := by
  unfold B_MD_tree_163 at H
  have hS : isS s := hb0.2.1
  refine A_iload d_MD_tree_163 rfl ?_
  refine A_iload d_MD_tree_165 rfl ?_
  refine A_icmp_gt (tgt := 224) d_MD_tree_167 (by decide) (fun c => ?_) (fun c => ?_)
  · replace H := H.1 c
    refine A_pc (pc' := 224) rfl ?_
    refine A_free (L' := [some (av_R (some 170)), none, some (av_I a2), some (av_I v3), some (av_I v4), some (av_I v5), some (av_I v6), some (av_L v7), none, some (av_I v9), some (av_I v10), some (av_I v11), some (av_I v12), none, none, none, none]) (And.intro rfl (And.intro rfl (And.intro rfl (And.intro rfl (And.intro rfl (And.intro rfl (And.intro rfl (And.intro rfl (And.intro rfl (And.intro rfl (And.intro rfl trivial))))))))))) ?_
    exact b_MD_tree_224  hX105  hb0 H
  · replace H := H.2 c
    refine A_iload d_MD_tree_170 rfl ?_
    refine A_if_ne (tgt := 224) d_MD_tree_172 (by decide) (fun c => ?_) (fun c => ?_)
    · replace H := H.2 c
      refine A_pc (pc' := 224) rfl ?_
      refine A_free (L' := [some (av_R (some 170)), none, some (av_I a2), some (av_I v3), some (av_I v4), some (av_I v5), some (av_I v6), some (av_L v7), none, some (av_I v9), some (av_I v10), some (av_I v11), some (av_I v12), none, none, none, none]) (And.intro rfl (And.intro rfl (And.intro rfl (And.intro rfl (And.intro rfl (And.intro rfl (And.intro rfl (And.intro rfl (And.intro rfl (And.intro rfl (And.intro rfl trivial))))))))))) ?_
      exact b_MD_tree_224  hX105  hb0 H
    · replace H := H.1 c
      refine A_aload_n 0 d_MD_tree_175 rfl rfl ?_
      refine A_iload d_MD_tree_176 rfl ?_
      refine A_iload d_MD_tree_178 rfl ?_
      refine A_iload d_MD_tree_180 rfl ?_
      refine A_iload d_MD_tree_182 rfl ?_
      refine A_pc (pc' := 184) rfl ?_
      refine A_callV4 m_MD_byRule T_ok d_MD_tree_184 l_MD_591 k_MD_byRule (hb_s hb0 sf_170) rfl (by decide +kernel) (by decide) (Nat.le_of_ble_eq_true rfl) H (fun r h1 hq => ?_)
      clear H
      obtain ⟨z3, rfl, hb2, H⟩ := hq
      refine A_lstore (L' := [some (av_R (some 170)), none, some (av_I a2), some (av_I v3), some (av_I v4), some (av_I v5), some (av_I v6), some (av_L v7), none, some (av_I v9), some (av_I v10), some (av_I v11), some (av_I v12), some (av_I v13), some (av_I v14), some (av_L z3), none]) d_MD_tree_187 (Nat.le_of_ble_eq_true rfl) rfl ?_
      refine A_lload d_MD_tree_189 rfl ?_
      refine A_lload d_MD_tree_191 rfl ?_
      refine A_lcmpn d_MD_tree_193 (fun x4 lx4 ex4 gx4 _ _ => ?_)
      refine A_if_ge (tgt := 211) d_MD_tree_194 (by decide) (fun c => ?_) (fun c => ?_)
      · replace H := H.1 (by omega)
        refine A_lload d_MD_tree_211 rfl ?_
        refine A_lload d_MD_tree_213 rfl ?_
        have g5 := H.1
        replace H := H.2
        refine A_lsubv (z := (v7 - z3)) d_MD_tree_215 (w64_to (by omega) (by unfold i64; omega)) ?_
        refine A_lstore (L' := [some (av_R (some 170)), none, some (av_I a2), some (av_I v3), some (av_I v4), some (av_I v5), some (av_I v6), some (av_L (v7 - z3)), none, some (av_I v9), some (av_I v10), some (av_I v11), some (av_I v12), some (av_I v13), some (av_I v14), some (av_L z3), none]) d_MD_tree_216 (Nat.le_of_ble_eq_true rfl) rfl ?_
        refine A_pc (pc' := 218) rfl ?_
        refine A_free (L' := [some (av_R (some 170)), none, some (av_I a2), some (av_I v3), some (av_I v4), some (av_I v5), some (av_I v6), some (av_L (v7 - z3)), none, some (av_I v9), some (av_I v10), some (av_I v11), some (av_I v12), some (av_I v13), some (av_I v14), none, none]) (And.intro rfl (And.intro rfl (And.intro rfl (And.intro rfl (And.intro rfl (And.intro rfl (And.intro rfl (And.intro rfl (And.intro rfl (And.intro rfl (And.intro rfl (And.intro rfl (And.intro rfl trivial))))))))))))) ?_
        exact b_MD_tree_218  hX163  hb2 H
      · replace H := H.2 (by omega)
        refine A_iconst d_MD_tree_197 rfl ?_
        refine A_istore (L' := [some (av_R (some 170)), none, some (av_I a2), some (av_I v3), some (av_I v4), some (av_I v5), some (av_I v6), some (av_L v7), none, some (av_I v9), some (av_I v10), some (av_I 1), some (av_I v12), some (av_I v13), some (av_I v14), some (av_L z3), none]) d_MD_tree_198 (Nat.le_of_ble_eq_true rfl) rfl ?_
        refine A_iload d_MD_tree_200 rfl ?_
        refine A_istore (L' := [some (av_R (some 170)), none, some (av_I a2), some (av_I v3), some (av_I v4), some (av_I v5), some (av_I v6), some (av_L v7), none, some (av_I v12), some (av_I v10), some (av_I 1), some (av_I v12), some (av_I v13), some (av_I v14), some (av_L z3), none]) d_MD_tree_202 (Nat.le_of_ble_eq_true rfl) rfl ?_
        refine A_iload d_MD_tree_204 rfl ?_
        refine A_pc (pc' := 206) rfl ?_
        refine A_istore (L' := [some (av_R (some 170)), none, some (av_I a2), some (av_I v3), some (av_I v4), some (av_I v5), some (av_I v6), some (av_L v7), none, some (av_I v12), some (av_I v14), some (av_I 1), some (av_I v12), some (av_I v13), some (av_I v14), some (av_L z3), none]) d_MD_tree_206 (Nat.le_of_ble_eq_true rfl) rfl ?_
        refine A_goto (tgt := 218) d_MD_tree_208 (by decide) ?_
        refine A_pc (pc' := 218) rfl ?_
        refine A_free (L' := [some (av_R (some 170)), none, some (av_I a2), some (av_I v3), some (av_I v4), some (av_I v5), some (av_I v6), some (av_L v7), none, some (av_I v12), some (av_I v14), some (av_I 1), some (av_I v12), some (av_I v13), some (av_I v14), none, none]) (And.intro rfl (And.intro rfl (And.intro rfl (And.intro rfl (And.intro rfl (And.intro rfl (And.intro rfl (And.intro rfl (And.intro rfl (And.intro rfl (And.intro rfl (And.intro rfl (And.intro rfl trivial))))))))))))) ?_
        exact b_MD_tree_218  hX163  hb2 H
theorem lp_MD_tree_163 {G : cx_T} {s : Nat} {a1 : Int} {a2 : Int} {Q : Option av_T → ah_T → Prop} {X105 : Int → Int → Int → Int → Int → Int → Int → Int → Int → ah_T → Prop} (hX105 : ∀ (v3 : Int) (v4 : Int) (v5 : Int) (v6 : Int) (v7 : Int) (v9 : Int) (v10 : Int) (v11 : Int) (v12 : Int) (h : ah_T), hb s h → X105 v3 v4 v5 v6 v7 v9 v10 v11 v12 h → aw G (rm_R 2 0 0) m_MD_tree 0 0 105 [some (av_R (some 170)), none, some (av_I a2), some (av_I v3), some (av_I v4), some (av_I v5), some (av_I v6), some (av_L v7), none, some (av_I v9), some (av_I v10), some (av_I v11), some (av_I v12), none, none, none, none] [] h Q) (I : Int → Int → Int → Int → Int → Int → Int → Int → Int → Int → Int → ah_T → Prop) (μ : Int → Int → Int → Int → Int → Int → Int → Int → Int → Int → Int → ah_T → Nat) (hI : ∀ (v3 : Int) (v4 : Int) (v5 : Int) (v6 : Int) (v7 : Int) (v9 : Int) (v10 : Int) (v11 : Int) (v12 : Int) (v13 : Int) (v14 : Int) (h : ah_T), hb s h → I v3 v4 v5 v6 v7 v9 v10 v11 v12 v13 v14 h → B_MD_tree_163 G s a1 a2 v3 v4 v5 v6 v7 v9 v10 v11 v12 v13 v14 h Q X105 (fun v3' v4' v5' v6' v7' v9' v10' v11' v12' v13' v14' h' => I v3' v4' v5' v6' v7' v9' v10' v11' v12' v13' v14' h' ∧ μ v3' v4' v5' v6' v7' v9' v10' v11' v12' v13' v14' h' < μ v3 v4 v5 v6 v7 v9 v10 v11 v12 v13 v14 h)) : ∀ (v3 : Int) (v4 : Int) (v5 : Int) (v6 : Int) (v7 : Int) (v9 : Int) (v10 : Int) (v11 : Int) (v12 : Int) (v13 : Int) (v14 : Int) (h : ah_T), hb s h → I v3 v4 v5 v6 v7 v9 v10 v11 v12 v13 v14 h → aw G (rm_R 2 0 0) m_MD_tree 0 0 163 [some (av_R (some 170)), none, some (av_I a2), some (av_I v3), some (av_I v4), some (av_I v5), some (av_I v6), some (av_L v7), none, some (av_I v9), some (av_I v10), some (av_I v11), some (av_I v12), some (av_I v13), some (av_I v14), none, none] [] h Q := by
  have key : ∀ (n : Nat) (v3 : Int) (v4 : Int) (v5 : Int) (v6 : Int) (v7 : Int) (v9 : Int) (v10 : Int) (v11 : Int) (v12 : Int) (v13 : Int) (v14 : Int) (h : ah_T), hb s h → I v3 v4 v5 v6 v7 v9 v10 v11 v12 v13 v14 h → μ v3 v4 v5 v6 v7 v9 v10 v11 v12 v13 v14 h < n → aw G (rm_R 2 0 0) m_MD_tree 0 0 163 [some (av_R (some 170)), none, some (av_I a2), some (av_I v3), some (av_I v4), some (av_I v5), some (av_I v6), some (av_L v7), none, some (av_I v9), some (av_I v10), some (av_I v11), some (av_I v12), some (av_I v13), some (av_I v14), none, none] [] h Q := by
    intro n
    induction n with
    | zero => intro v3 v4 v5 v6 v7 v9 v10 v11 v12 v13 v14 h  hb0 hi hm; omega
    | succ n ih => intro v3 v4 v5 v6 v7 v9 v10 v11 v12 v13 v14 h  hb0 hi hm; exact b_MD_tree_163  hX105 (fun v3' v4' v5' v6' v7' v9' v10' v11' v12' v13' v14' h'  hb' hx => ih v3' v4' v5' v6' v7' v9' v10' v11' v12' v13' v14' h'  hb' hx.1 (by have := hx.2; omega))  hb0 (hI v3 v4 v5 v6 v7 v9 v10 v11 v12 v13 v14 h  hb0 hi)
  exact fun v3 v4 v5 v6 v7 v9 v10 v11 v12 v13 v14 h  hb0 hi => key _ v3 v4 v5 v6 v7 v9 v10 v11 v12 v13 v14 h  hb0 hi (Nat.lt_succ_self _)
def B_MD_tree_158 (G : cx_T) (s : Nat) (a1 : Int) (a2 : Int) (v3 : Int) (v4 : Int) (v5 : Int) (v6 : Int) (v7 : Int) (v9 : Int) (v10 : Int) (v11 : Int) (v12 : Int) (t0 : Int) (h : ah_T) (Q : Option av_T → ah_T → Prop) (X163 : Int → Int → Int → Int → Int → Int → Int → Int → Int → Int → Int → ah_T → Prop) : Prop :=
 X163 (v3) (v4) (v5) (v6) (v7) (v9) (v10) (v11) (v12) (t0) (1) h
theorem b_MD_tree_158 {G : cx_T} {s : Nat} {a1 : Int} {a2 : Int} {v3 : Int} {v4 : Int} {v5 : Int} {v6 : Int} {v7 : Int} {v9 : Int} {v10 : Int} {v11 : Int} {v12 : Int} {t0 : Int} {h : ah_T} {Q : Option av_T → ah_T → Prop} {X163 : Int → Int → Int → Int → Int → Int → Int → Int → Int → Int → Int → ah_T → Prop} (hX163 : ∀ (v3 : Int) (v4 : Int) (v5 : Int) (v6 : Int) (v7 : Int) (v9 : Int) (v10 : Int) (v11 : Int) (v12 : Int) (v13 : Int) (v14 : Int) (h : ah_T), hb s h → X163 v3 v4 v5 v6 v7 v9 v10 v11 v12 v13 v14 h → aw G (rm_R 2 0 0) m_MD_tree 0 0 163 [some (av_R (some 170)), none, some (av_I a2), some (av_I v3), some (av_I v4), some (av_I v5), some (av_I v6), some (av_L v7), none, some (av_I v9), some (av_I v10), some (av_I v11), some (av_I v12), some (av_I v13), some (av_I v14), none, none] [] h Q) (hb0 : hb s h) (H : B_MD_tree_158 G s a1 a2 v3 v4 v5 v6 v7 v9 v10 v11 v12 t0 h Q X163) : aw G (rm_R 2 0 0) m_MD_tree 0 0 158 [some (av_R (some 170)), none, some (av_I a2), some (av_I v3), some (av_I v4), some (av_I v5), some (av_I v6), some (av_L v7), none, some (av_I v9), some (av_I v10), some (av_I v11), some (av_I v12), none, none, none, none] [av_I t0] h Q := by
  unfold B_MD_tree_158 at H
  have hS : isS s := hb0.2.1
  refine A_istore (L' := [some (av_R (some 170)), none, some (av_I a2), some (av_I v3), some (av_I v4), some (av_I v5), some (av_I v6), some (av_L v7), none, some (av_I v9), some (av_I v10), some (av_I v11), some (av_I v12), some (av_I t0), none, none, none]) d_MD_tree_158 (Nat.le_of_ble_eq_true rfl) rfl ?_
  refine A_iconst d_MD_tree_160 rfl ?_
  refine A_istore (L' := [some (av_R (some 170)), none, some (av_I a2), some (av_I v3), some (av_I v4), some (av_I v5), some (av_I v6), some (av_L v7), none, some (av_I v9), some (av_I v10), some (av_I v11), some (av_I v12), some (av_I t0), some (av_I 1), none, none]) d_MD_tree_161 (Nat.le_of_ble_eq_true rfl) rfl ?_
  refine A_pc (pc' := 163) rfl ?_
  exact hX163 (v3) (v4) (v5) (v6) (v7) (v9) (v10) (v11) (v12) (t0) (1) h  hb0 H
def B_MD_tree_105 (G : cx_T) (s : Nat) (a1 : Int) (a2 : Int) (v3 : Int) (v4 : Int) (v5 : Int) (v6 : Int) (v7 : Int) (v9 : Int) (v10 : Int) (v11 : Int) (v12 : Int) (h : ah_T) (Q : Option av_T → ah_T → Prop) (X62 : Int → Int → ah_T → Prop) (X105 : Int → Int → Int → Int → Int → Int → Int → Int → Int → ah_T → Prop) (X163 : Int → Int → Int → Int → Int → Int → Int → Int → Int → Int → Int → ah_T → Prop) : Prop :=
 ∀ x2 : Int, x2 = h.2.1 177 0 → -2147483648 ≤ x2 → x2 ≤ 2147483647 → ((x2 ≤ v12 → B_MD_tree_230 G s a1 a2 (v3) (v4) (v5) (v6) (v7) (v9) (v10) h Q X62) ∧ (¬ x2 ≤ v12 → ((v11 = 0 → (0 ≤ v12 ∧ v12 < 48) ∧ ∀ x4 : Int, x4 = h.2.1 178 (v12).toNat → -2147483648 ≤ x4 → x4 ≤ 2147483647 → (0 ≤ v3 ∧ v3 < 32) ∧ ∀ x7 : Int, x7 = h.2.1 232 (v3).toNat → -2147483648 ≤ x7 → x7 ≤ 2147483647 → ((x4 = x7 → ∀ x10 : Int, x10 = h.2.1 180 (v12).toNat → -2147483648 ≤ x10 → x10 ≤ 2147483647 → ((0 ≤ x10 → ((-2147483648) ≤ (v6 - 1) ∧ (v6 - 1) ≤ 2147483647) ∧ B_MD_tree_158 G s a1 a2 (v3) (v4) (v5) (v6) (v7) (v9) (v10) (v11) (v12) ((v6 - 1)) h Q X163) ∧ (¬ 0 ≤ x10 → B_MD_tree_158 G s a1 a2 (v3) (v4) (v5) (v6) (v7) (v9) (v10) (v11) (v12) (1) h Q X163))) ∧ (¬ x4 = x7 → B_MD_tree_224 G s a1 a2 (v3) (v4) (v5) (v6) (v7) (v9) (v10) (v11) (v12) h Q X105))) ∧ (¬ v11 = 0 → B_MD_tree_230 G s a1 a2 (v3) (v4) (v5) (v6) (v7) (v9) (v10) h Q X62))))
theorem b_MD_tree_105 {G : cx_T} {s : Nat} {a1 : Int} {a2 : Int} {v3 : Int} {v4 : Int} {v5 : Int} {v6 : Int} {v7 : Int} {v9 : Int} {v10 : Int} {v11 : Int} {v12 : Int} {h : ah_T} {Q : Option av_T → ah_T → Prop} {X62 : Int → Int → ah_T → Prop} {X105 : Int → Int → Int → Int → Int → Int → Int → Int → Int → ah_T → Prop} {X163 : Int → Int → Int → Int → Int → Int → Int → Int → Int → Int → Int → ah_T → Prop} (hX62 : ∀ (v3 : Int) (v4 : Int) (h : ah_T), hb s h → X62 v3 v4 h → aw G (rm_R 2 0 0) m_MD_tree 0 0 62 [some (av_R (some 170)), none, some (av_I a2), some (av_I v3), some (av_I v4), none, none, none, none, none, none, none, none, none, none, none, none] [] h Q) (hX105 : ∀ (v3 : Int) (v4 : Int) (v5 : Int) (v6 : Int) (v7 : Int) (v9 : Int) (v10 : Int) (v11 : Int) (v12 : Int) (h : ah_T), hb s h → X105 v3 v4 v5 v6 v7 v9 v10 v11 v12 h → aw G (rm_R 2 0 0) m_MD_tree 0 0 105 [some (av_R (some 170)), none, some (av_I a2), some (av_I v3), some (av_I v4), some (av_I v5), some (av_I v6), some (av_L v7), none, some (av_I v9), some (av_I v10), some (av_I v11), some (av_I v12), none, none, none, none] [] h Q) (hX163 : ∀ (v3 : Int) (v4 : Int) (v5 : Int) (v6 : Int) (v7 : Int) (v9 : Int) (v10 : Int) (v11 : Int) (v12 : Int) (v13 : Int) (v14 : Int) (h : ah_T), hb s h → X163 v3 v4 v5 v6 v7 v9 v10 v11 v12 v13 v14 h → aw G (rm_R 2 0 0) m_MD_tree 0 0 163 [some (av_R (some 170)), none, some (av_I a2), some (av_I v3), some (av_I v4), some (av_I v5), some (av_I v6), some (av_L v7), none, some (av_I v9), some (av_I v10), some (av_I v11), some (av_I v12), some (av_I v13), some (av_I v14), none, none] [] h Q) (hb0 : hb s h) (H : B_MD_tree_105 G s a1 a2 v3 v4 v5 v6 v7 v9 v10 v11 v12 h Q X62 X105 X163) : aw G (rm_R 2 0 0) m_MD_tree 0 0 105 [some (av_R (some 170)), none, some (av_I a2), some (av_I v3), some (av_I v4), some (av_I v5), some (av_I v6), some (av_L v7), none, some (av_I v9), some (av_I v10), some (av_I v11), some (av_I v12), none, none, none, none] [] h Q := by
  unfold B_MD_tree_105 at H
  have hS : isS s := hb0.2.1
  refine A_iload d_MD_tree_105 rfl ?_
  refine A_aload_n 0 d_MD_tree_107 rfl rfl ?_
  refine A_getAv (z := some 177) T_ok d_MD_tree_108 f_MD_32 (hb_s hb0 sf_170) (hb_m hb0 rfm_19) ?_
  refine A_iconst d_MD_tree_111 rfl ?_
  refine A_ialoadf d_MD_tree_112 (hb_s hb0 sf_177) (by decide) (by decide) (fun x2 ex2 lx2 ux2 => ?_)
  replace H := H x2 ex2 lx2 ux2
  refine A_pc (pc' := 113) rfl ?_
  refine A_icmp_ge (tgt := 230) d_MD_tree_113 (by decide) (fun c => ?_) (fun c => ?_)
  · replace H := H.1 c
    refine A_pc (pc' := 230) rfl ?_
    refine A_free (L' := [some (av_R (some 170)), none, some (av_I a2), some (av_I v3), some (av_I v4), some (av_I v5), some (av_I v6), some (av_L v7), none, some (av_I v9), some (av_I v10), none, none, none, none, none, none]) (And.intro rfl (And.intro rfl (And.intro rfl (And.intro rfl (And.intro rfl (And.intro rfl (And.intro rfl (And.intro rfl (And.intro rfl trivial))))))))) ?_
    exact b_MD_tree_230  hX62  hb0 H
  · replace H := H.2 c
    refine A_iload d_MD_tree_116 rfl ?_
    refine A_if_ne (tgt := 230) d_MD_tree_118 (by decide) (fun c => ?_) (fun c => ?_)
    · replace H := H.2 c
      refine A_pc (pc' := 230) rfl ?_
      refine A_free (L' := [some (av_R (some 170)), none, some (av_I a2), some (av_I v3), some (av_I v4), some (av_I v5), some (av_I v6), some (av_L v7), none, some (av_I v9), some (av_I v10), none, none, none, none, none, none]) (And.intro rfl (And.intro rfl (And.intro rfl (And.intro rfl (And.intro rfl (And.intro rfl (And.intro rfl (And.intro rfl (And.intro rfl trivial))))))))) ?_
      exact b_MD_tree_230  hX62  hb0 H
    · replace H := H.1 c
      refine A_aload_n 0 d_MD_tree_121 rfl rfl ?_
      refine A_getAv (z := some 178) T_ok d_MD_tree_122 f_MD_35 (hb_s hb0 sf_170) (hb_m hb0 rfm_20) ?_
      refine A_iload d_MD_tree_125 rfl ?_
      have g5 := H.1
      replace H := H.2
      refine A_ialoadf d_MD_tree_127 (hb_s hb0 sf_178) g5.1 g5.2 (fun x4 ex4 lx4 ux4 => ?_)
      replace H := H x4 ex4 lx4 ux4
      refine A_aload_n 0 d_MD_tree_128 rfl rfl ?_
      refine A_pc (pc' := 129) rfl ?_
      refine A_getAv (z := some 232) T_ok d_MD_tree_129 f_MD_199 (hb_s hb0 sf_170) (hb_m hb0 rfm_100) ?_
      refine A_iload_n 3 d_MD_tree_132 rfl rfl ?_
      have g8 := H.1
      replace H := H.2
      refine A_ialoadf d_MD_tree_133 (hb_s hb0 sf_232) g8.1 g8.2 (fun x7 ex7 lx7 ux7 => ?_)
      replace H := H x7 ex7 lx7 ux7
      refine A_icmp_eq (tgt := 140) d_MD_tree_134 (by decide) (fun c => ?_) (fun c => ?_)
      · replace H := H.1 c
        refine A_aload_n 0 d_MD_tree_140 rfl rfl ?_
        refine A_getAv (z := some 180) T_ok d_MD_tree_141 f_MD_41 (hb_s hb0 sf_170) (hb_m hb0 rfm_22) ?_
        refine A_iload d_MD_tree_144 rfl ?_
        refine A_ialoadf d_MD_tree_146 (hb_s hb0 sf_180) g5.1 g5.2 (fun x10 ex10 lx10 ux10 => ?_)
        replace H := H x10 ex10 lx10 ux10
        refine A_if_ge (tgt := 154) d_MD_tree_147 (by decide) (fun c => ?_) (fun c => ?_)
        · replace H := H.1 c
          refine A_iload d_MD_tree_154 rfl ?_
          refine A_iconst d_MD_tree_156 rfl ?_
          have g11 := H.1
          replace H := H.2
          refine A_isubv (z := (v6 - 1)) d_MD_tree_157 (w32_to (by omega) (by unfold i32; omega)) ?_
          refine A_pc (pc' := 158) rfl ?_
          exact b_MD_tree_158  hX163  hb0 H
        · replace H := H.2 c
          refine A_iconst d_MD_tree_150 rfl ?_
          refine A_goto (tgt := 158) d_MD_tree_151 (by decide) ?_
          refine A_pc (pc' := 158) rfl ?_
          exact b_MD_tree_158  hX163  hb0 H
      · replace H := H.2 c
        refine A_goto (tgt := 224) d_MD_tree_137 (by decide) ?_
        refine A_pc (pc' := 224) rfl ?_
        exact b_MD_tree_224  hX105  hb0 H
theorem lp_MD_tree_105 {G : cx_T} {s : Nat} {a1 : Int} {a2 : Int} {Q : Option av_T → ah_T → Prop} {X62 : Int → Int → ah_T → Prop} {X163 : Int → Int → Int → Int → Int → Int → Int → Int → Int → Int → Int → ah_T → Prop} (hX62 : ∀ (v3 : Int) (v4 : Int) (h : ah_T), hb s h → X62 v3 v4 h → aw G (rm_R 2 0 0) m_MD_tree 0 0 62 [some (av_R (some 170)), none, some (av_I a2), some (av_I v3), some (av_I v4), none, none, none, none, none, none, none, none, none, none, none, none] [] h Q) (hX163 : ∀ (v3 : Int) (v4 : Int) (v5 : Int) (v6 : Int) (v7 : Int) (v9 : Int) (v10 : Int) (v11 : Int) (v12 : Int) (v13 : Int) (v14 : Int) (h : ah_T), hb s h → X163 v3 v4 v5 v6 v7 v9 v10 v11 v12 v13 v14 h → aw G (rm_R 2 0 0) m_MD_tree 0 0 163 [some (av_R (some 170)), none, some (av_I a2), some (av_I v3), some (av_I v4), some (av_I v5), some (av_I v6), some (av_L v7), none, some (av_I v9), some (av_I v10), some (av_I v11), some (av_I v12), some (av_I v13), some (av_I v14), none, none] [] h Q) (I : Int → Int → Int → Int → Int → Int → Int → Int → Int → ah_T → Prop) (μ : Int → Int → Int → Int → Int → Int → Int → Int → Int → ah_T → Nat) (hI : ∀ (v3 : Int) (v4 : Int) (v5 : Int) (v6 : Int) (v7 : Int) (v9 : Int) (v10 : Int) (v11 : Int) (v12 : Int) (h : ah_T), hb s h → I v3 v4 v5 v6 v7 v9 v10 v11 v12 h → B_MD_tree_105 G s a1 a2 v3 v4 v5 v6 v7 v9 v10 v11 v12 h Q X62 (fun v3' v4' v5' v6' v7' v9' v10' v11' v12' h' => I v3' v4' v5' v6' v7' v9' v10' v11' v12' h' ∧ μ v3' v4' v5' v6' v7' v9' v10' v11' v12' h' < μ v3 v4 v5 v6 v7 v9 v10 v11 v12 h) X163) : ∀ (v3 : Int) (v4 : Int) (v5 : Int) (v6 : Int) (v7 : Int) (v9 : Int) (v10 : Int) (v11 : Int) (v12 : Int) (h : ah_T), hb s h → I v3 v4 v5 v6 v7 v9 v10 v11 v12 h → aw G (rm_R 2 0 0) m_MD_tree 0 0 105 [some (av_R (some 170)), none, some (av_I a2), some (av_I v3), some (av_I v4), some (av_I v5), some (av_I v6), some (av_L v7), none, some (av_I v9), some (av_I v10), some (av_I v11), some (av_I v12), none, none, none, none] [] h Q := by
  have key : ∀ (n : Nat) (v3 : Int) (v4 : Int) (v5 : Int) (v6 : Int) (v7 : Int) (v9 : Int) (v10 : Int) (v11 : Int) (v12 : Int) (h : ah_T), hb s h → I v3 v4 v5 v6 v7 v9 v10 v11 v12 h → μ v3 v4 v5 v6 v7 v9 v10 v11 v12 h < n → aw G (rm_R 2 0 0) m_MD_tree 0 0 105 [some (av_R (some 170)), none, some (av_I a2), some (av_I v3), some (av_I v4), some (av_I v5), some (av_I v6), some (av_L v7), none, some (av_I v9), some (av_I v10), some (av_I v11), some (av_I v12), none, none, none, none] [] h Q := by
    intro n
    induction n with
    | zero => intro v3 v4 v5 v6 v7 v9 v10 v11 v12 h  hb0 hi hm; omega
    | succ n ih => intro v3 v4 v5 v6 v7 v9 v10 v11 v12 h  hb0 hi hm; exact b_MD_tree_105  hX62 (fun v3' v4' v5' v6' v7' v9' v10' v11' v12' h'  hb' hx => ih v3' v4' v5' v6' v7' v9' v10' v11' v12' h'  hb' hx.1 (by have := hx.2; omega)) hX163  hb0 (hI v3 v4 v5 v6 v7 v9 v10 v11 v12 h  hb0 hi)
  exact fun v3 v4 v5 v6 v7 v9 v10 v11 v12 h  hb0 hi => key _ v3 v4 v5 v6 v7 v9 v10 v11 v12 h  hb0 hi (Nat.lt_succ_self _)
def B_MD_tree_62 (G : cx_T) (s : Nat) (a1 : Int) (a2 : Int) (v3 : Int) (v4 : Int) (h : ah_T) (Q : Option av_T → ah_T → Prop) (X105 : Int → Int → Int → Int → Int → Int → Int → Int → Int → ah_T → Prop) : Prop :=
 ((v3 ≤ 0 → Q (some (av_I (-1))) h) ∧ (¬ v3 ≤ 0 → ((-2147483648) ≤ (v3 - 1) ∧ (v3 - 1) ≤ 2147483647) ∧ (0 ≤ (v3 - 1) ∧ (v3 - 1) < 32) ∧ ∀ x3 : Int, x3 = h.2.1 233 ((v3 - 1)).toNat → -2147483648 ≤ x3 → x3 ≤ 2147483647 → ∀ x6 : Int, x6 = h.2.1 234 ((v3 - 1)).toNat → -2147483648 ≤ x6 → x6 ≤ 2147483647 → ∀ x8 : Int, x8 = h.2.2.1 235 ((v3 - 1)).toNat → -9223372036854775808 ≤ x8 → x8 ≤ 9223372036854775807 → X105 ((v3 - 1)) (v4) (x3) (x6) (x8) (0) (0) (0) (0) h))
theorem b_MD_tree_62 {G : cx_T} {s : Nat} {a1 : Int} {a2 : Int} {v3 : Int} {v4 : Int} {h : ah_T} {Q : Option av_T → ah_T → Prop} {X105 : Int → Int → Int → Int → Int → Int → Int → Int → Int → ah_T → Prop} (hX105 : ∀ (v3 : Int) (v4 : Int) (v5 : Int) (v6 : Int) (v7 : Int) (v9 : Int) (v10 : Int) (v11 : Int) (v12 : Int) (h : ah_T), hb s h → X105 v3 v4 v5 v6 v7 v9 v10 v11 v12 h → aw G (rm_R 2 0 0) m_MD_tree 0 0 105 [some (av_R (some 170)), none, some (av_I a2), some (av_I v3), some (av_I v4), some (av_I v5), some (av_I v6), some (av_L v7), none, some (av_I v9), some (av_I v10), some (av_I v11), some (av_I v12), none, none, none, none] [] h Q) (hb0 : hb s h) (H : B_MD_tree_62 G s a1 a2 v3 v4 h Q X105) : aw G (rm_R 2 0 0) m_MD_tree 0 0 62 [some (av_R (some 170)), none, some (av_I a2), some (av_I v3), some (av_I v4), none, none, none, none, none, none, none, none, none, none, none, none] [] h Q := by
  unfold B_MD_tree_62 at H
  have hS : isS s := hb0.2.1
  refine A_iload_n 3 d_MD_tree_62 rfl rfl ?_
  refine A_if_le (tgt := 375) d_MD_tree_63 (by decide) (fun c => ?_) (fun c => ?_)
  · replace H := H.1 c
    refine A_iconst d_MD_tree_375 rfl ?_
    exact A_iret d_MD_tree_376 (by decide) rfl H
  · replace H := H.2 c
    have g1 := H.1
    replace H := H.2
    refine A_iincv (z := (v3 - 1)) (L' := [some (av_R (some 170)), none, some (av_I a2), some (av_I (v3 - 1)), some (av_I v4), none, none, none, none, none, none, none, none, none, none, none, none]) d_MD_tree_66 rfl (w32_to (by omega) (by unfold i32; omega)) rfl ?_
    refine A_aload_n 0 d_MD_tree_69 rfl rfl ?_
    refine A_getAv (z := some 233) T_ok d_MD_tree_70 f_MD_202 (hb_s hb0 sf_170) (hb_m hb0 rfm_101) ?_
    refine A_iload_n 3 d_MD_tree_73 rfl rfl ?_
    have g4 := H.1
    replace H := H.2
    refine A_ialoadf d_MD_tree_74 (hb_s hb0 sf_233) g4.1 g4.2 (fun x3 ex3 lx3 ux3 => ?_)
    replace H := H x3 ex3 lx3 ux3
    refine A_pc (pc' := 75) rfl ?_
    refine A_istore (L' := [some (av_R (some 170)), none, some (av_I a2), some (av_I (v3 - 1)), some (av_I v4), some (av_I x3), none, none, none, none, none, none, none, none, none, none, none]) d_MD_tree_75 (Nat.le_of_ble_eq_true rfl) rfl ?_
    refine A_aload_n 0 d_MD_tree_77 rfl rfl ?_
    refine A_getAv (z := some 234) T_ok d_MD_tree_78 f_MD_205 (hb_s hb0 sf_170) (hb_m hb0 rfm_102) ?_
    refine A_iload_n 3 d_MD_tree_81 rfl rfl ?_
    refine A_ialoadf d_MD_tree_82 (hb_s hb0 sf_234) g4.1 g4.2 (fun x6 ex6 lx6 ux6 => ?_)
    replace H := H x6 ex6 lx6 ux6
    refine A_istore (L' := [some (av_R (some 170)), none, some (av_I a2), some (av_I (v3 - 1)), some (av_I v4), some (av_I x3), some (av_I x6), none, none, none, none, none, none, none, none, none, none]) d_MD_tree_83 (Nat.le_of_ble_eq_true rfl) rfl ?_
    refine A_pc (pc' := 85) rfl ?_
    refine A_aload_n 0 d_MD_tree_85 rfl rfl ?_
    refine A_getAv (z := some 235) T_ok d_MD_tree_86 f_MD_208 (hb_s hb0 sf_170) (hb_m hb0 rfm_103) ?_
    refine A_iload_n 3 d_MD_tree_89 rfl rfl ?_
    refine A_laloadf d_MD_tree_90 (hb_s hb0 sf_235) g4.1 g4.2 (fun x8 ex8 lx8 ux8 => ?_)
    replace H := H x8 ex8 lx8 ux8
    refine A_lstore (L' := [some (av_R (some 170)), none, some (av_I a2), some (av_I (v3 - 1)), some (av_I v4), some (av_I x3), some (av_I x6), some (av_L x8), none, none, none, none, none, none, none, none, none]) d_MD_tree_91 (Nat.le_of_ble_eq_true rfl) rfl ?_
    refine A_iconst d_MD_tree_93 rfl ?_
    refine A_pc (pc' := 94) rfl ?_
    refine A_istore (L' := [some (av_R (some 170)), none, some (av_I a2), some (av_I (v3 - 1)), some (av_I v4), some (av_I x3), some (av_I x6), some (av_L x8), none, some (av_I 0), none, none, none, none, none, none, none]) d_MD_tree_94 (Nat.le_of_ble_eq_true rfl) rfl ?_
    refine A_iconst d_MD_tree_96 rfl ?_
    refine A_istore (L' := [some (av_R (some 170)), none, some (av_I a2), some (av_I (v3 - 1)), some (av_I v4), some (av_I x3), some (av_I x6), some (av_L x8), none, some (av_I 0), some (av_I 0), none, none, none, none, none, none]) d_MD_tree_97 (Nat.le_of_ble_eq_true rfl) rfl ?_
    refine A_iconst d_MD_tree_99 rfl ?_
    refine A_istore (L' := [some (av_R (some 170)), none, some (av_I a2), some (av_I (v3 - 1)), some (av_I v4), some (av_I x3), some (av_I x6), some (av_L x8), none, some (av_I 0), some (av_I 0), some (av_I 0), none, none, none, none, none]) d_MD_tree_100 (Nat.le_of_ble_eq_true rfl) rfl ?_
    refine A_iconst d_MD_tree_102 rfl ?_
    refine A_pc (pc' := 103) rfl ?_
    refine A_istore (L' := [some (av_R (some 170)), none, some (av_I a2), some (av_I (v3 - 1)), some (av_I v4), some (av_I x3), some (av_I x6), some (av_L x8), none, some (av_I 0), some (av_I 0), some (av_I 0), some (av_I 0), none, none, none, none]) d_MD_tree_103 (Nat.le_of_ble_eq_true rfl) rfl ?_
    refine A_pc (pc' := 105) rfl ?_
    exact hX105 ((v3 - 1)) (v4) (x3) (x6) (x8) (0) (0) (0) (0) h  hb0 H
theorem lp_MD_tree_62 {G : cx_T} {s : Nat} {a1 : Int} {a2 : Int} {Q : Option av_T → ah_T → Prop} {X105 : Int → Int → Int → Int → Int → Int → Int → Int → Int → ah_T → Prop} (hX105 : ∀ (v3 : Int) (v4 : Int) (v5 : Int) (v6 : Int) (v7 : Int) (v9 : Int) (v10 : Int) (v11 : Int) (v12 : Int) (h : ah_T), hb s h → X105 v3 v4 v5 v6 v7 v9 v10 v11 v12 h → aw G (rm_R 2 0 0) m_MD_tree 0 0 105 [some (av_R (some 170)), none, some (av_I a2), some (av_I v3), some (av_I v4), some (av_I v5), some (av_I v6), some (av_L v7), none, some (av_I v9), some (av_I v10), some (av_I v11), some (av_I v12), none, none, none, none] [] h Q) (I : Int → Int → ah_T → Prop) (μ : Int → Int → ah_T → Nat) (hI : ∀ (v3 : Int) (v4 : Int) (h : ah_T), hb s h → I v3 v4 h → B_MD_tree_62 G s a1 a2 v3 v4 h Q X105) : ∀ (v3 : Int) (v4 : Int) (h : ah_T), hb s h → I v3 v4 h → aw G (rm_R 2 0 0) m_MD_tree 0 0 62 [some (av_R (some 170)), none, some (av_I a2), some (av_I v3), some (av_I v4), none, none, none, none, none, none, none, none, none, none, none, none] [] h Q := by
  have key : ∀ (n : Nat) (v3 : Int) (v4 : Int) (h : ah_T), hb s h → I v3 v4 h → μ v3 v4 h < n → aw G (rm_R 2 0 0) m_MD_tree 0 0 62 [some (av_R (some 170)), none, some (av_I a2), some (av_I v3), some (av_I v4), none, none, none, none, none, none, none, none, none, none, none, none] [] h Q := by
    intro n
    induction n with
    | zero => intro v3 v4 h  hb0 hi hm; omega
    | succ n ih => intro v3 v4 h  hb0 hi hm; exact b_MD_tree_62  hX105  hb0 (hI v3 v4 h  hb0 hi)
  exact fun v3 v4 h  hb0 hi => key _ v3 v4 h  hb0 hi (Nat.lt_succ_self _)
def B_MD_tree_16 (G : cx_T) (s : Nat) (a1 : Int) (a2 : Int) (h : ah_T) (Q : Option av_T → ah_T → Prop) : Prop :=
 Q (some (av_I (-1))) h
theorem b_MD_tree_16 {G : cx_T} {s : Nat} {a1 : Int} {a2 : Int} {h : ah_T} {Q : Option av_T → ah_T → Prop} (hb0 : hb s h) (H : B_MD_tree_16 G s a1 a2 h Q ) : aw G (rm_R 2 0 0) m_MD_tree 0 0 16 [none, none, none, none, none, none, none, none, none, none, none, none, none, none, none, none, none] [] h Q := by
  unfold B_MD_tree_16 at H
  have hS : isS s := hb0.2.1
  refine A_iconst d_MD_tree_16 rfl ?_
  exact A_iret d_MD_tree_17 (by decide) rfl H
def B_MD_tree_0 (G : cx_T) (s : Nat) (a1 : Int) (a2 : Int) (h : ah_T) (Q : Option av_T → ah_T → Prop) (X62 : Int → Int → ah_T → Prop) : Prop :=
 ((a1 < 0 → B_MD_tree_16 G s a1 a2 h Q ) ∧ (¬ a1 < 0 → ∀ x1 : Int, x1 = h.2.1 170 98 → -2147483648 ≤ x1 → x1 ≤ 2147483647 → ((x1 ≤ a1 → B_MD_tree_16 G s a1 a2 h Q ) ∧ (¬ x1 ≤ a1 → ((0 ≤ a2 → ∀ x4 : Int, x4 = h.2.1 178 0 → -2147483648 ≤ x4 → x4 ≤ 2147483647 → ∀ h5 : ah_T, h5 = st_i h 232 0 x4 → ∀ h8 : ah_T, h8 = st_i h5 233 0 0 → ∀ x12 : Int, x12 = h8.2.1 181 0 → -2147483648 ≤ x12 → x12 ≤ 2147483647 → ∀ h13 : ah_T, h13 = st_i h8 234 0 x12 → ∀ h16 : ah_T, h16 = st_l h13 235 0 a1 → X62 (1) (0) h16) ∧ (¬ 0 ≤ a2 → B_MD_tree_16 G s a1 a2 h Q ))))))
theorem b_MD_tree_0 {G : cx_T} {s : Nat} {a1 : Int} {a2 : Int} {h : ah_T} {Q : Option av_T → ah_T → Prop} {X62 : Int → Int → ah_T → Prop} (hX62 : ∀ (v3 : Int) (v4 : Int) (h : ah_T), hb s h → X62 v3 v4 h → aw G (rm_R 2 0 0) m_MD_tree 0 0 62 [some (av_R (some 170)), none, some (av_I a2), some (av_I v3), some (av_I v4), none, none, none, none, none, none, none, none, none, none, none, none] [] h Q) (hb0 : hb s h) (H : B_MD_tree_0 G s a1 a2 h Q X62) : aw G (rm_R 2 0 0) m_MD_tree 0 0 0 [some (av_R (some 170)), some (av_I a1), some (av_I a2), none, none, none, none, none, none, none, none, none, none, none, none, none, none] [] h Q := by
  unfold B_MD_tree_0 at H
  have hS : isS s := hb0.2.1
  refine A_iload_n 1 d_MD_tree_0 rfl rfl ?_
  refine A_if_lt (tgt := 16) d_MD_tree_1 (by decide) (fun c => ?_) (fun c => ?_)
  · replace H := H.1 c
    refine A_pc (pc' := 16) rfl ?_
    refine A_free (L' := [none, none, none, none, none, none, none, none, none, none, none, none, none, none, none, none, none]) trivial ?_
    exact b_MD_tree_16    hb0 H
  · replace H := H.2 c
    refine A_iload_n 1 d_MD_tree_4 rfl rfl ?_
    refine A_aload_n 0 d_MD_tree_5 rfl rfl ?_
    refine A_getIf T_ok d_MD_tree_6 f_MD_483 (hb_s hb0 sf_170) (fun x1 ex1 lx1 ux1 => ?_)
    replace H := H x1 ex1 lx1 ux1
    refine A_icmp_ge (tgt := 16) d_MD_tree_9 (by decide) (fun c => ?_) (fun c => ?_)
    · replace H := H.1 c
      refine A_pc (pc' := 16) rfl ?_
      refine A_free (L' := [none, none, none, none, none, none, none, none, none, none, none, none, none, none, none, none, none]) trivial ?_
      exact b_MD_tree_16    hb0 H
    · replace H := H.2 c
      refine A_iload_n 2 d_MD_tree_12 rfl rfl ?_
      refine A_if_ge (tgt := 18) d_MD_tree_13 (by decide) (fun c => ?_) (fun c => ?_)
      · replace H := H.1 c
        refine A_iconst d_MD_tree_18 rfl ?_
        refine A_istore_n 3 (L' := [some (av_R (some 170)), some (av_I a1), some (av_I a2), some (av_I 1), none, none, none, none, none, none, none, none, none, none, none, none, none]) d_MD_tree_19 rfl (Nat.le_of_ble_eq_true rfl) rfl ?_
        refine A_aload_n 0 d_MD_tree_20 rfl rfl ?_
        refine A_getAv (z := some 232) T_ok d_MD_tree_21 f_MD_199 (hb_s hb0 sf_170) (hb_m hb0 rfm_100) ?_
        refine A_iconst d_MD_tree_24 rfl ?_
        refine A_pc (pc' := 25) rfl ?_
        refine A_aload_n 0 d_MD_tree_25 rfl rfl ?_
        refine A_getAv (z := some 178) T_ok d_MD_tree_26 f_MD_35 (hb_s hb0 sf_170) (hb_m hb0 rfm_20) ?_
        refine A_iconst d_MD_tree_29 rfl ?_
        refine A_ialoadf d_MD_tree_30 (hb_s hb0 sf_178) (by decide) (by decide) (fun x4 ex4 lx4 ux4 => ?_)
        replace H := H x4 ex4 lx4 ux4
        refine A_iastoreN d_MD_tree_31 (hb_s hb0 sf_232) (by decide) (by decide) ?_
        refine A_hn (fun h5 eh5 => ?_)
        have hb6 := hb_i hb0 eh5
        replace H := H h5 eh5
        refine A_aload_n 0 d_MD_tree_32 rfl rfl ?_
        refine A_pc (pc' := 33) rfl ?_
        refine A_getAv (z := some 233) T_ok d_MD_tree_33 f_MD_202 (hb_s hb6 sf_170) (hb_m hb6 rfm_101) ?_
        refine A_iconst d_MD_tree_36 rfl ?_
        refine A_iconst d_MD_tree_37 rfl ?_
        refine A_iastoreN d_MD_tree_38 (hb_s hb6 sf_233) (by decide) (by decide) ?_
        refine A_hn (fun h8 eh8 => ?_)
        have hb9 := hb_i hb6 eh8
        replace H := H h8 eh8
        refine A_aload_n 0 d_MD_tree_39 rfl rfl ?_
        refine A_getAv (z := some 234) T_ok d_MD_tree_40 f_MD_205 (hb_s hb9 sf_170) (hb_m hb9 rfm_102) ?_
        refine A_pc (pc' := 43) rfl ?_
        refine A_iconst d_MD_tree_43 rfl ?_
        refine A_aload_n 0 d_MD_tree_44 rfl rfl ?_
        refine A_getAv (z := some 181) T_ok d_MD_tree_45 f_MD_44 (hb_s hb9 sf_170) (hb_m hb9 rfm_23) ?_
        refine A_iconst d_MD_tree_48 rfl ?_
        refine A_ialoadf d_MD_tree_49 (hb_s hb9 sf_181) (by decide) (by decide) (fun x12 ex12 lx12 ux12 => ?_)
        replace H := H x12 ex12 lx12 ux12
        refine A_iastoreN d_MD_tree_50 (hb_s hb9 sf_234) (by decide) (by decide) ?_
        refine A_hn (fun h13 eh13 => ?_)
        have hb14 := hb_i hb9 eh13
        replace H := H h13 eh13
        refine A_pc (pc' := 51) rfl ?_
        refine A_aload_n 0 d_MD_tree_51 rfl rfl ?_
        refine A_getAv (z := some 235) T_ok d_MD_tree_52 f_MD_208 (hb_s hb14 sf_170) (hb_m hb14 rfm_103) ?_
        refine A_iconst d_MD_tree_55 rfl ?_
        refine A_iload_n 1 d_MD_tree_56 rfl rfl ?_
        refine A_i2l d_MD_tree_57 ?_
        refine A_lastoreN d_MD_tree_58 (hb_s hb14 sf_235) (by decide) (by decide) ?_
        refine A_hn (fun h16 eh16 => ?_)
        have hb17 := hb_l hb14 eh16
        replace H := H h16 eh16
        refine A_pc (pc' := 59) rfl ?_
        refine A_iconst d_MD_tree_59 rfl ?_
        refine A_istore (L' := [some (av_R (some 170)), some (av_I a1), some (av_I a2), some (av_I 1), some (av_I 0), none, none, none, none, none, none, none, none, none, none, none, none]) d_MD_tree_60 (Nat.le_of_ble_eq_true rfl) rfl ?_
        refine A_pc (pc' := 62) rfl ?_
        refine A_free (L' := [some (av_R (some 170)), none, some (av_I a2), some (av_I 1), some (av_I 0), none, none, none, none, none, none, none, none, none, none, none, none]) (And.intro rfl (And.intro rfl (And.intro rfl (And.intro rfl trivial)))) ?_
        exact hX62 (1) (0) h16  hb17 H
      · replace H := H.2 c
        refine A_pc (pc' := 16) rfl ?_
        refine A_free (L' := [none, none, none, none, none, none, none, none, none, none, none, none, none, none, none, none, none]) trivial ?_
        exact b_MD_tree_16    hb0 H
theorem c_MD_tree {G : cx_T} {s : Nat} {a1 : Int} {a2 : Int} {h : ah_T} {Q : Option av_T → ah_T → Prop} {X62 : Int → Int → ah_T → Prop} (hX62 : ∀ (v3 : Int) (v4 : Int) (h : ah_T), hb s h → X62 v3 v4 h → aw G (rm_R 2 0 0) m_MD_tree 0 0 62 [some (av_R (some 170)), none, some (av_I a2), some (av_I v3), some (av_I v4), none, none, none, none, none, none, none, none, none, none, none, none] [] h Q) (hb0 : hb s h) (H : i32 a1 → i32 a2 → B_MD_tree_0 G s a1 a2 h Q X62) : con G 2 0 0 m_MD_tree [av_R (some 170), av_I a1, av_I a2] h Q := by
  have hS : isS s := hb0.2.1
  refine con_of (L := [some (av_R (some 170)), some (av_I a1), some (av_I a2), none, none, none, none, none, none, none, none, none, none, none, none, none, none]) (by decide +kernel) (Nat.le_of_ble_eq_true rfl) rfl ?_
  refine A_locI 1 rfl (fun ra1 => ?_)
  refine A_locI 2 rfl (fun ra2 => ?_)
  exact b_MD_tree_0  hX62 hb0 (H ra1 ra2)
