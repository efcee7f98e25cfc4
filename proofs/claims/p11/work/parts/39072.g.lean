/-! ===== verification conditions, 508 ===== -/
def B_Judge_forget_0 (G : cx_T) (s : Nat) (h : ah_T) (Q : Option av_T → ah_T → Prop) : Prop :=
 ∀ h1 : ah_T, h1 = st_i h 143 1 0 → Q none h1
theorem b_Judge_forget_0 {G : cx_T} {s : Nat} {h : ah_T} {Q : Option av_T → ah_T → Prop} (hb0 : hb s h) (H : B_Judge_forget_0 G s h Q ) : aw G (rm_R 0 0 0) m_Judge_forget 0 0 0 [some (av_R (some 143))] [] h Q := by
  unfold B_Judge_forget_0 at H
  have hS : isS s := hb0.2.1
  refine A_aload_n 0 d_Judge_forget_0 rfl rfl ?_
  refine A_iconst d_Judge_forget_1 rfl ?_
  refine A_putI T_ok d_Judge_forget_2 f_Judge_18 (hb_s hb0 sf_143) fin_f ?_
  refine A_hn (fun h1 eh1 => ?_)
  have hb2 := hb_i hb0 eh1
  replace H := H h1 eh1
  exact A_vret d_Judge_forget_5 (by decide) rfl H
theorem c_Judge_forget {G : cx_T} {s : Nat} {h : ah_T} {Q : Option av_T → ah_T → Prop} (hb0 : hb s h) (H : B_Judge_forget_0 G s h Q ) : con G 0 0 0 m_Judge_forget [av_R (some 143)] h Q := by
  have hS : isS s := hb0.2.1
  refine con_of (L := [some (av_R (some 143))]) (by decide +kernel) (Nat.le_of_ble_eq_true rfl) rfl ?_
  exact b_Judge_forget_0   hb0 (H )
def B_Beams_forget_0 (G : cx_T) (s : Nat) (h : ah_T) (Q : Option av_T → ah_T → Prop) : Prop :=
 ∀ h1 : ah_T, h1 = st_i h 146 1 0 → Q none h1
theorem b_Beams_forget_0 {G : cx_T} {s : Nat} {h : ah_T} {Q : Option av_T → ah_T → Prop} (hb0 : hb s h) (H : B_Beams_forget_0 G s h Q ) : aw G (rm_R 0 0 0) m_Beams_forget 0 0 0 [some (av_R (some 146))] [] h Q := by
  unfold B_Beams_forget_0 at H
  have hS : isS s := hb0.2.1
  refine A_aload_n 0 d_Beams_forget_0 rfl rfl ?_
  refine A_iconst d_Beams_forget_1 rfl ?_
  refine A_putI T_ok d_Beams_forget_2 f_Beams_21 (hb_s hb0 sf_146) fin_f ?_
  refine A_hn (fun h1 eh1 => ?_)
  have hb2 := hb_i hb0 eh1
  replace H := H h1 eh1
  exact A_vret d_Beams_forget_5 (by decide) rfl H
theorem c_Beams_forget {G : cx_T} {s : Nat} {h : ah_T} {Q : Option av_T → ah_T → Prop} (hb0 : hb s h) (H : B_Beams_forget_0 G s h Q ) : con G 0 0 0 m_Beams_forget [av_R (some 146)] h Q := by
  have hS : isS s := hb0.2.1
  refine con_of (L := [some (av_R (some 146))]) (by decide +kernel) (Nat.le_of_ble_eq_true rfl) rfl ?_
  exact b_Beams_forget_0   hb0 (H )
def B_Page_forget_0 (G : cx_T) (s : Nat) (h : ah_T) (Q : Option av_T → ah_T → Prop) : Prop :=
 ∀ h1 : ah_T, h1 = st_i h 150 1 0 → Q none h1
theorem b_Page_forget_0 {G : cx_T} {s : Nat} {h : ah_T} {Q : Option av_T → ah_T → Prop} (hb0 : hb s h) (H : B_Page_forget_0 G s h Q ) : aw G (rm_R 0 0 0) m_Page_forget 0 0 0 [some (av_R (some 150))] [] h Q := by
  unfold B_Page_forget_0 at H
  have hS : isS s := hb0.2.1
  refine A_aload_n 0 d_Page_forget_0 rfl rfl ?_
  refine A_iconst d_Page_forget_1 rfl ?_
  refine A_putI T_ok d_Page_forget_2 f_Page_34 (hb_s hb0 sf_150) fin_f ?_
  refine A_hn (fun h1 eh1 => ?_)
  have hb2 := hb_i hb0 eh1
  replace H := H h1 eh1
  exact A_vret d_Page_forget_5 (by decide) rfl H
theorem c_Page_forget {G : cx_T} {s : Nat} {h : ah_T} {Q : Option av_T → ah_T → Prop} (hb0 : hb s h) (H : B_Page_forget_0 G s h Q ) : con G 0 0 0 m_Page_forget [av_R (some 150)] h Q := by
  have hS : isS s := hb0.2.1
  refine con_of (L := [some (av_R (some 150))]) (by decide +kernel) (Nat.le_of_ble_eq_true rfl) rfl ?_
  exact b_Page_forget_0   hb0 (H )
def B_Seconds_forget_0 (G : cx_T) (s : Nat) (h : ah_T) (Q : Option av_T → ah_T → Prop) : Prop :=
 ∀ h1 : ah_T, h1 = st_i h 158 1 0 → Q none h1
theorem b_Seconds_forget_0 {G : cx_T} {s : Nat} {h : ah_T} {Q : Option av_T → ah_T → Prop} (hb0 : hb s h) (H : B_Seconds_forget_0 G s h Q ) : aw G (rm_R 0 0 0) m_Seconds_forget 0 0 0 [some (av_R (some 158))] [] h Q := by
  unfold B_Seconds_forget_0 at H
  have hS : isS s := hb0.2.1
  refine A_aload_n 0 d_Seconds_forget_0 rfl rfl ?_
  refine A_iconst d_Seconds_forget_1 rfl ?_
  refine A_putI T_ok d_Seconds_forget_2 f_Seconds_22 (hb_s hb0 sf_158) fin_f ?_
  refine A_hn (fun h1 eh1 => ?_)
  have hb2 := hb_i hb0 eh1
  replace H := H h1 eh1
  exact A_vret d_Seconds_forget_5 (by decide) rfl H
theorem c_Seconds_forget {G : cx_T} {s : Nat} {h : ah_T} {Q : Option av_T → ah_T → Prop} (hb0 : hb s h) (H : B_Seconds_forget_0 G s h Q ) : con G 0 0 0 m_Seconds_forget [av_R (some 158)] h Q := by
  have hS : isS s := hb0.2.1
  refine con_of (L := [some (av_R (some 158))]) (by decide +kernel) (Nat.le_of_ble_eq_true rfl) rfl ?_
  exact b_Seconds_forget_0   hb0 (H )
def B_Trees_forget_0 (G : cx_T) (s : Nat) (h : ah_T) (Q : Option av_T → ah_T → Prop) : Prop :=
 ∀ h1 : ah_T, h1 = st_i h 162 1 0 → Q none h1
theorem b_Trees_forget_0 {G : cx_T} {s : Nat} {h : ah_T} {Q : Option av_T → ah_T → Prop} (hb0 : hb s h) (H : B_Trees_forget_0 G s h Q ) : aw G (rm_R 0 0 0) m_Trees_forget 0 0 0 [some (av_R (some 162))] [] h Q := by
  unfold B_Trees_forget_0 at H
  have hS : isS s := hb0.2.1
  refine A_aload_n 0 d_Trees_forget_0 rfl rfl ?_
  refine A_iconst d_Trees_forget_1 rfl ?_
  refine A_putI T_ok d_Trees_forget_2 f_Trees_15 (hb_s hb0 sf_162) fin_f ?_
  refine A_hn (fun h1 eh1 => ?_)
  have hb2 := hb_i hb0 eh1
  replace H := H h1 eh1
  exact A_vret d_Trees_forget_5 (by decide) rfl H
theorem c_Trees_forget {G : cx_T} {s : Nat} {h : ah_T} {Q : Option av_T → ah_T → Prop} (hb0 : hb s h) (H : B_Trees_forget_0 G s h Q ) : con G 0 0 0 m_Trees_forget [av_R (some 162)] h Q := by
  have hS : isS s := hb0.2.1
  refine con_of (L := [some (av_R (some 162))]) (by decide +kernel) (Nat.le_of_ble_eq_true rfl) rfl ?_
  exact b_Trees_forget_0   hb0 (H )
def B_Pairing_forget_0 (G : cx_T) (s : Nat) (h : ah_T) (Q : Option av_T → ah_T → Prop) : Prop :=
 ∀ h1 : ah_T, h1 = st_i h 164 5 0 → ∀ h3 : ah_T, h3 = st_i h1 164 7 0 → Q none h3
theorem b_Pairing_forget_0 {G : cx_T} {s : Nat} {h : ah_T} {Q : Option av_T → ah_T → Prop} (hb0 : hb s h) (H : B_Pairing_forget_0 G s h Q ) : aw G (rm_R 0 0 0) m_Pairing_forget 0 0 0 [some (av_R (some 164))] [] h Q := by
  unfold B_Pairing_forget_0 at H
  have hS : isS s := hb0.2.1
  refine A_aload_n 0 d_Pairing_forget_0 rfl rfl ?_
  refine A_iconst d_Pairing_forget_1 rfl ?_
  refine A_putI T_ok d_Pairing_forget_2 f_Pairing_27 (hb_s hb0 sf_164) fin_f ?_
  refine A_hn (fun h1 eh1 => ?_)
  have hb2 := hb_i hb0 eh1
  replace H := H h1 eh1
  refine A_aload_n 0 d_Pairing_forget_5 rfl rfl ?_
  refine A_iconst d_Pairing_forget_6 rfl ?_
  refine A_pc (pc' := 7) rfl ?_
  refine A_putI T_ok d_Pairing_forget_7 f_Pairing_31 (hb_s hb2 sf_164) fin_f ?_
  refine A_hn (fun h3 eh3 => ?_)
  have hb4 := hb_i hb2 eh3
  replace H := H h3 eh3
  exact A_vret d_Pairing_forget_10 (by decide) rfl H
theorem c_Pairing_forget {G : cx_T} {s : Nat} {h : ah_T} {Q : Option av_T → ah_T → Prop} (hb0 : hb s h) (H : B_Pairing_forget_0 G s h Q ) : con G 0 0 0 m_Pairing_forget [av_R (some 164)] h Q := by
  have hS : isS s := hb0.2.1
  refine con_of (L := [some (av_R (some 164))]) (by decide +kernel) (Nat.le_of_ble_eq_true rfl) rfl ?_
  exact b_Pairing_forget_0   hb0 (H )
def B_PM_forgetFindings_0 (G : cx_T) (s : Nat) (h : ah_T) (Q : Option av_T → ah_T → Prop) : Prop :=
 con G 0 0 0 m_Judge_forget [av_R (some 143)] h (fun r h2 => r = none ∧ hb s h2 ∧ con G 0 0 0 m_Beams_forget [av_R (some 146)] h2 (fun r h6 => r = none ∧ hb s h6 ∧ con G 0 0 0 m_Page_forget [av_R (some 150)] h6 (fun r h10 => r = none ∧ hb s h10 ∧ con G 0 0 0 m_Seconds_forget [av_R (some 158)] h10 (fun r h14 => r = none ∧ hb s h14 ∧ con G 0 0 0 m_Trees_forget [av_R (some 162)] h14 (fun r h18 => r = none ∧ hb s h18 ∧ con G 0 0 0 m_Pairing_forget [av_R (some 164)] h18 (fun r h22 => r = none ∧ hb s h22 ∧ Q none h22))))))
theorem b_PM_forgetFindings_0 {G : cx_T} {s : Nat} {h : ah_T} {Q : Option av_T → ah_T → Prop} (hb0 : hb s h) (H : B_PM_forgetFindings_0 G s h Q ) : aw G (rm_R 1 0 0) m_PM_forgetFindings 0 0 0 [some (av_R (some 0))] [] h Q := by
  unfold B_PM_forgetFindings_0 at H
  have hS : isS s := hb0.2.1
  refine A_aload_n 0 d_PM_forgetFindings_0 rfl rfl ?_
  refine A_getOv (z := some 143) T_ok d_PM_forgetFindings_1 f_PM_37 (hb_s hb0 sf_0) (hb_r hb0 rff_0_5) ?_
  refine A_callV0 m_Judge_forget T_ok d_PM_forgetFindings_4 l_PM_96 k_Judge_forget (hb_s hb0 sf_143) rfl (by decide +kernel) (by decide) (Nat.le_of_ble_eq_true rfl) H (fun r h2 hq => ?_)
  clear H
  obtain ⟨rfl, hb3, H⟩ := hq
  refine A_aload_n 0 d_PM_forgetFindings_7 rfl rfl ?_
  refine A_getOv (z := some 146) T_ok d_PM_forgetFindings_8 f_PM_44 (hb_s hb3 sf_0) (hb_r hb3 rff_0_6) ?_
  refine A_callV0 m_Beams_forget T_ok d_PM_forgetFindings_11 l_PM_99 k_Beams_forget (hb_s hb3 sf_146) rfl (by decide +kernel) (by decide) (Nat.le_of_ble_eq_true rfl) H (fun r h6 hq => ?_)
  clear H
  obtain ⟨rfl, hb7, H⟩ := hq
  refine A_aload_n 0 d_PM_forgetFindings_14 rfl rfl ?_
  refine A_getOv (z := some 150) T_ok d_PM_forgetFindings_15 f_PM_51 (hb_s hb7 sf_0) (hb_r hb7 rff_0_7) ?_
  refine A_callV0 m_Page_forget T_ok d_PM_forgetFindings_18 l_PM_100 k_Page_forget (hb_s hb7 sf_150) rfl (by decide +kernel) (by decide) (Nat.le_of_ble_eq_true rfl) H (fun r h10 hq => ?_)
  clear H
  obtain ⟨rfl, hb11, H⟩ := hq
  refine A_aload_n 0 d_PM_forgetFindings_21 rfl rfl ?_
  refine A_getOv (z := some 158) T_ok d_PM_forgetFindings_22 f_PM_58 (hb_s hb11 sf_0) (hb_r hb11 rff_0_8) ?_
  refine A_callV0 m_Seconds_forget T_ok d_PM_forgetFindings_25 l_PM_101 k_Seconds_forget (hb_s hb11 sf_158) rfl (by decide +kernel) (by decide) (Nat.le_of_ble_eq_true rfl) H (fun r h14 hq => ?_)
  clear H
  obtain ⟨rfl, hb15, H⟩ := hq
  refine A_aload_n 0 d_PM_forgetFindings_28 rfl rfl ?_
  refine A_getOv (z := some 162) T_ok d_PM_forgetFindings_29 f_PM_65 (hb_s hb15 sf_0) (hb_r hb15 rff_0_9) ?_
  refine A_callV0 m_Trees_forget T_ok d_PM_forgetFindings_32 l_PM_102 k_Trees_forget (hb_s hb15 sf_162) rfl (by decide +kernel) (by decide) (Nat.le_of_ble_eq_true rfl) H (fun r h18 hq => ?_)
  clear H
  obtain ⟨rfl, hb19, H⟩ := hq
  refine A_aload_n 0 d_PM_forgetFindings_35 rfl rfl ?_
  refine A_getOv (z := some 164) T_ok d_PM_forgetFindings_36 f_PM_72 (hb_s hb19 sf_0) (hb_r hb19 rff_0_10) ?_
  refine A_callV0 m_Pairing_forget T_ok d_PM_forgetFindings_39 l_PM_103 k_Pairing_forget (hb_s hb19 sf_164) rfl (by decide +kernel) (by decide) (Nat.le_of_ble_eq_true rfl) H (fun r h22 hq => ?_)
  clear H
  obtain ⟨rfl, hb23, H⟩ := hq
  exact A_vret d_PM_forgetFindings_42 (by decide) rfl H
theorem c_PM_forgetFindings {G : cx_T} {s : Nat} {h : ah_T} {Q : Option av_T → ah_T → Prop} (hb0 : hb s h) (H : B_PM_forgetFindings_0 G s h Q ) : con G 1 0 0 m_PM_forgetFindings [av_R (some 0)] h Q := by
  have hS : isS s := hb0.2.1
  refine con_of (L := [some (av_R (some 0))]) (by decide +kernel) (Nat.le_of_ble_eq_true rfl) rfl ?_
  exact b_PM_forgetFindings_0   hb0 (H )
def B_PM_place_0 (G : cx_T) (s : Nat) (h : ah_T) (Q : Option av_T → ah_T → Prop) : Prop :=
 ∀ x1 : Int, x1 = h.2.1 0 4 → -2147483648 ≤ x1 → x1 ≤ 2147483647 → Q (some (av_I x1)) h
theorem b_PM_place_0 {G : cx_T} {s : Nat} {h : ah_T} {Q : Option av_T → ah_T → Prop} (hb0 : hb s h) (H : B_PM_place_0 G s h Q ) : aw G (rm_R 0 0 0) m_PM_place 0 0 0 [some (av_R (some 0))] [] h Q := by
  unfold B_PM_place_0 at H
  have hS : isS s := hb0.2.1
  refine A_aload_n 0 d_PM_place_0 rfl rfl ?_
  refine A_getIf T_ok d_PM_place_1 f_PM_31 (hb_s hb0 sf_0) (fun x1 ex1 lx1 ux1 => ?_)
  replace H := H x1 ex1 lx1 ux1
  exact A_iret d_PM_place_4 (by decide) rfl H
theorem c_PM_place {G : cx_T} {s : Nat} {h : ah_T} {Q : Option av_T → ah_T → Prop} (hb0 : hb s h) (H : B_PM_place_0 G s h Q ) : con G 0 0 0 m_PM_place [av_R (some 0)] h Q := by
  have hS : isS s := hb0.2.1
  refine con_of (L := [some (av_R (some 0))]) (by decide +kernel) (Nat.le_of_ble_eq_true rfl) rfl ?_
  exact b_PM_place_0   hb0 (H )
def B_Voice_pitchesOf_0 (G : cx_T) (s : Nat) (a0 : Nat) (a1 : Int) (h : ah_T) (Q : Option av_T → ah_T → Prop) : Prop :=
 (0 ≤ a1 ∧ a1 < 300) ∧ ∀ x2 : Int, x2 = h.2.1 (a0 + 7) (a1).toNat → -2147483648 ≤ x2 → x2 ≤ 2147483647 → ((-2147483648) ≤ (x2 + 1) ∧ (x2 + 1) ≤ 2147483647) ∧ (0 ≤ (x2 + 1) ∧ (x2 + 1) < 301) ∧ ∀ x6 : Int, x6 = h.2.1 (a0 + 3) ((x2 + 1)).toNat → -2147483648 ≤ x6 → x6 ≤ 2147483647 → (0 ≤ x2 ∧ x2 < 301) ∧ ∀ x9 : Int, x9 = h.2.1 (a0 + 3) (x2).toNat → -2147483648 ≤ x9 → x9 ≤ 2147483647 → ((-2147483648) ≤ (x6 - x9) ∧ (x6 - x9) ≤ 2147483647) ∧ Q (some (av_I (x6 - x9))) h
theorem b_Voice_pitchesOf_0 {G : cx_T} {s : Nat} {a0 : Nat} {a1 : Int} (ha0 : isV a0) {h : ah_T} {Q : Option av_T → ah_T → Prop} (hb0 : hb s h) (H : B_Voice_pitchesOf_0 G s a0 a1 h Q ) : aw G (rm_R 0 0 0) m_Voice_pitchesOf 0 0 0 [some (av_R (some a0)), some (av_I a1), none] [] h Q := by
  unfold B_Voice_pitchesOf_0 at H
  have hS : isS s := hb0.2.1
  refine A_aload_n 0 d_Voice_pitchesOf_0 rfl rfl ?_
  refine A_getAv (z := some (a0 + 7)) T_ok d_Voice_pitchesOf_1 f_Voice_31 (hs_V hb0 ha0) (hr_V_8 hb0 ha0) ?_
  refine A_iload_n 1 d_Voice_pitchesOf_4 rfl rfl ?_
  have g3 := H.1
  replace H := H.2
  refine A_ialoadf d_Voice_pitchesOf_5 (hs_V_8 hb0 ha0) g3.1 g3.2 (fun x2 ex2 lx2 ux2 => ?_)
  replace H := H x2 ex2 lx2 ux2
  refine A_istore_n 2 (L' := [some (av_R (some a0)), some (av_I a1), some (av_I x2)]) d_Voice_pitchesOf_6 rfl (Nat.le_of_ble_eq_true rfl) rfl ?_
  refine A_pc (pc' := 7) rfl ?_
  refine A_aload_n 0 d_Voice_pitchesOf_7 rfl rfl ?_
  refine A_getAv (z := some (a0 + 3)) T_ok d_Voice_pitchesOf_8 f_Voice_18 (hs_V hb0 ha0) (hr_V_3 hb0 ha0) ?_
  refine A_iload_n 2 d_Voice_pitchesOf_11 rfl rfl ?_
  refine A_iconst d_Voice_pitchesOf_12 rfl ?_
  have g5 := H.1
  replace H := H.2
  refine A_iaddv (z := (x2 + 1)) d_Voice_pitchesOf_13 (w32_to (by omega) (by unfold i32; omega)) ?_
  have g7 := H.1
  replace H := H.2
  refine A_ialoadf d_Voice_pitchesOf_14 (hs_V_3 hb0 ha0) g7.1 g7.2 (fun x6 ex6 lx6 ux6 => ?_)
  replace H := H x6 ex6 lx6 ux6
  refine A_pc (pc' := 15) rfl ?_
  refine A_aload_n 0 d_Voice_pitchesOf_15 rfl rfl ?_
  refine A_getAv (z := some (a0 + 3)) T_ok d_Voice_pitchesOf_16 f_Voice_18 (hs_V hb0 ha0) (hr_V_3 hb0 ha0) ?_
  refine A_iload_n 2 d_Voice_pitchesOf_19 rfl rfl ?_
  have g10 := H.1
  replace H := H.2
  refine A_ialoadf d_Voice_pitchesOf_20 (hs_V_3 hb0 ha0) g10.1 g10.2 (fun x9 ex9 lx9 ux9 => ?_)
  replace H := H x9 ex9 lx9 ux9
  have g11 := H.1
  replace H := H.2
  refine A_isubv (z := (x6 - x9)) d_Voice_pitchesOf_21 (w32_to (by omega) (by unfold i32; omega)) ?_
  exact A_iret d_Voice_pitchesOf_22 (by decide) rfl H
theorem c_Voice_pitchesOf {G : cx_T} {s : Nat} {a0 : Nat} {a1 : Int} (ha0 : isV a0) {h : ah_T} {Q : Option av_T → ah_T → Prop} (hb0 : hb s h) (H : i32 a1 → B_Voice_pitchesOf_0 G s a0 a1 h Q ) : con G 0 0 0 m_Voice_pitchesOf [av_R (some a0), av_I a1] h Q := by
  have hS : isS s := hb0.2.1
  refine con_of (L := [some (av_R (some a0)), some (av_I a1), none]) (by decide +kernel) (Nat.le_of_ble_eq_true rfl) rfl ?_
  refine A_locI 1 rfl (fun ra1 => ?_)
  exact b_Voice_pitchesOf_0 ha0  hb0 (H ra1)
def B_Voice_isRest_13 (G : cx_T) (s : Nat) (a0 : Nat) (a1 : Int) (t0 : Int) (h : ah_T) (Q : Option av_T → ah_T → Prop) : Prop :=
 (t0 = 0 ∨ t0 = 1) ∧ Q (some (av_I t0)) h
theorem b_Voice_isRest_13 {G : cx_T} {s : Nat} {a0 : Nat} {a1 : Int} (ha0 : isV a0) {t0 : Int} {h : ah_T} {Q : Option av_T → ah_T → Prop} (hb0 : hb s h) (H : B_Voice_isRest_13 G s a0 a1 t0 h Q ) : aw G (rm_R 1 0 0) m_Voice_isRest 0 0 13 [none, none] [av_I t0] h Q := by
  unfold B_Voice_isRest_13 at H
  have hS : isS s := hb0.2.1
  exact A_zret d_Voice_isRest_13 (by decide) rfl H.1 H.2
def B_Voice_isRest_0 (G : cx_T) (s : Nat) (a0 : Nat) (a1 : Int) (h : ah_T) (Q : Option av_T → ah_T → Prop) : Prop :=
 con G 0 0 0 m_Voice_pitchesOf [av_R (some a0), av_I a1] h (fun r h1 => ∃ z3 : Int, r = some (av_I z3) ∧ hb s h1 ∧ ((z3 = 0 → B_Voice_isRest_13 G s a0 a1 (1) h1 Q ) ∧ (¬ z3 = 0 → B_Voice_isRest_13 G s a0 a1 (0) h1 Q )))
theorem b_Voice_isRest_0 {G : cx_T} {s : Nat} {a0 : Nat} {a1 : Int} (ha0 : isV a0) {h : ah_T} {Q : Option av_T → ah_T → Prop} (hb0 : hb s h) (H : B_Voice_isRest_0 G s a0 a1 h Q ) : aw G (rm_R 1 0 0) m_Voice_isRest 0 0 0 [some (av_R (some a0)), some (av_I a1)] [] h Q := by
  unfold B_Voice_isRest_0 at H
  have hS : isS s := hb0.2.1
  refine A_aload_n 0 d_Voice_isRest_0 rfl rfl ?_
  refine A_iload_n 1 d_Voice_isRest_1 rfl rfl ?_
  refine A_callV1 m_Voice_pitchesOf T_ok d_Voice_isRest_2 l_Voice_80 k_Voice_pitchesOf (hs_V hb0 ha0) rfl (by decide +kernel) (by decide) (Nat.le_of_ble_eq_true rfl) H (fun r h1 hq => ?_)
  clear H
  obtain ⟨z3, rfl, hb2, H⟩ := hq
  refine A_if_ne (tgt := 12) d_Voice_isRest_5 (by decide) (fun c => ?_) (fun c => ?_)
  · replace H := H.2 c
    refine A_iconst d_Voice_isRest_12 rfl ?_
    refine A_pc (pc' := 13) rfl ?_
    refine A_free (L' := [none, none]) trivial ?_
    exact b_Voice_isRest_13 ha0   hb2 H
  · replace H := H.1 c
    refine A_iconst d_Voice_isRest_8 rfl ?_
    refine A_goto (tgt := 13) d_Voice_isRest_9 (by decide) ?_
    refine A_pc (pc' := 13) rfl ?_
    refine A_free (L' := [none, none]) trivial ?_
    exact b_Voice_isRest_13 ha0   hb2 H
theorem c_Voice_isRest {G : cx_T} {s : Nat} {a0 : Nat} {a1 : Int} (ha0 : isV a0) {h : ah_T} {Q : Option av_T → ah_T → Prop} (hb0 : hb s h) (H : i32 a1 → B_Voice_isRest_0 G s a0 a1 h Q ) : con G 1 0 0 m_Voice_isRest [av_R (some a0), av_I a1] h Q := by
  have hS : isS s := hb0.2.1
  refine con_of (L := [some (av_R (some a0)), some (av_I a1)]) (by decide +kernel) (Nat.le_of_ble_eq_true rfl) rfl ?_
  refine A_locI 1 rfl (fun ra1 => ?_)
  exact b_Voice_isRest_0 ha0  hb0 (H ra1)
def B_Voice_keyOf_37 (G : cx_T) (s : Nat) (a0 : Nat) (a1 : Int) (a2 : Int) (t0 : Int) (h : ah_T) (Q : Option av_T → ah_T → Prop) : Prop :=
 Q (some (av_I t0)) h
theorem b_Voice_keyOf_37 {G : cx_T} {s : Nat} {a0 : Nat} {a1 : Int} {a2 : Int} (ha0 : isV a0) {t0 : Int} {h : ah_T} {Q : Option av_T → ah_T → Prop} (hb0 : hb s h) (H : B_Voice_keyOf_37 G s a0 a1 a2 t0 h Q ) : aw G (rm_R 0 0 0) m_Voice_keyOf 0 0 37 [none, none, none, none] [av_I t0] h Q := by
  unfold B_Voice_keyOf_37 at H
  have hS : isS s := hb0.2.1
  exact A_iret d_Voice_keyOf_37 (by decide) rfl H
def B_Voice_keyOf_36 (G : cx_T) (s : Nat) (a0 : Nat) (a1 : Int) (a2 : Int) (h : ah_T) (Q : Option av_T → ah_T → Prop) : Prop :=
 B_Voice_keyOf_37 G s a0 a1 a2 (0) h Q 
theorem b_Voice_keyOf_36 {G : cx_T} {s : Nat} {a0 : Nat} {a1 : Int} {a2 : Int} (ha0 : isV a0) {h : ah_T} {Q : Option av_T → ah_T → Prop} (hb0 : hb s h) (H : B_Voice_keyOf_36 G s a0 a1 a2 h Q ) : aw G (rm_R 0 0 0) m_Voice_keyOf 0 0 36 [none, none, none, none] [] h Q := by
  unfold B_Voice_keyOf_36 at H
  have hS : isS s := hb0.2.1
  refine A_iconst d_Voice_keyOf_36 rfl ?_
  refine A_pc (pc' := 37) rfl ?_
  exact b_Voice_keyOf_37 ha0   hb0 H
def B_Voice_keyOf_0 (G : cx_T) (s : Nat) (a0 : Nat) (a1 : Int) (a2 : Int) (h : ah_T) (Q : Option av_T → ah_T → Prop) : Prop :=
 (0 ≤ a1 ∧ a1 < 300) ∧ ∀ x3 : Int, x3 = h.2.1 (a0 + 7) (a1).toNat → -2147483648 ≤ x3 → x3 ≤ 2147483647 → (0 ≤ x3 ∧ x3 < 301) ∧ ∀ x5 : Int, x5 = h.2.1 (a0 + 3) (x3).toNat → -2147483648 ≤ x5 → x5 ≤ 2147483647 → ((-2147483648) ≤ (x5 + a2) ∧ (x5 + a2) ≤ 2147483647) ∧ (((x5 + a2) < 0 → B_Voice_keyOf_36 G s a0 a1 a2 h Q ) ∧ (¬ (x5 + a2) < 0 → ((300 ≤ (x5 + a2) → B_Voice_keyOf_36 G s a0 a1 a2 h Q ) ∧ (¬ 300 ≤ (x5 + a2) → (0 ≤ (x5 + a2) ∧ (x5 + a2) < 300) ∧ ∀ x10 : Int, x10 = h.2.1 (a0 + 1) ((x5 + a2)).toNat → -2147483648 ≤ x10 → x10 ≤ 2147483647 → B_Voice_keyOf_37 G s a0 a1 a2 (x10) h Q ))))
theorem b_Voice_keyOf_0 {G : cx_T} {s : Nat} {a0 : Nat} {a1 : Int} {a2 : Int} (ha0 : isV a0) {h : ah_T} {Q : Option av_T → ah_T → Prop} (hb0 : hb s h) (H : B_Voice_keyOf_0 G s a0 a1 a2 h Q ) : aw G (rm_R 0 0 0) m_Voice_keyOf 0 0 0 [some (av_R (some a0)), some (av_I a1), some (av_I a2), none] [] h Q := by
  unfold B_Voice_keyOf_0 at H
  have hS : isS s := hb0.2.1
  refine A_aload_n 0 d_Voice_keyOf_0 rfl rfl ?_
  refine A_getAv (z := some (a0 + 3)) T_ok d_Voice_keyOf_1 f_Voice_18 (hs_V hb0 ha0) (hr_V_3 hb0 ha0) ?_
  refine A_aload_n 0 d_Voice_keyOf_4 rfl rfl ?_
  refine A_getAv (z := some (a0 + 7)) T_ok d_Voice_keyOf_5 f_Voice_31 (hs_V hb0 ha0) (hr_V_8 hb0 ha0) ?_
  refine A_iload_n 1 d_Voice_keyOf_8 rfl rfl ?_
  refine A_pc (pc' := 9) rfl ?_
  have g4 := H.1
  replace H := H.2
  refine A_ialoadf d_Voice_keyOf_9 (hs_V_8 hb0 ha0) g4.1 g4.2 (fun x3 ex3 lx3 ux3 => ?_)
  replace H := H x3 ex3 lx3 ux3
  have g6 := H.1
  replace H := H.2
  refine A_ialoadf d_Voice_keyOf_10 (hs_V_3 hb0 ha0) g6.1 g6.2 (fun x5 ex5 lx5 ux5 => ?_)
  replace H := H x5 ex5 lx5 ux5
  refine A_iload_n 2 d_Voice_keyOf_11 rfl rfl ?_
  have g7 := H.1
  replace H := H.2
  refine A_iaddv (z := (x5 + a2)) d_Voice_keyOf_12 (w32_to (by omega) (by unfold i32; omega)) ?_
  refine A_istore_n 3 (L' := [some (av_R (some a0)), some (av_I a1), some (av_I a2), some (av_I (x5 + a2))]) d_Voice_keyOf_13 rfl (Nat.le_of_ble_eq_true rfl) rfl ?_
  refine A_iload_n 3 d_Voice_keyOf_14 rfl rfl ?_
  refine A_pc (pc' := 15) rfl ?_
  refine A_if_lt (tgt := 36) d_Voice_keyOf_15 (by decide) (fun c => ?_) (fun c => ?_)
  · replace H := H.1 c
    refine A_pc (pc' := 36) rfl ?_
    refine A_free (L' := [none, none, none, none]) trivial ?_
    exact b_Voice_keyOf_36 ha0   hb0 H
  · replace H := H.2 c
    refine A_iload_n 3 d_Voice_keyOf_18 rfl rfl ?_
    refine A_aload_n 0 d_Voice_keyOf_19 rfl rfl ?_
    refine A_getAv (z := some (a0 + 1)) T_ok d_Voice_keyOf_20 f_Voice_9 (hs_V hb0 ha0) (hr_V_0 hb0 ha0) ?_
    refine A_alenN d_Voice_keyOf_23 (hs_V_0 hb0 ha0) (by decide) (by decide) ?_
    refine A_icmp_ge (tgt := 36) d_Voice_keyOf_24 (by decide) (fun c => ?_) (fun c => ?_)
    · replace H := H.1 c
      refine A_pc (pc' := 36) rfl ?_
      refine A_free (L' := [none, none, none, none]) trivial ?_
      exact b_Voice_keyOf_36 ha0   hb0 H
    · replace H := H.2 c
      refine A_aload_n 0 d_Voice_keyOf_27 rfl rfl ?_
      refine A_getAv (z := some (a0 + 1)) T_ok d_Voice_keyOf_28 f_Voice_9 (hs_V hb0 ha0) (hr_V_0 hb0 ha0) ?_
      refine A_iload_n 3 d_Voice_keyOf_31 rfl rfl ?_
      have g11 := H.1
      replace H := H.2
      refine A_ialoadf d_Voice_keyOf_32 (hs_V_0 hb0 ha0) g11.1 g11.2 (fun x10 ex10 lx10 ux10 => ?_)
      replace H := H x10 ex10 lx10 ux10
      refine A_goto (tgt := 37) d_Voice_keyOf_33 (by decide) ?_
      refine A_pc (pc' := 37) rfl ?_
      refine A_free (L' := [none, none, none, none]) trivial ?_
      exact b_Voice_keyOf_37 ha0   hb0 H
theorem c_Voice_keyOf {G : cx_T} {s : Nat} {a0 : Nat} {a1 : Int} {a2 : Int} (ha0 : isV a0) {h : ah_T} {Q : Option av_T → ah_T → Prop} (hb0 : hb s h) (H : i32 a1 → i32 a2 → B_Voice_keyOf_0 G s a0 a1 a2 h Q ) : con G 0 0 0 m_Voice_keyOf [av_R (some a0), av_I a1, av_I a2] h Q := by
  have hS : isS s := hb0.2.1
  refine con_of (L := [some (av_R (some a0)), some (av_I a1), some (av_I a2), none]) (by decide +kernel) (Nat.le_of_ble_eq_true rfl) rfl ?_
  refine A_locI 1 rfl (fun ra1 => ?_)
  refine A_locI 2 rfl (fun ra2 => ?_)
  exact b_Voice_keyOf_0 ha0  hb0 (H ra1 ra2)
def B_Voice_stepOf_37 (G : cx_T) (s : Nat) (a0 : Nat) (a1 : Int) (a2 : Int) (t0 : Int) (h : ah_T) (Q : Option av_T → ah_T → Prop) : Prop :=
 Q (some (av_I t0)) h
theorem b_Voice_stepOf_37 {G : cx_T} {s : Nat} {a0 : Nat} {a1 : Int} {a2 : Int} (ha0 : isV a0) {t0 : Int} {h : ah_T} {Q : Option av_T → ah_T → Prop} (hb0 : hb s h) (H : B_Voice_stepOf_37 G s a0 a1 a2 t0 h Q ) : aw G (rm_R 0 0 0) m_Voice_stepOf 0 0 37 [none, none, none, none] [av_I t0] h Q := by
  unfold B_Voice_stepOf_37 at H
  have hS : isS s := hb0.2.1
  exact A_iret d_Voice_stepOf_37 (by decide) rfl H
def B_Voice_stepOf_36 (G : cx_T) (s : Nat) (a0 : Nat) (a1 : Int) (a2 : Int) (h : ah_T) (Q : Option av_T → ah_T → Prop) : Prop :=
 B_Voice_stepOf_37 G s a0 a1 a2 (0) h Q 
theorem b_Voice_stepOf_36 {G : cx_T} {s : Nat} {a0 : Nat} {a1 : Int} {a2 : Int} (ha0 : isV a0) {h : ah_T} {Q : Option av_T → ah_T → Prop} (hb0 : hb s h) (H : B_Voice_stepOf_36 G s a0 a1 a2 h Q ) : aw G (rm_R 0 0 0) m_Voice_stepOf 0 0 36 [none, none, none, none] [] h Q := by
  unfold B_Voice_stepOf_36 at H
  have hS : isS s := hb0.2.1
  refine A_iconst d_Voice_stepOf_36 rfl ?_
  refine A_pc (pc' := 37) rfl ?_
  exact b_Voice_stepOf_37 ha0   hb0 H
def B_Voice_stepOf_0 (G : cx_T) (s : Nat) (a0 : Nat) (a1 : Int) (a2 : Int) (h : ah_T) (Q : Option av_T → ah_T → Prop) : Prop :=
 (0 ≤ a1 ∧ a1 < 300) ∧ ∀ x3 : Int, x3 = h.2.1 (a0 + 7) (a1).toNat → -2147483648 ≤ x3 → x3 ≤ 2147483647 → (0 ≤ x3 ∧ x3 < 301) ∧ ∀ x5 : Int, x5 = h.2.1 (a0 + 3) (x3).toNat → -2147483648 ≤ x5 → x5 ≤ 2147483647 → ((-2147483648) ≤ (x5 + a2) ∧ (x5 + a2) ≤ 2147483647) ∧ (((x5 + a2) < 0 → B_Voice_stepOf_36 G s a0 a1 a2 h Q ) ∧ (¬ (x5 + a2) < 0 → ((300 ≤ (x5 + a2) → B_Voice_stepOf_36 G s a0 a1 a2 h Q ) ∧ (¬ 300 ≤ (x5 + a2) → (0 ≤ (x5 + a2) ∧ (x5 + a2) < 300) ∧ ∀ x10 : Int, x10 = h.2.1 (a0 + 2) ((x5 + a2)).toNat → -2147483648 ≤ x10 → x10 ≤ 2147483647 → B_Voice_stepOf_37 G s a0 a1 a2 (x10) h Q ))))
theorem b_Voice_stepOf_0 {G : cx_T} {s : Nat} {a0 : Nat} {a1 : Int} {a2 : Int} (ha0 : isV a0) {h : ah_T} {Q : Option av_T → ah_T → Prop} (hb0 : hb s h) (H : B_Voice_stepOf_0 G s a0 a1 a2 h Q ) : aw G (rm_R 0 0 0) m_Voice_stepOf 0 0 0 [some (av_R (some a0)), some (av_I a1), some (av_I a2), none] [] h Q := by
  unfold B_Voice_stepOf_0 at H
  have hS : isS s := hb0.2.1
  refine A_aload_n 0 d_Voice_stepOf_0 rfl rfl ?_
  refine A_getAv (z := some (a0 + 3)) T_ok d_Voice_stepOf_1 f_Voice_18 (hs_V hb0 ha0) (hr_V_3 hb0 ha0) ?_
  refine A_aload_n 0 d_Voice_stepOf_4 rfl rfl ?_
  refine A_getAv (z := some (a0 + 7)) T_ok d_Voice_stepOf_5 f_Voice_31 (hs_V hb0 ha0) (hr_V_8 hb0 ha0) ?_
  refine A_iload_n 1 d_Voice_stepOf_8 rfl rfl ?_
  refine A_pc (pc' := 9) rfl ?_
  have g4 := H.1
  replace H := H.2
  refine A_ialoadf d_Voice_stepOf_9 (hs_V_8 hb0 ha0) g4.1 g4.2 (fun x3 ex3 lx3 ux3 => ?_)
  replace H := H x3 ex3 lx3 ux3
  have g6 := H.1
  replace H := H.2
  refine A_ialoadf d_Voice_stepOf_10 (hs_V_3 hb0 ha0) g6.1 g6.2 (fun x5 ex5 lx5 ux5 => ?_)
  replace H := H x5 ex5 lx5 ux5
  refine A_iload_n 2 d_Voice_stepOf_11 rfl rfl ?_
  have g7 := H.1
  replace H := H.2
  refine A_iaddv (z := (x5 + a2)) d_Voice_stepOf_12 (w32_to (by omega) (by unfold i32; omega)) ?_
  refine A_istore_n 3 (L' := [some (av_R (some a0)), some (av_I a1), some (av_I a2), some (av_I (x5 + a2))]) d_Voice_stepOf_13 rfl (Nat.le_of_ble_eq_true rfl) rfl ?_
  refine A_iload_n 3 d_Voice_stepOf_14 rfl rfl ?_
  refine A_pc (pc' := 15) rfl ?_
  refine A_if_lt (tgt := 36) d_Voice_stepOf_15 (by decide) (fun c => ?_) (fun c => ?_)
  · replace H := H.1 c
    refine A_pc (pc' := 36) rfl ?_
    refine A_free (L' := [none, none, none, none]) trivial ?_
    exact b_Voice_stepOf_36 ha0   hb0 H
  · replace H := H.2 c
    refine A_iload_n 3 d_Voice_stepOf_18 rfl rfl ?_
    refine A_aload_n 0 d_Voice_stepOf_19 rfl rfl ?_
    refine A_getAv (z := some (a0 + 2)) T_ok d_Voice_stepOf_20 f_Voice_15 (hs_V hb0 ha0) (hr_V_1 hb0 ha0) ?_
    refine A_alenN d_Voice_stepOf_23 (hs_V_1 hb0 ha0) (by decide) (by decide) ?_
    refine A_icmp_ge (tgt := 36) d_Voice_stepOf_24 (by decide) (fun c => ?_) (fun c => ?_)
    · replace H := H.1 c
      refine A_pc (pc' := 36) rfl ?_
      refine A_free (L' := [none, none, none, none]) trivial ?_
      exact b_Voice_stepOf_36 ha0   hb0 H
    · replace H := H.2 c
      refine A_aload_n 0 d_Voice_stepOf_27 rfl rfl ?_
      refine A_getAv (z := some (a0 + 2)) T_ok d_Voice_stepOf_28 f_Voice_15 (hs_V hb0 ha0) (hr_V_1 hb0 ha0) ?_
      refine A_iload_n 3 d_Voice_stepOf_31 rfl rfl ?_
      have g11 := H.1
      replace H := H.2
      refine A_ialoadf d_Voice_stepOf_32 (hs_V_1 hb0 ha0) g11.1 g11.2 (fun x10 ex10 lx10 ux10 => ?_)
      replace H := H x10 ex10 lx10 ux10
      refine A_goto (tgt := 37) d_Voice_stepOf_33 (by decide) ?_
      refine A_pc (pc' := 37) rfl ?_
      refine A_free (L' := [none, none, none, none]) trivial ?_
      exact b_Voice_stepOf_37 ha0   hb0 H
theorem c_Voice_stepOf {G : cx_T} {s : Nat} {a0 : Nat} {a1 : Int} {a2 : Int} (ha0 : isV a0) {h : ah_T} {Q : Option av_T → ah_T → Prop} (hb0 : hb s h) (H : i32 a1 → i32 a2 → B_Voice_stepOf_0 G s a0 a1 a2 h Q ) : con G 0 0 0 m_Voice_stepOf [av_R (some a0), av_I a1, av_I a2] h Q := by
  have hS : isS s := hb0.2.1
  refine con_of (L := [some (av_R (some a0)), some (av_I a1), some (av_I a2), none]) (by decide +kernel) (Nat.le_of_ble_eq_true rfl) rfl ?_
  refine A_locI 1 rfl (fun ra1 => ?_)
  refine A_locI 2 rfl (fun ra2 => ?_)
  exact b_Voice_stepOf_0 ha0  hb0 (H ra1 ra2)
def B_Voice_numberOf_0 (G : cx_T) (s : Nat) (a0 : Nat) (a1 : Int) (h : ah_T) (Q : Option av_T → ah_T → Prop) : Prop :=
 (0 ≤ a1 ∧ a1 < 300) ∧ ∀ x3 : Int, x3 = h.2.1 (a0 + 7) (a1).toNat → -2147483648 ≤ x3 → x3 ≤ 2147483647 → (0 ≤ x3 ∧ x3 < 300) ∧ ∀ x5 : Int, x5 = h.2.1 (a0 + 4) (x3).toNat → -2147483648 ≤ x5 → x5 ≤ 2147483647 → Q (some (av_I x5)) h
theorem b_Voice_numberOf_0 {G : cx_T} {s : Nat} {a0 : Nat} {a1 : Int} (ha0 : isV a0) {h : ah_T} {Q : Option av_T → ah_T → Prop} (hb0 : hb s h) (H : B_Voice_numberOf_0 G s a0 a1 h Q ) : aw G (rm_R 0 0 0) m_Voice_numberOf 0 0 0 [some (av_R (some a0)), some (av_I a1)] [] h Q := by
  unfold B_Voice_numberOf_0 at H
  have hS : isS s := hb0.2.1
  refine A_aload_n 0 d_Voice_numberOf_0 rfl rfl ?_
  refine A_getAv (z := some (a0 + 4)) T_ok d_Voice_numberOf_1 f_Voice_21 (hs_V hb0 ha0) (hr_V_4 hb0 ha0) ?_
  refine A_aload_n 0 d_Voice_numberOf_4 rfl rfl ?_
  refine A_getAv (z := some (a0 + 7)) T_ok d_Voice_numberOf_5 f_Voice_31 (hs_V hb0 ha0) (hr_V_8 hb0 ha0) ?_
  refine A_iload_n 1 d_Voice_numberOf_8 rfl rfl ?_
  refine A_pc (pc' := 9) rfl ?_
  have g4 := H.1
  replace H := H.2
  refine A_ialoadf d_Voice_numberOf_9 (hs_V_8 hb0 ha0) g4.1 g4.2 (fun x3 ex3 lx3 ux3 => ?_)
  replace H := H x3 ex3 lx3 ux3
  have g6 := H.1
  replace H := H.2
  refine A_ialoadf d_Voice_numberOf_10 (hs_V_4 hb0 ha0) g6.1 g6.2 (fun x5 ex5 lx5 ux5 => ?_)
  replace H := H x5 ex5 lx5 ux5
  exact A_iret d_Voice_numberOf_11 (by decide) rfl H
theorem c_Voice_numberOf {G : cx_T} {s : Nat} {a0 : Nat} {a1 : Int} (ha0 : isV a0) {h : ah_T} {Q : Option av_T → ah_T → Prop} (hb0 : hb s h) (H : i32 a1 → B_Voice_numberOf_0 G s a0 a1 h Q ) : con G 0 0 0 m_Voice_numberOf [av_R (some a0), av_I a1] h Q := by
  have hS : isS s := hb0.2.1
  refine con_of (L := [some (av_R (some a0)), some (av_I a1)]) (by decide +kernel) (Nat.le_of_ble_eq_true rfl) rfl ?_
  refine A_locI 1 rfl (fun ra1 => ?_)
  exact b_Voice_numberOf_0 ha0  hb0 (H ra1)
def B_Voice_isTied_0 (G : cx_T) (s : Nat) (a0 : Nat) (a1 : Int) (h : ah_T) (Q : Option av_T → ah_T → Prop) : Prop :=
 (0 ≤ a1 ∧ a1 < 300) ∧ ∀ x3 : Int, x3 = h.2.1 (a0 + 7) (a1).toNat → -2147483648 ≤ x3 → x3 ≤ 2147483647 → (0 ≤ x3 ∧ x3 < 300) ∧ ∀ x5 : Int, x5 = h.2.1 (a0 + 6) (x3).toNat → (x5 = 0 ∨ x5 = 1) → (x5 = 0 ∨ x5 = 1) ∧ Q (some (av_I x5)) h
theorem b_Voice_isTied_0 {G : cx_T} {s : Nat} {a0 : Nat} {a1 : Int} (ha0 : isV a0) {h : ah_T} {Q : Option av_T → ah_T → Prop} (hb0 : hb s h) (H : B_Voice_isTied_0 G s a0 a1 h Q ) : aw G (rm_R 0 0 0) m_Voice_isTied 0 0 0 [some (av_R (some a0)), some (av_I a1)] [] h Q := by
  unfold B_Voice_isTied_0 at H
  have hS : isS s := hb0.2.1
  refine A_aload_n 0 d_Voice_isTied_0 rfl rfl ?_
  refine A_getAv (z := some (a0 + 6)) T_ok d_Voice_isTied_1 f_Voice_27 (hs_V hb0 ha0) (hr_V_6 hb0 ha0) ?_
  refine A_aload_n 0 d_Voice_isTied_4 rfl rfl ?_
  refine A_getAv (z := some (a0 + 7)) T_ok d_Voice_isTied_5 f_Voice_31 (hs_V hb0 ha0) (hr_V_8 hb0 ha0) ?_
  refine A_iload_n 1 d_Voice_isTied_8 rfl rfl ?_
  refine A_pc (pc' := 9) rfl ?_
  have g4 := H.1
  replace H := H.2
  refine A_ialoadf d_Voice_isTied_9 (hs_V_8 hb0 ha0) g4.1 g4.2 (fun x3 ex3 lx3 ux3 => ?_)
  replace H := H x3 ex3 lx3 ux3
  have g6 := H.1
  replace H := H.2
  refine A_zaloadn d_Voice_isTied_10 (hs_V_6 hb0 ha0) g6.1 g6.2 (fun x5 ex5 bx5 => ?_)
  replace H := H x5 ex5 bx5
  exact A_zret d_Voice_isTied_11 (by decide) rfl H.1 H.2
theorem c_Voice_isTied {G : cx_T} {s : Nat} {a0 : Nat} {a1 : Int} (ha0 : isV a0) {h : ah_T} {Q : Option av_T → ah_T → Prop} (hb0 : hb s h) (H : i32 a1 → B_Voice_isTied_0 G s a0 a1 h Q ) : con G 0 0 0 m_Voice_isTied [av_R (some a0), av_I a1] h Q := by
  have hS : isS s := hb0.2.1
  refine con_of (L := [some (av_R (some a0)), some (av_I a1)]) (by decide +kernel) (Nat.le_of_ble_eq_true rfl) rfl ?_
  refine A_locI 1 rfl (fun ra1 => ?_)
  exact b_Voice_isTied_0 ha0  hb0 (H ra1)
def B_Voice_timeOf_0 (G : cx_T) (s : Nat) (a0 : Nat) (a1 : Int) (a2 : Int) (h : ah_T) (Q : Option av_T → ah_T → Prop) : Prop :=
 ((a2 = 0 → (0 ≤ a1 ∧ a1 < 301) ∧ ∀ x2 : Int, x2 = h.2.2.1 (a0 + 9) (a1).toNat → -9223372036854775808 ≤ x2 → x2 ≤ 9223372036854775807 → Q (some (av_L x2)) h) ∧ (a2 = 1 → (0 ≤ a1 ∧ a1 < 301) ∧ ∀ x5 : Int, x5 = h.2.2.1 (a0 + 10) (a1).toNat → -9223372036854775808 ≤ x5 → x5 ≤ 9223372036854775807 → Q (some (av_L x5)) h) ∧ (a2 = 2 → (0 ≤ a1 ∧ a1 < 300) ∧ ∀ x8 : Int, x8 = h.2.2.1 (a0 + 11) (a1).toNat → -9223372036854775808 ≤ x8 → x8 ≤ 9223372036854775807 → Q (some (av_L x8)) h) ∧ ((a2 < 0 ∨ 2 < a2) → (0 ≤ a1 ∧ a1 < 300) ∧ ∀ x11 : Int, x11 = h.2.2.1 (a0 + 12) (a1).toNat → -9223372036854775808 ≤ x11 → x11 ≤ 9223372036854775807 → Q (some (av_L x11)) h))
theorem b_Voice_timeOf_0 {G : cx_T} {s : Nat} {a0 : Nat} {a1 : Int} {a2 : Int} (ha0 : isV a0) {h : ah_T} {Q : Option av_T → ah_T → Prop} (hb0 : hb s h) (H : B_Voice_timeOf_0 G s a0 a1 a2 h Q ) : aw G (rm_R 0 0 0) m_Voice_timeOf 0 0 0 [some (av_R (some a0)), some (av_I a1), some (av_I a2)] [] h Q := by
  unfold B_Voice_timeOf_0 at H
  have hS : isS s := hb0.2.1
  refine A_iload_n 2 d_Voice_timeOf_0 rfl rfl ?_
  rcases (by omega : a2 = 0 ∨ a2 = 1 ∨ a2 = 2 ∨ (a2 < 0 ∨ 2 < a2)) with c | c | c | c
  · replace H := H.1 c
    refine A_tabIn (tgt := 28) d_Voice_timeOf_1 (by omega) (by omega) (by rw [c]; rfl) (by decide) ?_
    refine A_aload_n 0 d_Voice_timeOf_28 rfl rfl ?_
    refine A_getAv (z := some (a0 + 9)) T_ok d_Voice_timeOf_29 f_Voice_37 (hs_V hb0 ha0) (hr_V_10 hb0 ha0) ?_
    refine A_iload_n 1 d_Voice_timeOf_32 rfl rfl ?_
    have g3 := H.1
    replace H := H.2
    refine A_laloadf d_Voice_timeOf_33 (hs_V_10 hb0 ha0) g3.1 g3.2 (fun x2 ex2 lx2 ux2 => ?_)
    replace H := H x2 ex2 lx2 ux2
    exact A_lret d_Voice_timeOf_34 (by decide) rfl H
  · replace H := H.2.1 c
    refine A_tabIn (tgt := 35) d_Voice_timeOf_1 (by omega) (by omega) (by rw [c]; rfl) (by decide) ?_
    refine A_aload_n 0 d_Voice_timeOf_35 rfl rfl ?_
    refine A_getAv (z := some (a0 + 10)) T_ok d_Voice_timeOf_36 f_Voice_41 (hs_V hb0 ha0) (hr_V_11 hb0 ha0) ?_
    refine A_iload_n 1 d_Voice_timeOf_39 rfl rfl ?_
    have g6 := H.1
    replace H := H.2
    refine A_laloadf d_Voice_timeOf_40 (hs_V_11 hb0 ha0) g6.1 g6.2 (fun x5 ex5 lx5 ux5 => ?_)
    replace H := H x5 ex5 lx5 ux5
    exact A_lret d_Voice_timeOf_41 (by decide) rfl H
  · replace H := H.2.2.1 c
    refine A_tabIn (tgt := 42) d_Voice_timeOf_1 (by omega) (by omega) (by rw [c]; rfl) (by decide) ?_
    refine A_aload_n 0 d_Voice_timeOf_42 rfl rfl ?_
    refine A_getAv (z := some (a0 + 11)) T_ok d_Voice_timeOf_43 f_Voice_44 (hs_V hb0 ha0) (hr_V_12 hb0 ha0) ?_
    refine A_iload_n 1 d_Voice_timeOf_46 rfl rfl ?_
    have g9 := H.1
    replace H := H.2
    refine A_laloadf d_Voice_timeOf_47 (hs_V_12 hb0 ha0) g9.1 g9.2 (fun x8 ex8 lx8 ux8 => ?_)
    replace H := H x8 ex8 lx8 ux8
    exact A_lret d_Voice_timeOf_48 (by decide) rfl H
  · replace H := H.2.2.2 c
    refine A_tabOut (tgt := 49) d_Voice_timeOf_1 (by omega) (by decide) ?_
    refine A_aload_n 0 d_Voice_timeOf_49 rfl rfl ?_
    refine A_getAv (z := some (a0 + 12)) T_ok d_Voice_timeOf_50 f_Voice_47 (hs_V hb0 ha0) (hr_V_13 hb0 ha0) ?_
    refine A_iload_n 1 d_Voice_timeOf_53 rfl rfl ?_
    have g12 := H.1
    replace H := H.2
    refine A_laloadf d_Voice_timeOf_54 (hs_V_13 hb0 ha0) g12.1 g12.2 (fun x11 ex11 lx11 ux11 => ?_)
    replace H := H x11 ex11 lx11 ux11
    exact A_lret d_Voice_timeOf_55 (by decide) rfl H
theorem c_Voice_timeOf {G : cx_T} {s : Nat} {a0 : Nat} {a1 : Int} {a2 : Int} (ha0 : isV a0) {h : ah_T} {Q : Option av_T → ah_T → Prop} (hb0 : hb s h) (H : i32 a1 → i32 a2 → B_Voice_timeOf_0 G s a0 a1 a2 h Q ) : con G 0 0 0 m_Voice_timeOf [av_R (some a0), av_I a1, av_I a2] h Q := by
  have hS : isS s := hb0.2.1
  refine con_of (L := [some (av_R (some a0)), some (av_I a1), some (av_I a2)]) (by decide +kernel) (Nat.le_of_ble_eq_true rfl) rfl ?_
  refine A_locI 1 rfl (fun ra1 => ?_)
  refine A_locI 2 rfl (fun ra2 => ?_)
  exact b_Voice_timeOf_0 ha0  hb0 (H ra1 ra2)
def B_Voice_writingOf_51 (G : cx_T) (s : Nat) (a0 : Nat) (a1 : Int) (a2 : Int) (t0 : Int) (h : ah_T) (Q : Option av_T → ah_T → Prop) : Prop :=
 Q (some (av_I t0)) h
theorem b_Voice_writingOf_51 {G : cx_T} {s : Nat} {a0 : Nat} {a1 : Int} {a2 : Int} (ha0 : isV a0) {t0 : Int} {h : ah_T} {Q : Option av_T → ah_T → Prop} (hb0 : hb s h) (H : B_Voice_writingOf_51 G s a0 a1 a2 t0 h Q ) : aw G (rm_R 1 0 0) m_Voice_writingOf 0 0 51 [none, none, none] [av_I t0] h Q := by
  unfold B_Voice_writingOf_51 at H
  have hS : isS s := hb0.2.1
  exact A_iret d_Voice_writingOf_51 (by decide) rfl H
def B_Voice_writingOf_0 (G : cx_T) (s : Nat) (a0 : Nat) (a1 : Int) (a2 : Int) (h : ah_T) (Q : Option av_T → ah_T → Prop) : Prop :=
 ((a2 = 4 → con G 0 0 0 m_Voice_pitchesOf [av_R (some a0), av_I a1] h (fun r h1 => ∃ z3 : Int, r = some (av_I z3) ∧ hb s h1 ∧ Q (some (av_I z3)) h1)) ∧ (a2 = 5 → con G 0 0 0 m_Voice_isTied [av_R (some a0), av_I a1] h (fun r h4 => ∃ z6 : Int, r = some (av_I z6) ∧ hb s h4 ∧ ((z6 = 0 → B_Voice_writingOf_51 G s a0 a1 a2 (0) h4 Q ) ∧ (¬ z6 = 0 → B_Voice_writingOf_51 G s a0 a1 a2 (1) h4 Q )))) ∧ (a2 = 6 → (0 ≤ a1 ∧ a1 < 300) ∧ ∀ x8 : Int, x8 = h.2.1 (a0 + 8) (a1).toNat → -2147483648 ≤ x8 → x8 ≤ 2147483647 → Q (some (av_I x8)) h) ∧ (a2 = 7 → con G 0 0 0 m_Voice_numberOf [av_R (some a0), av_I a1] h (fun r h10 => ∃ z12 : Int, r = some (av_I z12) ∧ hb s h10 ∧ Q (some (av_I z12)) h10)) ∧ ((a2 < 4 ∨ 7 < a2) → (0 ≤ a1 ∧ a1 < 300) ∧ ∀ x15 : Int, x15 = h.2.1 (a0 + 7) (a1).toNat → -2147483648 ≤ x15 → x15 ≤ 2147483647 → (0 ≤ x15 ∧ x15 < 300) ∧ ∀ x17 : Int, x17 = h.2.1 (a0 + 5) (x15).toNat → -2147483648 ≤ x17 → x17 ≤ 2147483647 → Q (some (av_I x17)) h))
theorem b_Voice_writingOf_0 {G : cx_T} {s : Nat} {a0 : Nat} {a1 : Int} {a2 : Int} (ha0 : isV a0) {h : ah_T} {Q : Option av_T → ah_T → Prop} (hb0 : hb s h) (H : B_Voice_writingOf_0 G s a0 a1 a2 h Q ) : aw G (rm_R 1 0 0) m_Voice_writingOf 0 0 0 [some (av_R (some a0)), some (av_I a1), some (av_I a2)] [] h Q := by
  unfold B_Voice_writingOf_0 at H
  have hS : isS s := hb0.2.1
  refine A_iload_n 2 d_Voice_writingOf_0 rfl rfl ?_
  rcases (by omega : a2 = 4 ∨ a2 = 5 ∨ a2 = 6 ∨ a2 = 7 ∨ (a2 < 4 ∨ 7 < a2)) with c | c | c | c | c
  · replace H := H.1 c
    refine A_tabIn (tgt := 32) d_Voice_writingOf_1 (by omega) (by omega) (by rw [c]; rfl) (by decide) ?_
    refine A_aload_n 0 d_Voice_writingOf_32 rfl rfl ?_
    refine A_iload_n 1 d_Voice_writingOf_33 rfl rfl ?_
    refine A_callV1 m_Voice_pitchesOf T_ok d_Voice_writingOf_34 l_Voice_80 k_Voice_pitchesOf (hs_V hb0 ha0) rfl (by decide +kernel) (by decide) (Nat.le_of_ble_eq_true rfl) H (fun r h1 hq => ?_)
    clear H
    obtain ⟨z3, rfl, hb2, H⟩ := hq
    exact A_iret d_Voice_writingOf_37 (by decide) rfl H
  · replace H := H.2.1 c
    refine A_tabIn (tgt := 38) d_Voice_writingOf_1 (by omega) (by omega) (by rw [c]; rfl) (by decide) ?_
    refine A_aload_n 0 d_Voice_writingOf_38 rfl rfl ?_
    refine A_iload_n 1 d_Voice_writingOf_39 rfl rfl ?_
    refine A_callV1 m_Voice_isTied T_ok d_Voice_writingOf_40 l_Voice_84 k_Voice_isTied (hs_V hb0 ha0) rfl (by decide +kernel) (by decide) (Nat.le_of_ble_eq_true rfl) H (fun r h4 hq => ?_)
    clear H
    obtain ⟨z6, rfl, hb5, H⟩ := hq
    refine A_if_eq (tgt := 50) d_Voice_writingOf_43 (by decide) (fun c => ?_) (fun c => ?_)
    · replace H := H.1 c
      refine A_iconst d_Voice_writingOf_50 rfl ?_
      refine A_pc (pc' := 51) rfl ?_
      refine A_free (L' := [none, none, none]) trivial ?_
      exact b_Voice_writingOf_51 ha0   hb5 H
    · replace H := H.2 c
      refine A_iconst d_Voice_writingOf_46 rfl ?_
      refine A_goto (tgt := 51) d_Voice_writingOf_47 (by decide) ?_
      refine A_pc (pc' := 51) rfl ?_
      refine A_free (L' := [none, none, none]) trivial ?_
      exact b_Voice_writingOf_51 ha0   hb5 H
  · replace H := H.2.2.1 c
    refine A_tabIn (tgt := 52) d_Voice_writingOf_1 (by omega) (by omega) (by rw [c]; rfl) (by decide) ?_
    refine A_aload_n 0 d_Voice_writingOf_52 rfl rfl ?_
    refine A_getAv (z := some (a0 + 8)) T_ok d_Voice_writingOf_53 f_Voice_34 (hs_V hb0 ha0) (hr_V_9 hb0 ha0) ?_
    refine A_iload_n 1 d_Voice_writingOf_56 rfl rfl ?_
    have g9 := H.1
    replace H := H.2
    refine A_ialoadf d_Voice_writingOf_57 (hs_V_9 hb0 ha0) g9.1 g9.2 (fun x8 ex8 lx8 ux8 => ?_)
    replace H := H x8 ex8 lx8 ux8
    exact A_iret d_Voice_writingOf_58 (by decide) rfl H
  · replace H := H.2.2.2.1 c
    refine A_tabIn (tgt := 59) d_Voice_writingOf_1 (by omega) (by omega) (by rw [c]; rfl) (by decide) ?_
    refine A_aload_n 0 d_Voice_writingOf_59 rfl rfl ?_
    refine A_iload_n 1 d_Voice_writingOf_60 rfl rfl ?_
    refine A_callV1 m_Voice_numberOf T_ok d_Voice_writingOf_61 l_Voice_88 k_Voice_numberOf (hs_V hb0 ha0) rfl (by decide +kernel) (by decide) (Nat.le_of_ble_eq_true rfl) H (fun r h10 hq => ?_)
    clear H
    obtain ⟨z12, rfl, hb11, H⟩ := hq
    exact A_iret d_Voice_writingOf_64 (by decide) rfl H
  · replace H := H.2.2.2.2 c
    refine A_tabOut (tgt := 65) d_Voice_writingOf_1 (by omega) (by decide) ?_
    refine A_aload_n 0 d_Voice_writingOf_65 rfl rfl ?_
    refine A_getAv (z := some (a0 + 5)) T_ok d_Voice_writingOf_66 f_Voice_24 (hs_V hb0 ha0) (hr_V_5 hb0 ha0) ?_
    refine A_aload_n 0 d_Voice_writingOf_69 rfl rfl ?_
    refine A_getAv (z := some (a0 + 7)) T_ok d_Voice_writingOf_70 f_Voice_31 (hs_V hb0 ha0) (hr_V_8 hb0 ha0) ?_
    refine A_iload_n 1 d_Voice_writingOf_73 rfl rfl ?_
    refine A_pc (pc' := 74) rfl ?_
    have g16 := H.1
    replace H := H.2
    refine A_ialoadf d_Voice_writingOf_74 (hs_V_8 hb0 ha0) g16.1 g16.2 (fun x15 ex15 lx15 ux15 => ?_)
    replace H := H x15 ex15 lx15 ux15
    have g18 := H.1
    replace H := H.2
    refine A_ialoadf d_Voice_writingOf_75 (hs_V_5 hb0 ha0) g18.1 g18.2 (fun x17 ex17 lx17 ux17 => ?_)
    replace H := H x17 ex17 lx17 ux17
    exact A_iret d_Voice_writingOf_76 (by decide) rfl H
theorem c_Voice_writingOf {G : cx_T} {s : Nat} {a0 : Nat} {a1 : Int} {a2 : Int} (ha0 : isV a0) {h : ah_T} {Q : Option av_T → ah_T → Prop} (hb0 : hb s h) (H : i32 a1 → i32 a2 → B_Voice_writingOf_0 G s a0 a1 a2 h Q ) : con G 1 0 0 m_Voice_writingOf [av_R (some a0), av_I a1, av_I a2] h Q := by
  have hS : isS s := hb0.2.1
  refine con_of (L := [some (av_R (some a0)), some (av_I a1), some (av_I a2)]) (by decide +kernel) (Nat.le_of_ble_eq_true rfl) rfl ?_
  refine A_locI 1 rfl (fun ra1 => ?_)
  refine A_locI 2 rfl (fun ra2 => ?_)
  exact b_Voice_writingOf_0 ha0  hb0 (H ra1 ra2)
def B_PM_told_0 (G : cx_T) (s : Nat) (a1 : Int) (h : ah_T) (Q : Option av_T → ah_T → Prop) : Prop :=
 ((a1 = 0 → ∀ x2 : Int, x2 = h.2.1 (97 - s) 1 → -2147483648 ≤ x2 → x2 ≤ 2147483647 → Q (some (av_I x2)) h) ∧ (a1 = 1 → ∀ x4 : Int, x4 = h.2.1 (97 - s) 6 → -2147483648 ≤ x4 → x4 ≤ 2147483647 → Q (some (av_I x4)) h) ∧ (a1 = 2 → ∀ x6 : Int, x6 = h.2.1 (97 - s) 10 → -2147483648 ≤ x6 → x6 ≤ 2147483647 → Q (some (av_I x6)) h) ∧ (a1 = 3 → ∀ x8 : Int, x8 = h.2.1 (97 - s) 12 → -2147483648 ≤ x8 → x8 ≤ 2147483647 → Q (some (av_I x8)) h) ∧ (a1 = 4 → con G 1 0 0 m_Score_mostBars [av_R (some (97 - s))] h (fun r h10 => ∃ z12 : Int, r = some (av_I z12) ∧ hb s h10 ∧ Q (some (av_I z12)) h10)) ∧ (a1 = 5 → ∀ x14 : Int, x14 = h.2.1 (97 - s) 2 → -2147483648 ≤ x14 → x14 ≤ 2147483647 → Q (some (av_I x14)) h) ∧ (a1 = 6 → ∀ x16 : Int, x16 = h.2.1 (97 - s) 3 → -2147483648 ≤ x16 → x16 ≤ 2147483647 → Q (some (av_I x16)) h) ∧ ((a1 < 0 ∨ 6 < a1) → Q (some (av_I (-1))) h))
theorem b_PM_told_0 {G : cx_T} {s : Nat} {a1 : Int} {h : ah_T} {Q : Option av_T → ah_T → Prop} (hb0 : hb s h) (H : B_PM_told_0 G s a1 h Q ) : aw G (rm_R 2 0 0) m_PM_told 0 0 0 [some (av_R (some 0)), some (av_I a1)] [] h Q := by
  unfold B_PM_told_0 at H
  have hS : isS s := hb0.2.1
  refine A_iload_n 1 d_PM_told_0 rfl rfl ?_
  rcases (by omega : a1 = 0 ∨ a1 = 1 ∨ a1 = 2 ∨ a1 = 3 ∨ a1 = 4 ∨ a1 = 5 ∨ a1 = 6 ∨ (a1 < 0 ∨ 6 < a1)) with c | c | c | c | c | c | c | c
  · replace H := H.1 c
    refine A_tabIn (tgt := 44) d_PM_told_1 (by omega) (by omega) (by rw [c]; rfl) (by decide) ?_
    refine A_aload_n 0 d_PM_told_44 rfl rfl ?_
    refine A_getOv (z := some (97 - s)) T_ok d_PM_told_45 f_PM_27 (hb_s hb0 sf_0) hb0.2.2.1 ?_
    refine A_getIf T_ok d_PM_told_48 f_PM_104 (hs_S hb0 (isS_o hS)) (fun x2 ex2 lx2 ux2 => ?_)
    replace H := H x2 ex2 lx2 ux2
    exact A_iret d_PM_told_51 (by decide) rfl H
  · replace H := H.2.1 c
    refine A_tabIn (tgt := 52) d_PM_told_1 (by omega) (by omega) (by rw [c]; rfl) (by decide) ?_
    refine A_aload_n 0 d_PM_told_52 rfl rfl ?_
    refine A_getOv (z := some (97 - s)) T_ok d_PM_told_53 f_PM_27 (hb_s hb0 sf_0) hb0.2.2.1 ?_
    refine A_getIf T_ok d_PM_told_56 f_PM_107 (hs_S hb0 (isS_o hS)) (fun x4 ex4 lx4 ux4 => ?_)
    replace H := H x4 ex4 lx4 ux4
    exact A_iret d_PM_told_59 (by decide) rfl H
  · replace H := H.2.2.1 c
    refine A_tabIn (tgt := 60) d_PM_told_1 (by omega) (by omega) (by rw [c]; rfl) (by decide) ?_
    refine A_aload_n 0 d_PM_told_60 rfl rfl ?_
    refine A_getOv (z := some (97 - s)) T_ok d_PM_told_61 f_PM_27 (hb_s hb0 sf_0) hb0.2.2.1 ?_
    refine A_getIf T_ok d_PM_told_64 f_PM_110 (hs_S hb0 (isS_o hS)) (fun x6 ex6 lx6 ux6 => ?_)
    replace H := H x6 ex6 lx6 ux6
    exact A_iret d_PM_told_67 (by decide) rfl H
  · replace H := H.2.2.2.1 c
    refine A_tabIn (tgt := 68) d_PM_told_1 (by omega) (by omega) (by rw [c]; rfl) (by decide) ?_
    refine A_aload_n 0 d_PM_told_68 rfl rfl ?_
    refine A_getOv (z := some (97 - s)) T_ok d_PM_told_69 f_PM_27 (hb_s hb0 sf_0) hb0.2.2.1 ?_
    refine A_getIf T_ok d_PM_told_72 f_PM_113 (hs_S hb0 (isS_o hS)) (fun x8 ex8 lx8 ux8 => ?_)
    replace H := H x8 ex8 lx8 ux8
    exact A_iret d_PM_told_75 (by decide) rfl H
  · replace H := H.2.2.2.2.1 c
    refine A_tabIn (tgt := 76) d_PM_told_1 (by omega) (by omega) (by rw [c]; rfl) (by decide) ?_
    refine A_aload_n 0 d_PM_told_76 rfl rfl ?_
    refine A_getOv (z := some (97 - s)) T_ok d_PM_told_77 f_PM_27 (hb_s hb0 sf_0) hb0.2.2.1 ?_
    refine A_callV0 m_Score_mostBars T_ok d_PM_told_80 l_PM_116 k_Score_mostBars (hs_S hb0 (isS_o hS)) rfl (by decide +kernel) (by decide) (Nat.le_of_ble_eq_true rfl) H (fun r h10 hq => ?_)
    clear H
    obtain ⟨z12, rfl, hb11, H⟩ := hq
    exact A_iret d_PM_told_83 (by decide) rfl H
  · replace H := H.2.2.2.2.2.1 c
    refine A_tabIn (tgt := 84) d_PM_told_1 (by omega) (by omega) (by rw [c]; rfl) (by decide) ?_
    refine A_aload_n 0 d_PM_told_84 rfl rfl ?_
    refine A_getOv (z := some (97 - s)) T_ok d_PM_told_85 f_PM_27 (hb_s hb0 sf_0) hb0.2.2.1 ?_
    refine A_getIf T_ok d_PM_told_88 f_PM_119 (hs_S hb0 (isS_o hS)) (fun x14 ex14 lx14 ux14 => ?_)
    replace H := H x14 ex14 lx14 ux14
    exact A_iret d_PM_told_91 (by decide) rfl H
  · replace H := H.2.2.2.2.2.2.1 c
    refine A_tabIn (tgt := 92) d_PM_told_1 (by omega) (by omega) (by rw [c]; rfl) (by decide) ?_
    refine A_aload_n 0 d_PM_told_92 rfl rfl ?_
    refine A_getOv (z := some (97 - s)) T_ok d_PM_told_93 f_PM_27 (hb_s hb0 sf_0) hb0.2.2.1 ?_
    refine A_getIf T_ok d_PM_told_96 f_PM_122 (hs_S hb0 (isS_o hS)) (fun x16 ex16 lx16 ux16 => ?_)
    replace H := H x16 ex16 lx16 ux16
    exact A_iret d_PM_told_99 (by decide) rfl H
  · replace H := H.2.2.2.2.2.2.2 c
    refine A_tabOut (tgt := 100) d_PM_told_1 (by omega) (by decide) ?_
    refine A_iconst d_PM_told_100 rfl ?_
    exact A_iret d_PM_told_101 (by decide) rfl H
theorem c_PM_told {G : cx_T} {s : Nat} {a1 : Int} {h : ah_T} {Q : Option av_T → ah_T → Prop} (hb0 : hb s h) (H : i32 a1 → B_PM_told_0 G s a1 h Q ) : con G 2 0 0 m_PM_told [av_R (some 0), av_I a1] h Q := by
  have hS : isS s := hb0.2.1
  refine con_of (L := [some (av_R (some 0)), some (av_I a1)]) (by decide +kernel) (Nat.le_of_ble_eq_true rfl) rfl ?_
  refine A_locI 1 rfl (fun ra1 => ?_)
  exact b_PM_told_0   hb0 (H ra1)
def B_PM_count_37 (G : cx_T) (s : Nat) (a1 : Int) (a2 : Int) (t0 : Int) (h : ah_T) (Q : Option av_T → ah_T → Prop) : Prop :=
 Q (some (av_I t0)) h
theorem b_PM_count_37 {G : cx_T} {s : Nat} {a1 : Int} {a2 : Int} {t0 : Int} {h : ah_T} {Q : Option av_T → ah_T → Prop} (hb0 : hb s h) (H : B_PM_count_37 G s a1 a2 t0 h Q ) : aw G (rm_R 1 0 0) m_PM_count 0 0 37 [none, none, none, none] [av_I t0] h Q := by
  unfold B_PM_count_37 at H
  have hS : isS s := hb0.2.1
  exact A_iret d_PM_count_37 (by decide) rfl H
def B_PM_count_0 (G : cx_T) (s : Nat) (a1 : Int) (a2 : Int) (h : ah_T) (Q : Option av_T → ah_T → Prop) : Prop :=
 con G 0 0 0 m_Score_voiceAt [av_R (some (97 - s)), av_I a1] h (fun r h2 => ∃ oz4 : Option Nat, r = some (av_R oz4) ∧ hb s h2 ∧ ((oz4 = none ∧ Q (some (av_I (-1))) h2) ∨ ∃ z4 : Nat, oz4 = some z4 ∧ isV z4 ∧ ((a2 = 0 → ∀ x6 : Int, x6 = h2.2.1 z4 14 → -2147483648 ≤ x6 → x6 ≤ 2147483647 → Q (some (av_I x6)) h2) ∧ (¬ a2 = 0 → ((a2 = 1 → ∀ x5 : Int, x5 = h2.2.1 z4 16 → -2147483648 ≤ x5 → x5 ≤ 2147483647 → B_PM_count_37 G s a1 a2 (x5) h2 Q ) ∧ (¬ a2 = 1 → B_PM_count_37 G s a1 a2 ((-1)) h2 Q ))))))
theorem b_PM_count_0 {G : cx_T} {s : Nat} {a1 : Int} {a2 : Int} {h : ah_T} {Q : Option av_T → ah_T → Prop} (hb0 : hb s h) (H : B_PM_count_0 G s a1 a2 h Q ) : aw G (rm_R 1 0 0) m_PM_count 0 0 0 [some (av_R (some 0)), some (av_I a1), some (av_I a2), none] [] h Q := by
  unfold B_PM_count_0 at H
  have hS : isS s := hb0.2.1
  refine A_aload_n 0 d_PM_count_0 rfl rfl ?_
  refine A_getOv (z := some (97 - s)) T_ok d_PM_count_1 f_PM_27 (hb_s hb0 sf_0) hb0.2.2.1 ?_
  refine A_iload_n 1 d_PM_count_4 rfl rfl ?_
  refine A_callV1 m_Score_voiceAt T_ok d_PM_count_5 l_PM_125 k_Score_voiceAt (hs_S hb0 (isS_o hS)) rfl (by decide +kernel) (by decide) (Nat.le_of_ble_eq_true rfl) H (fun r h2 hq => ?_)
  clear H
  obtain ⟨oz4, rfl, hb3, H⟩ := hq
  rcases H with ⟨H1, H⟩ | ⟨z4, H1, tz4, H⟩
  · subst H1
    refine A_astore_n 3 (L' := [some (av_R (some 0)), some (av_I a1), some (av_I a2), some (av_R none)]) d_PM_count_8 rfl (Nat.le_of_ble_eq_true rfl) rfl ?_
    refine A_aload_n 3 d_PM_count_9 rfl rfl ?_
    refine A_ifnonnull (tgt := 15) d_PM_count_10 (by decide) (fun a q => by cases q) (fun _ => ?_)
    refine A_iconst d_PM_count_13 rfl ?_
    exact A_iret d_PM_count_14 (by decide) rfl H
  · subst H1
    refine A_astore_n 3 (L' := [some (av_R (some 0)), some (av_I a1), some (av_I a2), some (av_R (some z4))]) d_PM_count_8 rfl (Nat.le_of_ble_eq_true rfl) rfl ?_
    refine A_aload_n 3 d_PM_count_9 rfl rfl ?_
    refine A_ifnonnull (tgt := 15) d_PM_count_10 (by decide) (fun _ _ => ?_) (fun q => by cases q)
    refine A_iload_n 2 d_PM_count_15 rfl rfl ?_
    refine A_if_ne (tgt := 24) d_PM_count_16 (by decide) (fun c => ?_) (fun c => ?_)
    · replace H := H.2 c
      refine A_iload_n 2 d_PM_count_24 rfl rfl ?_
      refine A_iconst d_PM_count_25 rfl ?_
      refine A_icmp_ne (tgt := 36) d_PM_count_26 (by decide) (fun c => ?_) (fun c => ?_)
      · replace H := H.2 c
        refine A_iconst d_PM_count_36 rfl ?_
        refine A_pc (pc' := 37) rfl ?_
        refine A_free (L' := [none, none, none, none]) trivial ?_
        exact b_PM_count_37    hb3 H
      · replace H := H.1 c
        refine A_aload_n 3 d_PM_count_29 rfl rfl ?_
        refine A_getIf T_ok d_PM_count_30 f_PM_134 (hs_V hb3 tz4) (fun x5 ex5 lx5 ux5 => ?_)
        replace H := H x5 ex5 lx5 ux5
        refine A_goto (tgt := 37) d_PM_count_33 (by decide) ?_
        refine A_pc (pc' := 37) rfl ?_
        refine A_free (L' := [none, none, none, none]) trivial ?_
        exact b_PM_count_37    hb3 H
    · replace H := H.1 c
      refine A_aload_n 3 d_PM_count_19 rfl rfl ?_
      refine A_getIf T_ok d_PM_count_20 f_PM_129 (hs_V hb3 tz4) (fun x6 ex6 lx6 ux6 => ?_)
      replace H := H x6 ex6 lx6 ux6
      exact A_iret d_PM_count_23 (by decide) rfl H
theorem c_PM_count {G : cx_T} {s : Nat} {a1 : Int} {a2 : Int} {h : ah_T} {Q : Option av_T → ah_T → Prop} (hb0 : hb s h) (H : i32 a1 → i32 a2 → B_PM_count_0 G s a1 a2 h Q ) : con G 1 0 0 m_PM_count [av_R (some 0), av_I a1, av_I a2] h Q := by
  have hS : isS s := hb0.2.1
  refine con_of (L := [some (av_R (some 0)), some (av_I a1), some (av_I a2), none]) (by decide +kernel) (Nat.le_of_ble_eq_true rfl) rfl ?_
  refine A_locI 1 rfl (fun ra1 => ?_)
  refine A_locI 2 rfl (fun ra2 => ?_)
  exact b_PM_count_0   hb0 (H ra1 ra2)
def B_PM_event_143 (G : cx_T) (s : Nat) (a1 : Int) (a2 : Int) (a3 : Int) (h : ah_T) (Q : Option av_T → ah_T → Prop) : Prop :=
 Q (some (av_L 10000)) h
theorem b_PM_event_143 {G : cx_T} {s : Nat} {a1 : Int} {a2 : Int} {a3 : Int} {h : ah_T} {Q : Option av_T → ah_T → Prop} (hb0 : hb s h) (H : B_PM_event_143 G s a1 a2 a3 h Q ) : aw G (rm_R 2 0 0) m_PM_event 0 0 143 [none, none, none, none, none] [] h Q := by
  unfold B_PM_event_143 at H
  have hS : isS s := hb0.2.1
  refine A_ldc2 (z := 10000) d_PM_event_143 cst_PM_137 rfl ?_
  exact A_lret d_PM_event_146 (by decide) rfl H
def B_PM_event_106 (G : cx_T) (s : Nat) (a1 : Int) (a2 : Int) (a3 : Int) (v4 : Nat) (h : ah_T) (Q : Option av_T → ah_T → Prop) : Prop :=
 ((a3 < 20 → B_PM_event_143 G s a1 a2 a3 h Q ) ∧ (¬ a3 < 20 → ((23 < a3 → B_PM_event_143 G s a1 a2 a3 h Q ) ∧ (¬ 23 < a3 → ((-2147483648) ≤ (a3 - 20) ∧ (a3 - 20) ≤ 2147483647) ∧ con G 0 0 0 m_Voice_pitchesOf [av_R (some v4), av_I a2] h (fun r h2 => ∃ z4 : Int, r = some (av_I z4) ∧ hb s h2 ∧ ((z4 ≤ (a3 - 20) → B_PM_event_143 G s a1 a2 a3 h2 Q ) ∧ (¬ z4 ≤ (a3 - 20) → con G 0 0 0 m_Voice_stepOf [av_R (some v4), av_I a2, av_I (a3 - 20)] h2 (fun r h5 => ∃ z7 : Int, r = some (av_I z7) ∧ hb s h5 ∧ Q (some (av_L z7)) h5))))))))
theorem b_PM_event_106 {G : cx_T} {s : Nat} {a1 : Int} {a2 : Int} {a3 : Int} {v4 : Nat} {h : ah_T} {Q : Option av_T → ah_T → Prop} (hv4 : isV v4) (hb0 : hb s h) (H : B_PM_event_106 G s a1 a2 a3 v4 h Q ) : aw G (rm_R 2 0 0) m_PM_event 0 0 106 [none, none, some (av_I a2), some (av_I a3), some (av_R (some v4))] [] h Q := by
  unfold B_PM_event_106 at H
  have hS : isS s := hb0.2.1
  refine A_iload_n 3 d_PM_event_106 rfl rfl ?_
  refine A_bipush d_PM_event_107 rfl ?_
  refine A_icmp_lt (tgt := 143) d_PM_event_109 (by decide) (fun c => ?_) (fun c => ?_)
  · replace H := H.1 c
    refine A_pc (pc' := 143) rfl ?_
    refine A_free (L' := [none, none, none, none, none]) trivial ?_
    exact b_PM_event_143    hb0 H
  · replace H := H.2 c
    refine A_iload_n 3 d_PM_event_112 rfl rfl ?_
    refine A_bipush d_PM_event_113 rfl ?_
    refine A_icmp_gt (tgt := 143) d_PM_event_115 (by decide) (fun c => ?_) (fun c => ?_)
    · replace H := H.1 c
      refine A_pc (pc' := 143) rfl ?_
      refine A_free (L' := [none, none, none, none, none]) trivial ?_
      exact b_PM_event_143    hb0 H
    · replace H := H.2 c
      refine A_iload_n 3 d_PM_event_118 rfl rfl ?_
      refine A_bipush d_PM_event_119 rfl ?_
      have g1 := H.1
      replace H := H.2
      refine A_isubv (z := (a3 - 20)) d_PM_event_121 (w32_to (by omega) (by unfold i32; omega)) ?_
      refine A_aload d_PM_event_122 rfl ?_
      refine A_iload_n 2 d_PM_event_124 rfl rfl ?_
      refine A_pc (pc' := 125) rfl ?_
      refine A_callV1 m_Voice_pitchesOf T_ok d_PM_event_125 l_PM_147 k_Voice_pitchesOf (hs_V hb0 hv4) rfl (by decide +kernel) (by decide) (Nat.le_of_ble_eq_true rfl) H (fun r h2 hq => ?_)
      clear H
      obtain ⟨z4, rfl, hb3, H⟩ := hq
      refine A_icmp_ge (tgt := 143) d_PM_event_128 (by decide) (fun c => ?_) (fun c => ?_)
      · replace H := H.1 c
        refine A_pc (pc' := 143) rfl ?_
        refine A_free (L' := [none, none, none, none, none]) trivial ?_
        exact b_PM_event_143    hb3 H
      · replace H := H.2 c
        refine A_aload d_PM_event_131 rfl ?_
        refine A_iload_n 2 d_PM_event_133 rfl rfl ?_
        refine A_iload_n 3 d_PM_event_134 rfl rfl ?_
        refine A_bipush d_PM_event_135 rfl ?_
        refine A_isubv (z := (a3 - 20)) d_PM_event_137 (w32_to (by omega) (by unfold i32; omega)) ?_
        refine A_pc (pc' := 138) rfl ?_
        refine A_callV2 m_Voice_stepOf T_ok d_PM_event_138 l_PM_154 k_Voice_stepOf (hs_V hb3 hv4) rfl (by decide +kernel) (by decide) (Nat.le_of_ble_eq_true rfl) H (fun r h5 hq => ?_)
        clear H
        obtain ⟨z7, rfl, hb6, H⟩ := hq
        refine A_i2l d_PM_event_141 ?_
        exact A_lret d_PM_event_142 (by decide) rfl H
def B_PM_event_69 (G : cx_T) (s : Nat) (a1 : Int) (a2 : Int) (a3 : Int) (v4 : Nat) (h : ah_T) (Q : Option av_T → ah_T → Prop) : Prop :=
 ((a3 < 10 → B_PM_event_106 G s a1 a2 a3 v4 h Q ) ∧ (¬ a3 < 10 → ((13 < a3 → B_PM_event_106 G s a1 a2 a3 v4 h Q ) ∧ (¬ 13 < a3 → ((-2147483648) ≤ (a3 - 10) ∧ (a3 - 10) ≤ 2147483647) ∧ con G 0 0 0 m_Voice_pitchesOf [av_R (some v4), av_I a2] h (fun r h2 => ∃ z4 : Int, r = some (av_I z4) ∧ hb s h2 ∧ ((z4 ≤ (a3 - 10) → B_PM_event_106 G s a1 a2 a3 v4 h2 Q ) ∧ (¬ z4 ≤ (a3 - 10) → con G 0 0 0 m_Voice_keyOf [av_R (some v4), av_I a2, av_I (a3 - 10)] h2 (fun r h5 => ∃ z7 : Int, r = some (av_I z7) ∧ hb s h5 ∧ Q (some (av_L z7)) h5))))))))
theorem b_PM_event_69 {G : cx_T} {s : Nat} {a1 : Int} {a2 : Int} {a3 : Int} {v4 : Nat} {h : ah_T} {Q : Option av_T → ah_T → Prop} (hv4 : isV v4) (hb0 : hb s h) (H : B_PM_event_69 G s a1 a2 a3 v4 h Q ) : aw G (rm_R 2 0 0) m_PM_event 0 0 69 [none, none, some (av_I a2), some (av_I a3), some (av_R (some v4))] [] h Q := by
  unfold B_PM_event_69 at H
  have hS : isS s := hb0.2.1
  refine A_iload_n 3 d_PM_event_69 rfl rfl ?_
  refine A_bipush d_PM_event_70 rfl ?_
  refine A_icmp_lt (tgt := 106) d_PM_event_72 (by decide) (fun c => ?_) (fun c => ?_)
  · replace H := H.1 c
    refine A_pc (pc' := 106) rfl ?_
    exact b_PM_event_106   hv4 hb0 H
  · replace H := H.2 c
    refine A_iload_n 3 d_PM_event_75 rfl rfl ?_
    refine A_bipush d_PM_event_76 rfl ?_
    refine A_icmp_gt (tgt := 106) d_PM_event_78 (by decide) (fun c => ?_) (fun c => ?_)
    · replace H := H.1 c
      refine A_pc (pc' := 106) rfl ?_
      exact b_PM_event_106   hv4 hb0 H
    · replace H := H.2 c
      refine A_iload_n 3 d_PM_event_81 rfl rfl ?_
      refine A_bipush d_PM_event_82 rfl ?_
      have g1 := H.1
      replace H := H.2
      refine A_isubv (z := (a3 - 10)) d_PM_event_84 (w32_to (by omega) (by unfold i32; omega)) ?_
      refine A_aload d_PM_event_85 rfl ?_
      refine A_iload_n 2 d_PM_event_87 rfl rfl ?_
      refine A_pc (pc' := 88) rfl ?_
      refine A_callV1 m_Voice_pitchesOf T_ok d_PM_event_88 l_PM_147 k_Voice_pitchesOf (hs_V hb0 hv4) rfl (by decide +kernel) (by decide) (Nat.le_of_ble_eq_true rfl) H (fun r h2 hq => ?_)
      clear H
      obtain ⟨z4, rfl, hb3, H⟩ := hq
      refine A_icmp_ge (tgt := 106) d_PM_event_91 (by decide) (fun c => ?_) (fun c => ?_)
      · replace H := H.1 c
        refine A_pc (pc' := 106) rfl ?_
        exact b_PM_event_106   hv4 hb3 H
      · replace H := H.2 c
        refine A_aload d_PM_event_94 rfl ?_
        refine A_iload_n 2 d_PM_event_96 rfl rfl ?_
        refine A_iload_n 3 d_PM_event_97 rfl rfl ?_
        refine A_bipush d_PM_event_98 rfl ?_
        refine A_isubv (z := (a3 - 10)) d_PM_event_100 (w32_to (by omega) (by unfold i32; omega)) ?_
        refine A_pc (pc' := 101) rfl ?_
        refine A_callV2 m_Voice_keyOf T_ok d_PM_event_101 l_PM_151 k_Voice_keyOf (hs_V hb3 hv4) rfl (by decide +kernel) (by decide) (Nat.le_of_ble_eq_true rfl) H (fun r h5 hq => ?_)
        clear H
        obtain ⟨z7, rfl, hb6, H⟩ := hq
        refine A_i2l d_PM_event_104 ?_
        exact A_lret d_PM_event_105 (by decide) rfl H
def B_PM_event_49 (G : cx_T) (s : Nat) (a1 : Int) (a2 : Int) (a3 : Int) (v4 : Nat) (h : ah_T) (Q : Option av_T → ah_T → Prop) : Prop :=
 ((a3 < 4 → B_PM_event_69 G s a1 a2 a3 v4 h Q ) ∧ (¬ a3 < 4 → ((8 < a3 → B_PM_event_69 G s a1 a2 a3 v4 h Q ) ∧ (¬ 8 < a3 → con G 1 0 0 m_Voice_writingOf [av_R (some v4), av_I a2, av_I a3] h (fun r h1 => ∃ z3 : Int, r = some (av_I z3) ∧ hb s h1 ∧ Q (some (av_L z3)) h1)))))
theorem b_PM_event_49 {G : cx_T} {s : Nat} {a1 : Int} {a2 : Int} {a3 : Int} {v4 : Nat} {h : ah_T} {Q : Option av_T → ah_T → Prop} (hv4 : isV v4) (hb0 : hb s h) (H : B_PM_event_49 G s a1 a2 a3 v4 h Q ) : aw G (rm_R 2 0 0) m_PM_event 0 0 49 [none, none, some (av_I a2), some (av_I a3), some (av_R (some v4))] [] h Q := by
  unfold B_PM_event_49 at H
  have hS : isS s := hb0.2.1
  refine A_iload_n 3 d_PM_event_49 rfl rfl ?_
  refine A_iconst d_PM_event_50 rfl ?_
  refine A_icmp_lt (tgt := 69) d_PM_event_51 (by decide) (fun c => ?_) (fun c => ?_)
  · replace H := H.1 c
    refine A_pc (pc' := 69) rfl ?_
    exact b_PM_event_69   hv4 hb0 H
  · replace H := H.2 c
    refine A_iload_n 3 d_PM_event_54 rfl rfl ?_
    refine A_bipush d_PM_event_55 rfl ?_
    refine A_icmp_gt (tgt := 69) d_PM_event_57 (by decide) (fun c => ?_) (fun c => ?_)
    · replace H := H.1 c
      refine A_pc (pc' := 69) rfl ?_
      exact b_PM_event_69   hv4 hb0 H
    · replace H := H.2 c
      refine A_aload d_PM_event_60 rfl ?_
      refine A_iload_n 2 d_PM_event_62 rfl rfl ?_
      refine A_iload_n 3 d_PM_event_63 rfl rfl ?_
      refine A_callV2 m_Voice_writingOf T_ok d_PM_event_64 l_PM_143 k_Voice_writingOf (hs_V hb0 hv4) rfl (by decide +kernel) (by decide) (Nat.le_of_ble_eq_true rfl) H (fun r h1 hq => ?_)
      clear H
      obtain ⟨z3, rfl, hb2, H⟩ := hq
      refine A_i2l d_PM_event_67 ?_
      exact A_lret d_PM_event_68 (by decide) rfl H
def B_PM_event_28 (G : cx_T) (s : Nat) (a1 : Int) (a2 : Int) (a3 : Int) (h : ah_T) (Q : Option av_T → ah_T → Prop) : Prop :=
 Q (some (av_L 10000)) h
theorem b_PM_event_28 {G : cx_T} {s : Nat} {a1 : Int} {a2 : Int} {a3 : Int} {h : ah_T} {Q : Option av_T → ah_T → Prop} (hb0 : hb s h) (H : B_PM_event_28 G s a1 a2 a3 h Q ) : aw G (rm_R 2 0 0) m_PM_event 0 0 28 [none, none, none, none, none] [] h Q := by
  unfold B_PM_event_28 at H
  have hS : isS s := hb0.2.1
  refine A_ldc2 (z := 10000) d_PM_event_28 cst_PM_137 rfl ?_
  exact A_lret d_PM_event_31 (by decide) rfl H
def B_PM_event_0 (G : cx_T) (s : Nat) (a1 : Int) (a2 : Int) (a3 : Int) (h : ah_T) (Q : Option av_T → ah_T → Prop) : Prop :=
 con G 0 0 0 m_Score_voiceAt [av_R (some (97 - s)), av_I a1] h (fun r h2 => ∃ oz4 : Option Nat, r = some (av_R oz4) ∧ hb s h2 ∧ ((oz4 = none ∧ B_PM_event_28 G s a1 a2 a3 h2 Q ) ∨ ∃ z4 : Nat, oz4 = some z4 ∧ isV z4 ∧ ((a2 < 0 → B_PM_event_28 G s a1 a2 a3 h2 Q ) ∧ (¬ a2 < 0 → ∀ x5 : Int, x5 = h2.2.1 z4 14 → -2147483648 ≤ x5 → x5 ≤ 2147483647 → ((a2 < x5 → ((a3 < 0 → B_PM_event_49 G s a1 a2 a3 z4 h2 Q ) ∧ (¬ a3 < 0 → ((3 < a3 → B_PM_event_49 G s a1 a2 a3 z4 h2 Q ) ∧ (¬ 3 < a3 → con G 0 0 0 m_Voice_timeOf [av_R (some z4), av_I a2, av_I a3] h2 (fun r h6 => ∃ z8 : Int, r = some (av_L z8) ∧ hb s h6 ∧ Q (some (av_L z8)) h6)))))) ∧ (¬ a2 < x5 → B_PM_event_28 G s a1 a2 a3 h2 Q ))))))
theorem b_PM_event_0 {G : cx_T} {s : Nat} {a1 : Int} {a2 : Int} {a3 : Int} {h : ah_T} {Q : Option av_T → ah_T → Prop} (hb0 : hb s h) (H : B_PM_event_0 G s a1 a2 a3 h Q ) : aw G (rm_R 2 0 0) m_PM_event 0 0 0 [some (av_R (some 0)), some (av_I a1), some (av_I a2), some (av_I a3), none] [] h Q := by
  unfold B_PM_event_0 at H
  have hS : isS s := hb0.2.1
  refine A_aload_n 0 d_PM_event_0 rfl rfl ?_
  refine A_getOv (z := some (97 - s)) T_ok d_PM_event_1 f_PM_27 (hb_s hb0 sf_0) hb0.2.2.1 ?_
  refine A_iload_n 1 d_PM_event_4 rfl rfl ?_
  refine A_callV1 m_Score_voiceAt T_ok d_PM_event_5 l_PM_125 k_Score_voiceAt (hs_S hb0 (isS_o hS)) rfl (by decide +kernel) (by decide) (Nat.le_of_ble_eq_true rfl) H (fun r h2 hq => ?_)
  clear H
  obtain ⟨oz4, rfl, hb3, H⟩ := hq
  rcases H with ⟨H1, H⟩ | ⟨z4, H1, tz4, H⟩
  · subst H1
    refine A_astore (L' := [some (av_R (some 0)), some (av_I a1), some (av_I a2), some (av_I a3), some (av_R none)]) d_PM_event_8 (Nat.le_of_ble_eq_true rfl) rfl ?_
    refine A_aload d_PM_event_10 rfl ?_
    refine A_ifnull (tgt := 28) d_PM_event_12 (by decide) (fun _ => ?_) (fun a q => by cases q)
    refine A_pc (pc' := 28) rfl ?_
    refine A_free (L' := [none, none, none, none, none]) trivial ?_
    exact b_PM_event_28    hb3 H
  · subst H1
    refine A_astore (L' := [some (av_R (some 0)), some (av_I a1), some (av_I a2), some (av_I a3), some (av_R (some z4))]) d_PM_event_8 (Nat.le_of_ble_eq_true rfl) rfl ?_
    refine A_aload d_PM_event_10 rfl ?_
    refine A_ifnull (tgt := 28) d_PM_event_12 (by decide) (fun q => by cases q) (fun _ _ => ?_)
    refine A_iload_n 2 d_PM_event_15 rfl rfl ?_
    refine A_if_lt (tgt := 28) d_PM_event_16 (by decide) (fun c => ?_) (fun c => ?_)
    · replace H := H.1 c
      refine A_pc (pc' := 28) rfl ?_
      refine A_free (L' := [none, none, none, none, none]) trivial ?_
      exact b_PM_event_28    hb3 H
    · replace H := H.2 c
      refine A_iload_n 2 d_PM_event_19 rfl rfl ?_
      refine A_aload d_PM_event_20 rfl ?_
      refine A_getIf T_ok d_PM_event_22 f_PM_129 (hs_V hb3 tz4) (fun x5 ex5 lx5 ux5 => ?_)
      replace H := H x5 ex5 lx5 ux5
      refine A_icmp_lt (tgt := 32) d_PM_event_25 (by decide) (fun c => ?_) (fun c => ?_)
      · replace H := H.1 c
        refine A_iload_n 3 d_PM_event_32 rfl rfl ?_
        refine A_if_lt (tgt := 49) d_PM_event_33 (by decide) (fun c => ?_) (fun c => ?_)
        · replace H := H.1 c
          refine A_pc (pc' := 49) rfl ?_
          refine A_free (L' := [none, none, some (av_I a2), some (av_I a3), some (av_R (some z4))]) (And.intro rfl (And.intro rfl (And.intro rfl trivial))) ?_
          exact b_PM_event_49   tz4 hb3 H
        · replace H := H.2 c
          refine A_iload_n 3 d_PM_event_36 rfl rfl ?_
          refine A_iconst d_PM_event_37 rfl ?_
          refine A_icmp_gt (tgt := 49) d_PM_event_38 (by decide) (fun c => ?_) (fun c => ?_)
          · replace H := H.1 c
            refine A_pc (pc' := 49) rfl ?_
            refine A_free (L' := [none, none, some (av_I a2), some (av_I a3), some (av_R (some z4))]) (And.intro rfl (And.intro rfl (And.intro rfl trivial))) ?_
            exact b_PM_event_49   tz4 hb3 H
          · replace H := H.2 c
            refine A_aload d_PM_event_41 rfl ?_
            refine A_iload_n 2 d_PM_event_43 rfl rfl ?_
            refine A_iload_n 3 d_PM_event_44 rfl rfl ?_
            refine A_callV2 m_Voice_timeOf T_ok d_PM_event_45 l_PM_139 k_Voice_timeOf (hs_V hb3 tz4) rfl (by decide +kernel) (by decide) (Nat.le_of_ble_eq_true rfl) H (fun r h6 hq => ?_)
            clear H
            obtain ⟨z8, rfl, hb7, H⟩ := hq
            exact A_lret d_PM_event_48 (by decide) rfl H
      · replace H := H.2 c
        refine A_pc (pc' := 28) rfl ?_
        refine A_free (L' := [none, none, none, none, none]) trivial ?_
        exact b_PM_event_28    hb3 H
theorem c_PM_event {G : cx_T} {s : Nat} {a1 : Int} {a2 : Int} {a3 : Int} {h : ah_T} {Q : Option av_T → ah_T → Prop} (hb0 : hb s h) (H : i32 a1 → i32 a2 → i32 a3 → B_PM_event_0 G s a1 a2 a3 h Q ) : con G 2 0 0 m_PM_event [av_R (some 0), av_I a1, av_I a2, av_I a3] h Q := by
  have hS : isS s := hb0.2.1
  refine con_of (L := [some (av_R (some 0)), some (av_I a1), some (av_I a2), some (av_I a3), none]) (by decide +kernel) (Nat.le_of_ble_eq_true rfl) rfl ?_
  refine A_locI 1 rfl (fun ra1 => ?_)
  refine A_locI 2 rfl (fun ra2 => ?_)
  refine A_locI 3 rfl (fun ra3 => ?_)
  exact b_PM_event_0   hb0 (H ra1 ra2 ra3)
