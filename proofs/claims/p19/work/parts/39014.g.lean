/-! ===== verification conditions, 503 ===== -/
def B_Score_clear_0 (G : cx_T) (s : Nat) (h : ah_T) (Q : Option av_T → ah_T → Prop) : Prop :=
 ∀ h1 : ah_T, h1 = st_i h s 1 0 → ∀ h3 : ah_T, h3 = st_i h1 s 2 4 → ∀ h5 : ah_T, h5 = st_i h3 s 3 4 → ∀ h7 : ah_T, h7 = st_i h5 s 4 0 → ∀ h9 : ah_T, h9 = st_i h7 s 6 0 → ∀ h11 : ah_T, h11 = st_i h9 s 10 0 → ∀ h13 : ah_T, h13 = st_i h11 s 12 0 → Q none h13
theorem b_Score_clear_0 {G : cx_T} {s : Nat} {h : ah_T} {Q : Option av_T → ah_T → Prop} (hb0 : hb s h) (H : B_Score_clear_0 G s h Q ) : aw G (rm_R 0 0 0) m_Score_clear 0 0 0 [some (av_R (some s))] [] h Q := by
  unfold B_Score_clear_0 at H
  have hS : isS s := hb0.2.1
  refine A_aload_n 0 d_Score_clear_0 rfl rfl ?_
  refine A_iconst d_Score_clear_1 rfl ?_
  refine A_putI T_ok d_Score_clear_2 f_Score_41 (hs_S hb0 hS) fin_f ?_
  refine A_hn (fun h1 eh1 => ?_)
  have hb2 := hb_i hb0 eh1
  replace H := H h1 eh1
  refine A_aload_n 0 d_Score_clear_5 rfl rfl ?_
  refine A_iconst d_Score_clear_6 rfl ?_
  refine A_pc (pc' := 7) rfl ?_
  refine A_putI T_ok d_Score_clear_7 f_Score_17 (hs_S hb2 hS) fin_f ?_
  refine A_hn (fun h3 eh3 => ?_)
  have hb4 := hb_i hb2 eh3
  replace H := H h3 eh3
  refine A_aload_n 0 d_Score_clear_10 rfl rfl ?_
  refine A_iconst d_Score_clear_11 rfl ?_
  refine A_putI T_ok d_Score_clear_12 f_Score_21 (hs_S hb4 hS) fin_f ?_
  refine A_hn (fun h5 eh5 => ?_)
  have hb6 := hb_i hb4 eh5
  replace H := H h5 eh5
  refine A_aload_n 0 d_Score_clear_15 rfl rfl ?_
  refine A_iconst d_Score_clear_16 rfl ?_
  refine A_pc (pc' := 17) rfl ?_
  refine A_putZ T_ok d_Score_clear_17 f_Score_44 (hs_S hb6 hS) fin_f (by decide) ?_
  refine A_hn (fun h7 eh7 => ?_)
  have hb8 := hb_i hb6 eh7
  replace H := H h7 eh7
  refine A_aload_n 0 d_Score_clear_20 rfl rfl ?_
  refine A_iconst d_Score_clear_21 rfl ?_
  refine A_putI T_ok d_Score_clear_22 f_Score_48 (hs_S hb8 hS) fin_f ?_
  refine A_hn (fun h9 eh9 => ?_)
  have hb10 := hb_i hb8 eh9
  replace H := H h9 eh9
  refine A_aload_n 0 d_Score_clear_25 rfl rfl ?_
  refine A_iconst d_Score_clear_26 rfl ?_
  refine A_pc (pc' := 27) rfl ?_
  refine A_putI T_ok d_Score_clear_27 f_Score_51 (hs_S hb10 hS) fin_f ?_
  refine A_hn (fun h11 eh11 => ?_)
  have hb12 := hb_i hb10 eh11
  replace H := H h11 eh11
  refine A_aload_n 0 d_Score_clear_30 rfl rfl ?_
  refine A_iconst d_Score_clear_31 rfl ?_
  refine A_putI T_ok d_Score_clear_32 f_Score_54 (hs_S hb12 hS) fin_f ?_
  refine A_hn (fun h13 eh13 => ?_)
  have hb14 := hb_i hb12 eh13
  replace H := H h13 eh13
  exact A_vret d_Score_clear_35 (by decide) rfl H
theorem c_Score_clear {G : cx_T} {s : Nat} {h : ah_T} {Q : Option av_T → ah_T → Prop} (hb0 : hb s h) (H : B_Score_clear_0 G s h Q ) : con G 0 0 0 m_Score_clear [av_R (some s)] h Q := by
  have hS : isS s := hb0.2.1
  refine con_of (L := [some (av_R (some s))]) (by decide +kernel) (Nat.le_of_ble_eq_true rfl) rfl ?_
  exact b_Score_clear_0   hb0 (H )
def B_Score_setTime_0 (G : cx_T) (s : Nat) (a1 : Int) (a2 : Int) (h : ah_T) (Q : Option av_T → ah_T → Prop) : Prop :=
 ∀ h1 : ah_T, h1 = st_i h s 4 1 → ∀ h3 : ah_T, h3 = st_i h1 s 2 a1 → ∀ h5 : ah_T, h5 = st_i h3 s 3 a2 → Q none h5
theorem b_Score_setTime_0 {G : cx_T} {s : Nat} {a1 : Int} {a2 : Int} {h : ah_T} {Q : Option av_T → ah_T → Prop} (hb0 : hb s h) (H : B_Score_setTime_0 G s a1 a2 h Q ) : aw G (rm_R 0 0 0) m_Score_setTime 0 0 0 [some (av_R (some s)), some (av_I a1), some (av_I a2)] [] h Q := by
  unfold B_Score_setTime_0 at H
  have hS : isS s := hb0.2.1
  refine A_aload_n 0 d_Score_setTime_0 rfl rfl ?_
  refine A_iconst d_Score_setTime_1 rfl ?_
  refine A_putZ T_ok d_Score_setTime_2 f_Score_44 (hs_S hb0 hS) fin_f (by decide) ?_
  refine A_hn (fun h1 eh1 => ?_)
  have hb2 := hb_i hb0 eh1
  replace H := H h1 eh1
  refine A_aload_n 0 d_Score_setTime_5 rfl rfl ?_
  refine A_iload_n 1 d_Score_setTime_6 rfl rfl ?_
  refine A_pc (pc' := 7) rfl ?_
  refine A_putI T_ok d_Score_setTime_7 f_Score_17 (hs_S hb2 hS) fin_f ?_
  refine A_hn (fun h3 eh3 => ?_)
  have hb4 := hb_i hb2 eh3
  replace H := H h3 eh3
  refine A_aload_n 0 d_Score_setTime_10 rfl rfl ?_
  refine A_iload_n 2 d_Score_setTime_11 rfl rfl ?_
  refine A_putI T_ok d_Score_setTime_12 f_Score_21 (hs_S hb4 hS) fin_f ?_
  refine A_hn (fun h5 eh5 => ?_)
  have hb6 := hb_i hb4 eh5
  replace H := H h5 eh5
  exact A_vret d_Score_setTime_15 (by decide) rfl H
theorem c_Score_setTime {G : cx_T} {s : Nat} {a1 : Int} {a2 : Int} {h : ah_T} {Q : Option av_T → ah_T → Prop} (hb0 : hb s h) (H : i32 a1 → i32 a2 → B_Score_setTime_0 G s a1 a2 h Q ) : con G 0 0 0 m_Score_setTime [av_R (some s), av_I a1, av_I a2] h Q := by
  have hS : isS s := hb0.2.1
  refine con_of (L := [some (av_R (some s)), some (av_I a1), some (av_I a2)]) (by decide +kernel) (Nat.le_of_ble_eq_true rfl) rfl ?_
  refine A_locI 1 rfl (fun ra1 => ?_)
  refine A_locI 2 rfl (fun ra2 => ?_)
  exact b_Score_setTime_0   hb0 (H ra1 ra2)
def B_Score_newVoice_44 (G : cx_T) (s : Nat) (v1 : Nat) (h : ah_T) (Q : Option av_T → ah_T → Prop) : Prop :=
 Q (some (av_R (some v1))) h
theorem b_Score_newVoice_44 {G : cx_T} {s : Nat} {v1 : Nat} {h : ah_T} {Q : Option av_T → ah_T → Prop} (hv1 : isV v1) (hb0 : hb s h) (H : B_Score_newVoice_44 G s v1 h Q ) : aw G (rm_R 1 0 0) m_Score_newVoice 0 0 44 [none, some (av_R (some v1))] [] h Q := by
  unfold B_Score_newVoice_44 at H
  have hS : isS s := hb0.2.1
  refine A_aload_n 1 d_Score_newVoice_44 rfl rfl ?_
  exact A_aret d_Score_newVoice_45 (by decide) rfl ty_o H
def B_Score_newVoice_0 (G : cx_T) (s : Nat) (h : ah_T) (Q : Option av_T → ah_T → Prop) : Prop :=
 ∀ x1 : Int, x1 = h.2.1 s 1 → -2147483648 ≤ x1 → x1 ≤ 2147483647 → ((x1 < 4 → ((-2147483648) ≤ (x1 + 1) ∧ (x1 + 1) ≤ 2147483647) ∧ ∀ h5 : ah_T, h5 = st_i h s 1 (x1 + 1) → ((-2147483648) ≤ x1 ∧ x1 ≤ 2147483647) ∧ (0 ≤ x1 ∧ x1 < 4) ∧ con G 0 0 0 m_Voice_clear [av_R (some (s + 7 + 14 * (x1).toNat))] h5 (fun r h12 => r = none ∧ hb s h12 ∧ B_Score_newVoice_44 G s (s + 7 + 14 * (x1).toNat) h12 Q )) ∧ (¬ x1 < 4 → Q (some (av_R none)) h))
theorem b_Score_newVoice_0 {G : cx_T} {s : Nat} {h : ah_T} {Q : Option av_T → ah_T → Prop} (hb0 : hb s h) (H : B_Score_newVoice_0 G s h Q ) : aw G (rm_R 1 0 0) m_Score_newVoice 0 0 0 [some (av_R (some s)), none] [] h Q := by
  unfold B_Score_newVoice_0 at H
  have hS : isS s := hb0.2.1
  refine A_aload_n 0 d_Score_newVoice_0 rfl rfl ?_
  refine A_getIf T_ok d_Score_newVoice_1 f_Score_41 (hs_S hb0 hS) (fun x1 ex1 lx1 ux1 => ?_)
  replace H := H x1 ex1 lx1 ux1
  refine A_aload_n 0 d_Score_newVoice_4 rfl rfl ?_
  refine A_getAv (z := some (s + 1)) T_ok d_Score_newVoice_5 f_Score_11 (hs_S hb0 hS) (hr_S_0 hb0 hS) ?_
  refine A_alenN d_Score_newVoice_8 (hs_S_0 hb0 hS) (by decide) (by decide) ?_
  refine A_pc (pc' := 9) rfl ?_
  refine A_icmp_lt (tgt := 14) d_Score_newVoice_9 (by decide) (fun c => ?_) (fun c => ?_)
  · replace H := H.1 c
    refine A_aload_n 0 d_Score_newVoice_14 rfl rfl ?_
    refine A_dupR d_Score_newVoice_15 ?_
    refine A_getIv (z := x1) T_ok d_Score_newVoice_16 f_Score_41 (hs_S hb0 hS) ex1.symm ?_
    refine A_iconst d_Score_newVoice_19 rfl ?_
    have g4 := H.1
    replace H := H.2
    refine A_iaddv (z := (x1 + 1)) d_Score_newVoice_20 (w32_to (by omega) (by unfold i32; omega)) ?_
    refine A_pc (pc' := 21) rfl ?_
    refine A_putI T_ok d_Score_newVoice_21 f_Score_41 (hs_S hb0 hS) fin_f ?_
    refine A_hn (fun h5 eh5 => ?_)
    have hb6 := hb_i hb0 eh5
    replace H := H h5 eh5
    refine A_aload_n 0 d_Score_newVoice_24 rfl rfl ?_
    refine A_getAv (z := some (s + 1)) T_ok d_Score_newVoice_25 f_Score_11 (hs_S hb6 hS) (hr_S_0 hb6 hS) ?_
    refine A_aload_n 0 d_Score_newVoice_28 rfl rfl ?_
    refine A_getIv (z := (x1 + 1)) T_ok d_Score_newVoice_29 f_Score_41 (hs_S hb6 hS) (mv_i eh5) ?_
    refine A_iconst d_Score_newVoice_32 rfl ?_
    refine A_pc (pc' := 33) rfl ?_
    have g9 := H.1
    replace H := H.2
    refine A_isubv (z := x1) d_Score_newVoice_33 (w32_to (by omega) (by unfold i32; omega)) ?_
    have g11 := H.1
    replace H := H.2
    refine A_aaloadn (S := fun o => o = some (s + 7 + 14 * (x1).toNat)) d_Score_newVoice_34 (hs_S_0 hb6 hS) g11.1 g11.2 (hr_Sv hb6 hS g11.1 g11.2) (fun ox10 qx10 => ?_)
    subst qx10
    refine A_astore_n 1 (L' := [some (av_R (some s)), some (av_R (some (s + 7 + 14 * (x1).toNat)))]) d_Score_newVoice_35 rfl (Nat.le_of_ble_eq_true rfl) rfl ?_
    refine A_aload_n 1 d_Score_newVoice_36 rfl rfl ?_
    refine A_ifnull (tgt := 44) d_Score_newVoice_37 (by decide) (fun q => by cases q) (fun _ _ => ?_)
    refine A_aload_n 1 d_Score_newVoice_40 rfl rfl ?_
    refine A_callV0 m_Voice_clear T_ok d_Score_newVoice_41 l_Score_57 k_Voice_clear (hs_V hb6 (iV_n hS g11.1 g11.2)) rfl (by decide +kernel) (by decide) (Nat.le_of_ble_eq_true rfl) H (fun r h12 hq => ?_)
    clear H
    obtain ⟨rfl, hb13, H⟩ := hq
    refine A_pc (pc' := 44) rfl ?_
    refine A_free (L' := [none, some (av_R (some (s + 7 + 14 * (x1).toNat)))]) (And.intro rfl trivial) ?_
    exact b_Score_newVoice_44   (iV_n hS g11.1 g11.2) hb13 H
  · replace H := H.2 c
    refine A_null d_Score_newVoice_12 ?_
    exact A_aret d_Score_newVoice_13 (by decide) rfl ty_o H
theorem c_Score_newVoice {G : cx_T} {s : Nat} {h : ah_T} {Q : Option av_T → ah_T → Prop} (hb0 : hb s h) (H : B_Score_newVoice_0 G s h Q ) : con G 1 0 0 m_Score_newVoice [av_R (some s)] h Q := by
  have hS : isS s := hb0.2.1
  refine con_of (L := [some (av_R (some s)), none]) (by decide +kernel) (Nat.le_of_ble_eq_true rfl) rfl ?_
  exact b_Score_newVoice_0   hb0 (H )
def B_Score_voiceAt_30 (G : cx_T) (s : Nat) (a0 : Nat) (a1 : Int) (h : ah_T) (Q : Option av_T → ah_T → Prop) : Prop :=
 Q (some (av_R none)) h
theorem b_Score_voiceAt_30 {G : cx_T} {s : Nat} {a0 : Nat} {a1 : Int} (ha0 : isS a0) {h : ah_T} {Q : Option av_T → ah_T → Prop} (hb0 : hb s h) (H : B_Score_voiceAt_30 G s a0 a1 h Q ) : aw G (rm_R 0 0 0) m_Score_voiceAt 0 0 30 [none, none] [] h Q := by
  unfold B_Score_voiceAt_30 at H
  have hS : isS s := hb0.2.1
  refine A_null d_Score_voiceAt_30 ?_
  exact A_aret d_Score_voiceAt_31 (by decide) rfl ty_o H
def B_Score_voiceAt_0 (G : cx_T) (s : Nat) (a0 : Nat) (a1 : Int) (h : ah_T) (Q : Option av_T → ah_T → Prop) : Prop :=
 ((a1 < 0 → B_Score_voiceAt_30 G s a0 a1 h Q ) ∧ (¬ a1 < 0 → ∀ x1 : Int, x1 = h.2.1 a0 1 → -2147483648 ≤ x1 → x1 ≤ 2147483647 → ((x1 ≤ a1 → B_Score_voiceAt_30 G s a0 a1 h Q ) ∧ (¬ x1 ≤ a1 → ((4 ≤ a1 → B_Score_voiceAt_30 G s a0 a1 h Q ) ∧ (¬ 4 ≤ a1 → (0 ≤ a1 ∧ a1 < 4) ∧ Q (some (av_R (some (a0 + 7 + 14 * (a1).toNat)))) h))))))
theorem b_Score_voiceAt_0 {G : cx_T} {s : Nat} {a0 : Nat} {a1 : Int} (ha0 : isS a0) {h : ah_T} {Q : Option av_T → ah_T → Prop} (hb0 : hb s h) (H : B_Score_voiceAt_0 G s a0 a1 h Q ) : aw G (rm_R 0 0 0) m_Score_voiceAt 0 0 0 [some (av_R (some a0)), some (av_I a1)] [] h Q := by
  unfold B_Score_voiceAt_0 at H
  have hS : isS s := hb0.2.1
  refine A_iload_n 1 d_Score_voiceAt_0 rfl rfl ?_
  refine A_if_lt (tgt := 30) d_Score_voiceAt_1 (by decide) (fun c => ?_) (fun c => ?_)
  · replace H := H.1 c
    refine A_pc (pc' := 30) rfl ?_
    refine A_free (L' := [none, none]) trivial ?_
    exact b_Score_voiceAt_30 ha0   hb0 H
  · replace H := H.2 c
    refine A_iload_n 1 d_Score_voiceAt_4 rfl rfl ?_
    refine A_aload_n 0 d_Score_voiceAt_5 rfl rfl ?_
    refine A_getIf T_ok d_Score_voiceAt_6 f_Score_41 (hs_S hb0 ha0) (fun x1 ex1 lx1 ux1 => ?_)
    replace H := H x1 ex1 lx1 ux1
    refine A_icmp_ge (tgt := 30) d_Score_voiceAt_9 (by decide) (fun c => ?_) (fun c => ?_)
    · replace H := H.1 c
      refine A_pc (pc' := 30) rfl ?_
      refine A_free (L' := [none, none]) trivial ?_
      exact b_Score_voiceAt_30 ha0   hb0 H
    · replace H := H.2 c
      refine A_iload_n 1 d_Score_voiceAt_12 rfl rfl ?_
      refine A_aload_n 0 d_Score_voiceAt_13 rfl rfl ?_
      refine A_getAv (z := some (a0 + 1)) T_ok d_Score_voiceAt_14 f_Score_11 (hs_S hb0 ha0) (hr_S_0 hb0 ha0) ?_
      refine A_alenN d_Score_voiceAt_17 (hs_S_0 hb0 ha0) (by decide) (by decide) ?_
      refine A_icmp_ge (tgt := 30) d_Score_voiceAt_18 (by decide) (fun c => ?_) (fun c => ?_)
      · replace H := H.1 c
        refine A_pc (pc' := 30) rfl ?_
        refine A_free (L' := [none, none]) trivial ?_
        exact b_Score_voiceAt_30 ha0   hb0 H
      · replace H := H.2 c
        refine A_aload_n 0 d_Score_voiceAt_21 rfl rfl ?_
        refine A_getAv (z := some (a0 + 1)) T_ok d_Score_voiceAt_22 f_Score_11 (hs_S hb0 ha0) (hr_S_0 hb0 ha0) ?_
        refine A_iload_n 1 d_Score_voiceAt_25 rfl rfl ?_
        have g5 := H.1
        replace H := H.2
        refine A_aaloadn (S := fun o => o = some (a0 + 7 + 14 * (a1).toNat)) d_Score_voiceAt_26 (hs_S_0 hb0 ha0) g5.1 g5.2 (hr_Sv hb0 ha0 g5.1 g5.2) (fun ox4 qx4 => ?_)
        subst qx4
        refine A_goto (tgt := 31) d_Score_voiceAt_27 (by decide) ?_
        exact A_aret d_Score_voiceAt_31 (by decide) rfl ty_o H
theorem c_Score_voiceAt {G : cx_T} {s : Nat} {a0 : Nat} {a1 : Int} (ha0 : isS a0) {h : ah_T} {Q : Option av_T → ah_T → Prop} (hb0 : hb s h) (H : i32 a1 → B_Score_voiceAt_0 G s a0 a1 h Q ) : con G 0 0 0 m_Score_voiceAt [av_R (some a0), av_I a1] h Q := by
  have hS : isS s := hb0.2.1
  refine con_of (L := [some (av_R (some a0)), some (av_I a1)]) (by decide +kernel) (Nat.le_of_ble_eq_true rfl) rfl ?_
  refine A_locI 1 rfl (fun ra1 => ?_)
  exact b_Score_voiceAt_0 ha0  hb0 (H ra1)
def B_Score_addToLine_0 (G : cx_T) (s : Nat) (a1 : Int) (h : ah_T) (Q : Option av_T → ah_T → Prop) : Prop :=
 ∀ x1 : Int, x1 = h.2.1 s 6 → -2147483648 ≤ x1 → x1 ≤ 2147483647 → ((x1 < 8 → (0 ≤ x1 ∧ x1 < 8) ∧ ∀ h6 : ah_T, h6 = st_i h (s + 2) (x1).toNat a1 → ((-2147483648) ≤ (x1 + 1) ∧ (x1 + 1) ≤ 2147483647) ∧ ∀ h10 : ah_T, h10 = st_i h6 s 6 (x1 + 1) → Q (some (av_I 1)) h10) ∧ (¬ x1 < 8 → Q (some (av_I 0)) h))
theorem b_Score_addToLine_0 {G : cx_T} {s : Nat} {a1 : Int} {h : ah_T} {Q : Option av_T → ah_T → Prop} (hb0 : hb s h) (H : B_Score_addToLine_0 G s a1 h Q ) : aw G (rm_R 0 0 0) m_Score_addToLine 0 0 0 [some (av_R (some s)), some (av_I a1)] [] h Q := by
  unfold B_Score_addToLine_0 at H
  have hS : isS s := hb0.2.1
  refine A_aload_n 0 d_Score_addToLine_0 rfl rfl ?_
  refine A_getIf T_ok d_Score_addToLine_1 f_Score_48 (hs_S hb0 hS) (fun x1 ex1 lx1 ux1 => ?_)
  replace H := H x1 ex1 lx1 ux1
  refine A_aload_n 0 d_Score_addToLine_4 rfl rfl ?_
  refine A_getAv (z := some (s + 2)) T_ok d_Score_addToLine_5 f_Score_24 (hs_S hb0 hS) (hr_S_5 hb0 hS) ?_
  refine A_alenN d_Score_addToLine_8 (hs_S_5 hb0 hS) (by decide) (by decide) ?_
  refine A_pc (pc' := 9) rfl ?_
  refine A_icmp_lt (tgt := 14) d_Score_addToLine_9 (by decide) (fun c => ?_) (fun c => ?_)
  · replace H := H.1 c
    refine A_aload_n 0 d_Score_addToLine_14 rfl rfl ?_
    refine A_getAv (z := some (s + 2)) T_ok d_Score_addToLine_15 f_Score_24 (hs_S hb0 hS) (hr_S_5 hb0 hS) ?_
    refine A_aload_n 0 d_Score_addToLine_18 rfl rfl ?_
    refine A_getIv (z := x1) T_ok d_Score_addToLine_19 f_Score_48 (hs_S hb0 hS) ex1.symm ?_
    refine A_iload_n 1 d_Score_addToLine_22 rfl rfl ?_
    refine A_pc (pc' := 23) rfl ?_
    have g5 := H.1
    replace H := H.2
    refine A_iastoreN d_Score_addToLine_23 (hs_S_5 hb0 hS) g5.1 g5.2 ?_
    refine A_hn (fun h6 eh6 => ?_)
    have hb7 := hb_i hb0 eh6
    replace H := H h6 eh6
    refine A_aload_n 0 d_Score_addToLine_24 rfl rfl ?_
    refine A_dupR d_Score_addToLine_25 ?_
    refine A_getIv (z := x1) T_ok d_Score_addToLine_26 f_Score_48 (hs_S hb7 hS) ((mm_i eh6 (fun q => by have := q.1; omega)).trans ex1.symm) ?_
    refine A_iconst d_Score_addToLine_29 rfl ?_
    have g9 := H.1
    replace H := H.2
    refine A_iaddv (z := (x1 + 1)) d_Score_addToLine_30 (w32_to (by omega) (by unfold i32; omega)) ?_
    refine A_pc (pc' := 31) rfl ?_
    refine A_putI T_ok d_Score_addToLine_31 f_Score_48 (hs_S hb7 hS) fin_f ?_
    refine A_hn (fun h10 eh10 => ?_)
    have hb11 := hb_i hb7 eh10
    replace H := H h10 eh10
    refine A_iconst d_Score_addToLine_34 rfl ?_
    exact A_zret d_Score_addToLine_35 (by decide) rfl (by decide) H
  · replace H := H.2 c
    refine A_iconst d_Score_addToLine_12 rfl ?_
    exact A_zret d_Score_addToLine_13 (by decide) rfl (by decide) H
theorem c_Score_addToLine {G : cx_T} {s : Nat} {a1 : Int} {h : ah_T} {Q : Option av_T → ah_T → Prop} (hb0 : hb s h) (H : i32 a1 → B_Score_addToLine_0 G s a1 h Q ) : con G 0 0 0 m_Score_addToLine [av_R (some s), av_I a1] h Q := by
  have hS : isS s := hb0.2.1
  refine con_of (L := [some (av_R (some s)), some (av_I a1)]) (by decide +kernel) (Nat.le_of_ble_eq_true rfl) rfl ?_
  refine A_locI 1 rfl (fun ra1 => ?_)
  exact b_Score_addToLine_0   hb0 (H ra1)
def B_Score_addRule_52 (G : cx_T) (s : Nat) (a1 : Int) (a2 : Int) (a3 : Int) (h : ah_T) (Q : Option av_T → ah_T → Prop) : Prop :=
 Q none h
theorem b_Score_addRule_52 {G : cx_T} {s : Nat} {a1 : Int} {a2 : Int} {a3 : Int} {h : ah_T} {Q : Option av_T → ah_T → Prop} (hb0 : hb s h) (H : B_Score_addRule_52 G s a1 a2 a3 h Q ) : aw G (rm_R 0 0 0) m_Score_addRule 0 0 52 [none, none, none, none] [] h Q := by
  unfold B_Score_addRule_52 at H
  have hS : isS s := hb0.2.1
  exact A_vret d_Score_addRule_52 (by decide) rfl H
def B_Score_addRule_0 (G : cx_T) (s : Nat) (a1 : Int) (a2 : Int) (a3 : Int) (h : ah_T) (Q : Option av_T → ah_T → Prop) : Prop :=
 ∀ x1 : Int, x1 = h.2.1 s 10 → -2147483648 ≤ x1 → x1 ≤ 2147483647 → ((24 ≤ x1 → B_Score_addRule_52 G s a1 a2 a3 h Q ) ∧ (¬ 24 ≤ x1 → (0 ≤ x1 ∧ x1 < 24) ∧ ∀ h6 : ah_T, h6 = st_i h (s + 3) (x1).toNat a1 → ∀ h10 : ah_T, h10 = st_i h6 (s + 4) (x1).toNat a2 → ∀ h14 : ah_T, h14 = st_i h10 (s + 5) (x1).toNat a3 → ((-2147483648) ≤ (x1 + 1) ∧ (x1 + 1) ≤ 2147483647) ∧ ∀ h18 : ah_T, h18 = st_i h14 s 10 (x1 + 1) → B_Score_addRule_52 G s a1 a2 a3 h18 Q ))
theorem b_Score_addRule_0 {G : cx_T} {s : Nat} {a1 : Int} {a2 : Int} {a3 : Int} {h : ah_T} {Q : Option av_T → ah_T → Prop} (hb0 : hb s h) (H : B_Score_addRule_0 G s a1 a2 a3 h Q ) : aw G (rm_R 0 0 0) m_Score_addRule 0 0 0 [some (av_R (some s)), some (av_I a1), some (av_I a2), some (av_I a3)] [] h Q := by
  unfold B_Score_addRule_0 at H
  have hS : isS s := hb0.2.1
  refine A_aload_n 0 d_Score_addRule_0 rfl rfl ?_
  refine A_getIf T_ok d_Score_addRule_1 f_Score_51 (hs_S hb0 hS) (fun x1 ex1 lx1 ux1 => ?_)
  replace H := H x1 ex1 lx1 ux1
  refine A_aload_n 0 d_Score_addRule_4 rfl rfl ?_
  refine A_getAv (z := some (s + 3)) T_ok d_Score_addRule_5 f_Score_28 (hs_S hb0 hS) (hr_S_7 hb0 hS) ?_
  refine A_alenN d_Score_addRule_8 (hs_S_7 hb0 hS) (by decide) (by decide) ?_
  refine A_pc (pc' := 9) rfl ?_
  refine A_icmp_ge (tgt := 52) d_Score_addRule_9 (by decide) (fun c => ?_) (fun c => ?_)
  · replace H := H.1 c
    refine A_pc (pc' := 52) rfl ?_
    refine A_free (L' := [none, none, none, none]) trivial ?_
    exact b_Score_addRule_52    hb0 H
  · replace H := H.2 c
    refine A_aload_n 0 d_Score_addRule_12 rfl rfl ?_
    refine A_getAv (z := some (s + 3)) T_ok d_Score_addRule_13 f_Score_28 (hs_S hb0 hS) (hr_S_7 hb0 hS) ?_
    refine A_aload_n 0 d_Score_addRule_16 rfl rfl ?_
    refine A_getIv (z := x1) T_ok d_Score_addRule_17 f_Score_51 (hs_S hb0 hS) ex1.symm ?_
    refine A_iload_n 1 d_Score_addRule_20 rfl rfl ?_
    refine A_pc (pc' := 21) rfl ?_
    have g5 := H.1
    replace H := H.2
    refine A_iastoreN d_Score_addRule_21 (hs_S_7 hb0 hS) g5.1 g5.2 ?_
    refine A_hn (fun h6 eh6 => ?_)
    have hb7 := hb_i hb0 eh6
    replace H := H h6 eh6
    refine A_aload_n 0 d_Score_addRule_22 rfl rfl ?_
    refine A_getAv (z := some (s + 4)) T_ok d_Score_addRule_23 f_Score_31 (hs_S hb7 hS) (hr_S_8 hb7 hS) ?_
    refine A_aload_n 0 d_Score_addRule_26 rfl rfl ?_
    refine A_getIv (z := x1) T_ok d_Score_addRule_27 f_Score_51 (hs_S hb7 hS) ((mm_i eh6 (fun q => by have := q.1; omega)).trans ex1.symm) ?_
    refine A_iload_n 2 d_Score_addRule_30 rfl rfl ?_
    refine A_pc (pc' := 31) rfl ?_
    refine A_iastoreN d_Score_addRule_31 (hs_S_8 hb7 hS) g5.1 g5.2 ?_
    refine A_hn (fun h10 eh10 => ?_)
    have hb11 := hb_i hb7 eh10
    replace H := H h10 eh10
    refine A_aload_n 0 d_Score_addRule_32 rfl rfl ?_
    refine A_getAv (z := some (s + 5)) T_ok d_Score_addRule_33 f_Score_34 (hs_S hb11 hS) (hr_S_9 hb11 hS) ?_
    refine A_aload_n 0 d_Score_addRule_36 rfl rfl ?_
    refine A_getIv (z := x1) T_ok d_Score_addRule_37 f_Score_51 (hs_S hb11 hS) ((mm_i eh10 (fun q => by have := q.1; omega)).trans ((mm_i eh6 (fun q => by have := q.1; omega)).trans ex1.symm)) ?_
    refine A_iload_n 3 d_Score_addRule_40 rfl rfl ?_
    refine A_pc (pc' := 41) rfl ?_
    refine A_iastoreN d_Score_addRule_41 (hs_S_9 hb11 hS) g5.1 g5.2 ?_
    refine A_hn (fun h14 eh14 => ?_)
    have hb15 := hb_i hb11 eh14
    replace H := H h14 eh14
    refine A_aload_n 0 d_Score_addRule_42 rfl rfl ?_
    refine A_dupR d_Score_addRule_43 ?_
    refine A_getIv (z := x1) T_ok d_Score_addRule_44 f_Score_51 (hs_S hb15 hS) ((mm_i eh14 (fun q => by have := q.1; omega)).trans ((mm_i eh10 (fun q => by have := q.1; omega)).trans ((mm_i eh6 (fun q => by have := q.1; omega)).trans ex1.symm))) ?_
    refine A_iconst d_Score_addRule_47 rfl ?_
    have g17 := H.1
    replace H := H.2
    refine A_iaddv (z := (x1 + 1)) d_Score_addRule_48 (w32_to (by omega) (by unfold i32; omega)) ?_
    refine A_pc (pc' := 49) rfl ?_
    refine A_putI T_ok d_Score_addRule_49 f_Score_51 (hs_S hb15 hS) fin_f ?_
    refine A_hn (fun h18 eh18 => ?_)
    have hb19 := hb_i hb15 eh18
    replace H := H h18 eh18
    refine A_pc (pc' := 52) rfl ?_
    refine A_free (L' := [none, none, none, none]) trivial ?_
    exact b_Score_addRule_52    hb19 H
theorem c_Score_addRule {G : cx_T} {s : Nat} {a1 : Int} {a2 : Int} {a3 : Int} {h : ah_T} {Q : Option av_T → ah_T → Prop} (hb0 : hb s h) (H : i32 a1 → i32 a2 → i32 a3 → B_Score_addRule_0 G s a1 a2 a3 h Q ) : con G 0 0 0 m_Score_addRule [av_R (some s), av_I a1, av_I a2, av_I a3] h Q := by
  have hS : isS s := hb0.2.1
  refine con_of (L := [some (av_R (some s)), some (av_I a1), some (av_I a2), some (av_I a3)]) (by decide +kernel) (Nat.le_of_ble_eq_true rfl) rfl ?_
  refine A_locI 1 rfl (fun ra1 => ?_)
  refine A_locI 2 rfl (fun ra2 => ?_)
  refine A_locI 3 rfl (fun ra3 => ?_)
  exact b_Score_addRule_0   hb0 (H ra1 ra2 ra3)
def B_Score_addToRow_32 (G : cx_T) (s : Nat) (a1 : Int) (h : ah_T) (Q : Option av_T → ah_T → Prop) : Prop :=
 Q none h
theorem b_Score_addToRow_32 {G : cx_T} {s : Nat} {a1 : Int} {h : ah_T} {Q : Option av_T → ah_T → Prop} (hb0 : hb s h) (H : B_Score_addToRow_32 G s a1 h Q ) : aw G (rm_R 0 0 0) m_Score_addToRow 0 0 32 [none, none] [] h Q := by
  unfold B_Score_addToRow_32 at H
  have hS : isS s := hb0.2.1
  exact A_vret d_Score_addToRow_32 (by decide) rfl H
def B_Score_addToRow_0 (G : cx_T) (s : Nat) (a1 : Int) (h : ah_T) (Q : Option av_T → ah_T → Prop) : Prop :=
 ∀ x1 : Int, x1 = h.2.1 s 12 → -2147483648 ≤ x1 → x1 ≤ 2147483647 → ((12 ≤ x1 → B_Score_addToRow_32 G s a1 h Q ) ∧ (¬ 12 ≤ x1 → (0 ≤ x1 ∧ x1 < 12) ∧ ∀ h6 : ah_T, h6 = st_i h (s + 6) (x1).toNat a1 → ((-2147483648) ≤ (x1 + 1) ∧ (x1 + 1) ≤ 2147483647) ∧ ∀ h10 : ah_T, h10 = st_i h6 s 12 (x1 + 1) → B_Score_addToRow_32 G s a1 h10 Q ))
theorem b_Score_addToRow_0 {G : cx_T} {s : Nat} {a1 : Int} {h : ah_T} {Q : Option av_T → ah_T → Prop} (hb0 : hb s h) (H : B_Score_addToRow_0 G s a1 h Q ) : aw G (rm_R 0 0 0) m_Score_addToRow 0 0 0 [some (av_R (some s)), some (av_I a1)] [] h Q := by
  unfold B_Score_addToRow_0 at H
  have hS : isS s := hb0.2.1
  refine A_aload_n 0 d_Score_addToRow_0 rfl rfl ?_
  refine A_getIf T_ok d_Score_addToRow_1 f_Score_54 (hs_S hb0 hS) (fun x1 ex1 lx1 ux1 => ?_)
  replace H := H x1 ex1 lx1 ux1
  refine A_aload_n 0 d_Score_addToRow_4 rfl rfl ?_
  refine A_getAv (z := some (s + 6)) T_ok d_Score_addToRow_5 f_Score_37 (hs_S hb0 hS) (hr_S_11 hb0 hS) ?_
  refine A_alenN d_Score_addToRow_8 (hs_S_11 hb0 hS) (by decide) (by decide) ?_
  refine A_pc (pc' := 9) rfl ?_
  refine A_icmp_ge (tgt := 32) d_Score_addToRow_9 (by decide) (fun c => ?_) (fun c => ?_)
  · replace H := H.1 c
    refine A_pc (pc' := 32) rfl ?_
    refine A_free (L' := [none, none]) trivial ?_
    exact b_Score_addToRow_32    hb0 H
  · replace H := H.2 c
    refine A_aload_n 0 d_Score_addToRow_12 rfl rfl ?_
    refine A_getAv (z := some (s + 6)) T_ok d_Score_addToRow_13 f_Score_37 (hs_S hb0 hS) (hr_S_11 hb0 hS) ?_
    refine A_aload_n 0 d_Score_addToRow_16 rfl rfl ?_
    refine A_getIv (z := x1) T_ok d_Score_addToRow_17 f_Score_54 (hs_S hb0 hS) ex1.symm ?_
    refine A_iload_n 1 d_Score_addToRow_20 rfl rfl ?_
    refine A_pc (pc' := 21) rfl ?_
    have g5 := H.1
    replace H := H.2
    refine A_iastoreN d_Score_addToRow_21 (hs_S_11 hb0 hS) g5.1 g5.2 ?_
    refine A_hn (fun h6 eh6 => ?_)
    have hb7 := hb_i hb0 eh6
    replace H := H h6 eh6
    refine A_aload_n 0 d_Score_addToRow_22 rfl rfl ?_
    refine A_dupR d_Score_addToRow_23 ?_
    refine A_getIv (z := x1) T_ok d_Score_addToRow_24 f_Score_54 (hs_S hb7 hS) ((mm_i eh6 (fun q => by have := q.1; omega)).trans ex1.symm) ?_
    refine A_iconst d_Score_addToRow_27 rfl ?_
    have g9 := H.1
    replace H := H.2
    refine A_iaddv (z := (x1 + 1)) d_Score_addToRow_28 (w32_to (by omega) (by unfold i32; omega)) ?_
    refine A_pc (pc' := 29) rfl ?_
    refine A_putI T_ok d_Score_addToRow_29 f_Score_54 (hs_S hb7 hS) fin_f ?_
    refine A_hn (fun h10 eh10 => ?_)
    have hb11 := hb_i hb7 eh10
    replace H := H h10 eh10
    refine A_pc (pc' := 32) rfl ?_
    refine A_free (L' := [none, none]) trivial ?_
    exact b_Score_addToRow_32    hb11 H
theorem c_Score_addToRow {G : cx_T} {s : Nat} {a1 : Int} {h : ah_T} {Q : Option av_T → ah_T → Prop} (hb0 : hb s h) (H : i32 a1 → B_Score_addToRow_0 G s a1 h Q ) : con G 0 0 0 m_Score_addToRow [av_R (some s), av_I a1] h Q := by
  have hS : isS s := hb0.2.1
  refine con_of (L := [some (av_R (some s)), some (av_I a1)]) (by decide +kernel) (Nat.le_of_ble_eq_true rfl) rfl ?_
  refine A_locI 1 rfl (fun ra1 => ?_)
  exact b_Score_addToRow_0   hb0 (H ra1)
def B_Score_allEvents_31 (G : cx_T) (s : Nat) (a0 : Nat) (v2 : Int) (t0 : Int) (t1 : Int) (h : ah_T) (Q : Option av_T → ah_T → Prop) (X4 : Int → Int → ah_T → Prop) : Prop :=
 ((-2147483648) ≤ (t0 + t1) ∧ (t0 + t1) ≤ 2147483647) ∧ ((-2147483648) ≤ (v2 + 1) ∧ (v2 + 1) ≤ 2147483647) ∧ X4 ((t0 + t1)) ((v2 + 1)) h
theorem b_Score_allEvents_31 {G : cx_T} {s : Nat} {a0 : Nat} (ha0 : isS a0) {v2 : Int} {t0 : Int} {t1 : Int} {h : ah_T} {Q : Option av_T → ah_T → Prop} {X4 : Int → Int → ah_T → Prop} (hX4 : ∀ (v1 : Int) (v2 : Int) (h : ah_T), hb s h → X4 v1 v2 h → aw G (rm_R 1 0 0) m_Score_allEvents 0 0 4 [some (av_R (some a0)), some (av_I v1), some (av_I v2), none] [] h Q) (hb0 : hb s h) (H : B_Score_allEvents_31 G s a0 v2 t0 t1 h Q X4) : aw G (rm_R 1 0 0) m_Score_allEvents 0 0 31 [some (av_R (some a0)), none, some (av_I v2), none] [av_I t1, av_I t0] h Q := by
  unfold B_Score_allEvents_31 at H
  have hS : isS s := hb0.2.1
  have g1 := H.1
  replace H := H.2
  refine A_iaddv (z := (t0 + t1)) d_Score_allEvents_31 (w32_to (by omega) (by unfold i32; omega)) ?_
  refine A_istore_n 1 (L' := [some (av_R (some a0)), some (av_I (t0 + t1)), some (av_I v2), none]) d_Score_allEvents_32 rfl (Nat.le_of_ble_eq_true rfl) rfl ?_
  have g2 := H.1
  replace H := H.2
  refine A_iincv (z := (v2 + 1)) (L' := [some (av_R (some a0)), some (av_I (t0 + t1)), some (av_I (v2 + 1)), none]) d_Score_allEvents_33 rfl (w32_to (by omega) (by unfold i32; omega)) rfl ?_
  refine A_goto (tgt := 4) d_Score_allEvents_36 (by decide) ?_
  refine A_pc (pc' := 4) rfl ?_
  exact hX4 ((t0 + t1)) ((v2 + 1)) h  hb0 H
def B_Score_allEvents_4 (G : cx_T) (s : Nat) (a0 : Nat) (v1 : Int) (v2 : Int) (h : ah_T) (Q : Option av_T → ah_T → Prop) (X4 : Int → Int → ah_T → Prop) : Prop :=
 ∀ x1 : Int, x1 = h.2.1 a0 1 → -2147483648 ≤ x1 → x1 ≤ 2147483647 → ((x1 ≤ v2 → Q (some (av_I v1)) h) ∧ (¬ x1 ≤ v2 → con G 0 0 0 m_Score_voiceAt [av_R (some a0), av_I v2] h (fun r h2 => ∃ oz4 : Option Nat, r = some (av_R oz4) ∧ hb s h2 ∧ ((oz4 = none ∧ B_Score_allEvents_31 G s a0 (v2) (v1) (0) h2 Q X4) ∨ ∃ z4 : Nat, oz4 = some z4 ∧ isV z4 ∧ ∀ x5 : Int, x5 = h2.2.1 z4 14 → -2147483648 ≤ x5 → x5 ≤ 2147483647 → B_Score_allEvents_31 G s a0 (v2) (v1) (x5) h2 Q X4))))
theorem b_Score_allEvents_4 {G : cx_T} {s : Nat} {a0 : Nat} (ha0 : isS a0) {v1 : Int} {v2 : Int} {h : ah_T} {Q : Option av_T → ah_T → Prop} {X4 : Int → Int → ah_T → Prop} (hX4 : ∀ (v1 : Int) (v2 : Int) (h : ah_T), hb s h → X4 v1 v2 h → aw G (rm_R 1 0 0) m_Score_allEvents 0 0 4 [some (av_R (some a0)), some (av_I v1), some (av_I v2), none] [] h Q) (hb0 : hb s h) (H : B_Score_allEvents_4 G s a0 v1 v2 h Q X4) : aw G (rm_R 1 0 0) m_Score_allEvents 0 0 4 [some (av_R (some a0)), some (av_I v1), some (av_I v2), none] [] h Q := by
  unfold B_Score_allEvents_4 at H
  have hS : isS s := hb0.2.1
  refine A_iload_n 2 d_Score_allEvents_4 rfl rfl ?_
  refine A_aload_n 0 d_Score_allEvents_5 rfl rfl ?_
  refine A_getIf T_ok d_Score_allEvents_6 f_Score_41 (hs_S hb0 ha0) (fun x1 ex1 lx1 ux1 => ?_)
  replace H := H x1 ex1 lx1 ux1
  refine A_icmp_ge (tgt := 39) d_Score_allEvents_9 (by decide) (fun c => ?_) (fun c => ?_)
  · replace H := H.1 c
    refine A_iload_n 1 d_Score_allEvents_39 rfl rfl ?_
    exact A_iret d_Score_allEvents_40 (by decide) rfl H
  · replace H := H.2 c
    refine A_aload_n 0 d_Score_allEvents_12 rfl rfl ?_
    refine A_iload_n 2 d_Score_allEvents_13 rfl rfl ?_
    refine A_callV1 m_Score_voiceAt T_ok d_Score_allEvents_14 l_Score_60 k_Score_voiceAt (hs_S hb0 ha0) rfl (by decide +kernel) (by decide) (Nat.le_of_ble_eq_true rfl) H (fun r h2 hq => ?_)
    clear H
    obtain ⟨oz4, rfl, hb3, H⟩ := hq
    rcases H with ⟨H1, H⟩ | ⟨z4, H1, tz4, H⟩
    · subst H1
      refine A_astore_n 3 (L' := [some (av_R (some a0)), some (av_I v1), some (av_I v2), some (av_R none)]) d_Score_allEvents_17 rfl (Nat.le_of_ble_eq_true rfl) rfl ?_
      refine A_iload_n 1 d_Score_allEvents_18 rfl rfl ?_
      refine A_aload_n 3 d_Score_allEvents_19 rfl rfl ?_
      refine A_ifnonnull (tgt := 27) d_Score_allEvents_20 (by decide) (fun a q => by cases q) (fun _ => ?_)
      refine A_iconst d_Score_allEvents_23 rfl ?_
      refine A_goto (tgt := 31) d_Score_allEvents_24 (by decide) ?_
      refine A_pc (pc' := 31) rfl ?_
      refine A_free (L' := [some (av_R (some a0)), none, some (av_I v2), none]) (And.intro rfl (And.intro rfl trivial)) ?_
      exact b_Score_allEvents_31 ha0 hX4  hb3 H
    · subst H1
      refine A_astore_n 3 (L' := [some (av_R (some a0)), some (av_I v1), some (av_I v2), some (av_R (some z4))]) d_Score_allEvents_17 rfl (Nat.le_of_ble_eq_true rfl) rfl ?_
      refine A_iload_n 1 d_Score_allEvents_18 rfl rfl ?_
      refine A_aload_n 3 d_Score_allEvents_19 rfl rfl ?_
      refine A_ifnonnull (tgt := 27) d_Score_allEvents_20 (by decide) (fun _ _ => ?_) (fun q => by cases q)
      refine A_aload_n 3 d_Score_allEvents_27 rfl rfl ?_
      refine A_getIf T_ok d_Score_allEvents_28 f_Score_64 (hs_V hb3 tz4) (fun x5 ex5 lx5 ux5 => ?_)
      replace H := H x5 ex5 lx5 ux5
      refine A_pc (pc' := 31) rfl ?_
      refine A_free (L' := [some (av_R (some a0)), none, some (av_I v2), none]) (And.intro rfl (And.intro rfl trivial)) ?_
      exact b_Score_allEvents_31 ha0 hX4  hb3 H
theorem lp_Score_allEvents_4 {G : cx_T} {s : Nat} {a0 : Nat} (ha0 : isS a0) {Q : Option av_T → ah_T → Prop} (I : Int → Int → ah_T → Prop) (μ : Int → Int → ah_T → Nat) (hI : ∀ (v1 : Int) (v2 : Int) (h : ah_T), hb s h → I v1 v2 h → B_Score_allEvents_4 G s a0 v1 v2 h Q (fun v1' v2' h' => I v1' v2' h' ∧ μ v1' v2' h' < μ v1 v2 h)) : ∀ (v1 : Int) (v2 : Int) (h : ah_T), hb s h → I v1 v2 h → aw G (rm_R 1 0 0) m_Score_allEvents 0 0 4 [some (av_R (some a0)), some (av_I v1), some (av_I v2), none] [] h Q := by
  have key : ∀ (n : Nat) (v1 : Int) (v2 : Int) (h : ah_T), hb s h → I v1 v2 h → μ v1 v2 h < n → aw G (rm_R 1 0 0) m_Score_allEvents 0 0 4 [some (av_R (some a0)), some (av_I v1), some (av_I v2), none] [] h Q := by
    intro n
    induction n with
    | zero => intro v1 v2 h  hb0 hi hm; omega
    | succ n ih => intro v1 v2 h  hb0 hi hm; exact b_Score_allEvents_4 ha0 (fun v1' v2' h'  hb' hx => ih v1' v2' h'  hb' hx.1 (by have := hx.2; omega))  hb0 (hI v1 v2 h  hb0 hi)
  exact fun v1 v2 h  hb0 hi => key _ v1 v2 h  hb0 hi (Nat.lt_succ_self _)
def B_Score_allEvents_0 (G : cx_T) (s : Nat) (a0 : Nat) (h : ah_T) (Q : Option av_T → ah_T → Prop) (X4 : Int → Int → ah_T → Prop) : Prop :=
 X4 (0) (0) h
theorem b_Score_allEvents_0 {G : cx_T} {s : Nat} {a0 : Nat} (ha0 : isS a0) {h : ah_T} {Q : Option av_T → ah_T → Prop} {X4 : Int → Int → ah_T → Prop} (hX4 : ∀ (v1 : Int) (v2 : Int) (h : ah_T), hb s h → X4 v1 v2 h → aw G (rm_R 1 0 0) m_Score_allEvents 0 0 4 [some (av_R (some a0)), some (av_I v1), some (av_I v2), none] [] h Q) (hb0 : hb s h) (H : B_Score_allEvents_0 G s a0 h Q X4) : aw G (rm_R 1 0 0) m_Score_allEvents 0 0 0 [some (av_R (some a0)), none, none, none] [] h Q := by
  unfold B_Score_allEvents_0 at H
  have hS : isS s := hb0.2.1
  refine A_iconst d_Score_allEvents_0 rfl ?_
  refine A_istore_n 1 (L' := [some (av_R (some a0)), some (av_I 0), none, none]) d_Score_allEvents_1 rfl (Nat.le_of_ble_eq_true rfl) rfl ?_
  refine A_iconst d_Score_allEvents_2 rfl ?_
  refine A_istore_n 2 (L' := [some (av_R (some a0)), some (av_I 0), some (av_I 0), none]) d_Score_allEvents_3 rfl (Nat.le_of_ble_eq_true rfl) rfl ?_
  refine A_pc (pc' := 4) rfl ?_
  exact hX4 (0) (0) h  hb0 H
theorem c_Score_allEvents {G : cx_T} {s : Nat} {a0 : Nat} (ha0 : isS a0) {h : ah_T} {Q : Option av_T → ah_T → Prop} {X4 : Int → Int → ah_T → Prop} (hX4 : ∀ (v1 : Int) (v2 : Int) (h : ah_T), hb s h → X4 v1 v2 h → aw G (rm_R 1 0 0) m_Score_allEvents 0 0 4 [some (av_R (some a0)), some (av_I v1), some (av_I v2), none] [] h Q) (hb0 : hb s h) (H : B_Score_allEvents_0 G s a0 h Q X4) : con G 1 0 0 m_Score_allEvents [av_R (some a0)] h Q := by
  have hS : isS s := hb0.2.1
  refine con_of (L := [some (av_R (some a0)), none, none, none]) (by decide +kernel) (Nat.le_of_ble_eq_true rfl) rfl ?_
  exact b_Score_allEvents_0 ha0 hX4 hb0 (H )
def B_Score_mostBars_31 (G : cx_T) (s : Nat) (a0 : Nat) (v2 : Int) (t0 : Int) (t1 : Int) (h : ah_T) (Q : Option av_T → ah_T → Prop) (X4 : Int → Int → ah_T → Prop) : Prop :=
 ∀ x1 : Int, x1 = (if t0 < t1 then t1 else t0) → -2147483648 ≤ x1 → x1 ≤ 2147483647 → ((-2147483648) ≤ (v2 + 1) ∧ (v2 + 1) ≤ 2147483647) ∧ X4 (x1) ((v2 + 1)) h
theorem b_Score_mostBars_31 {G : cx_T} {s : Nat} {a0 : Nat} (ha0 : isS a0) {v2 : Int} {t0 : Int} {t1 : Int} {h : ah_T} {Q : Option av_T → ah_T → Prop} {X4 : Int → Int → ah_T → Prop} (hX4 : ∀ (v1 : Int) (v2 : Int) (h : ah_T), hb s h → X4 v1 v2 h → aw G (rm_R 1 0 0) m_Score_mostBars 0 0 4 [some (av_R (some a0)), some (av_I v1), some (av_I v2), none] [] h Q) (hb0 : hb s h) (H : B_Score_mostBars_31 G s a0 v2 t0 t1 h Q X4) : aw G (rm_R 1 0 0) m_Score_mostBars 0 0 31 [some (av_R (some a0)), none, some (av_I v2), none] [av_I t1, av_I t0] h Q := by
  unfold B_Score_mostBars_31 at H
  have hS : isS s := hb0.2.1
  refine A_mmax (z := (if t0 < t1 then t1 else t0)) d_Score_mostBars_31 lm_Score_70 ma_max (by decide) (by decide) (Nat.le_of_ble_eq_true rfl) rfl ?_
  refine A_nrI (fun x1 ex1 lx1 ux1 => ?_)
  replace H := H x1 ex1 lx1 ux1
  refine A_istore_n 1 (L' := [some (av_R (some a0)), some (av_I x1), some (av_I v2), none]) d_Score_mostBars_34 rfl (Nat.le_of_ble_eq_true rfl) rfl ?_
  have g2 := H.1
  replace H := H.2
  refine A_iincv (z := (v2 + 1)) (L' := [some (av_R (some a0)), some (av_I x1), some (av_I (v2 + 1)), none]) d_Score_mostBars_35 rfl (w32_to (by omega) (by unfold i32; omega)) rfl ?_
  refine A_goto (tgt := 4) d_Score_mostBars_38 (by decide) ?_
  refine A_pc (pc' := 4) rfl ?_
  exact hX4 (x1) ((v2 + 1)) h  hb0 H
def B_Score_mostBars_4 (G : cx_T) (s : Nat) (a0 : Nat) (v1 : Int) (v2 : Int) (h : ah_T) (Q : Option av_T → ah_T → Prop) (X4 : Int → Int → ah_T → Prop) : Prop :=
 ∀ x1 : Int, x1 = h.2.1 a0 1 → -2147483648 ≤ x1 → x1 ≤ 2147483647 → ((x1 ≤ v2 → Q (some (av_I v1)) h) ∧ (¬ x1 ≤ v2 → con G 0 0 0 m_Score_voiceAt [av_R (some a0), av_I v2] h (fun r h2 => ∃ oz4 : Option Nat, r = some (av_R oz4) ∧ hb s h2 ∧ ((oz4 = none ∧ B_Score_mostBars_31 G s a0 (v2) (v1) (0) h2 Q X4) ∨ ∃ z4 : Nat, oz4 = some z4 ∧ isV z4 ∧ ∀ x5 : Int, x5 = h2.2.1 z4 16 → -2147483648 ≤ x5 → x5 ≤ 2147483647 → B_Score_mostBars_31 G s a0 (v2) (v1) (x5) h2 Q X4))))
theorem b_Score_mostBars_4 {G : cx_T} {s : Nat} {a0 : Nat} (ha0 : isS a0) {v1 : Int} {v2 : Int} {h : ah_T} {Q : Option av_T → ah_T → Prop} {X4 : Int → Int → ah_T → Prop} (hX4 : ∀ (v1 : Int) (v2 : Int) (h : ah_T), hb s h → X4 v1 v2 h → aw G (rm_R 1 0 0) m_Score_mostBars 0 0 4 [some (av_R (some a0)), some (av_I v1), some (av_I v2), none] [] h Q) (hb0 : hb s h) (H : B_Score_mostBars_4 G s a0 v1 v2 h Q X4) : aw G (rm_R 1 0 0) m_Score_mostBars 0 0 4 [some (av_R (some a0)), some (av_I v1), some (av_I v2), none] [] h Q := by
  unfold B_Score_mostBars_4 at H
  have hS : isS s := hb0.2.1
  refine A_iload_n 2 d_Score_mostBars_4 rfl rfl ?_
  refine A_aload_n 0 d_Score_mostBars_5 rfl rfl ?_
  refine A_getIf T_ok d_Score_mostBars_6 f_Score_41 (hs_S hb0 ha0) (fun x1 ex1 lx1 ux1 => ?_)
  replace H := H x1 ex1 lx1 ux1
  refine A_icmp_ge (tgt := 41) d_Score_mostBars_9 (by decide) (fun c => ?_) (fun c => ?_)
  · replace H := H.1 c
    refine A_iload_n 1 d_Score_mostBars_41 rfl rfl ?_
    exact A_iret d_Score_mostBars_42 (by decide) rfl H
  · replace H := H.2 c
    refine A_aload_n 0 d_Score_mostBars_12 rfl rfl ?_
    refine A_iload_n 2 d_Score_mostBars_13 rfl rfl ?_
    refine A_callV1 m_Score_voiceAt T_ok d_Score_mostBars_14 l_Score_60 k_Score_voiceAt (hs_S hb0 ha0) rfl (by decide +kernel) (by decide) (Nat.le_of_ble_eq_true rfl) H (fun r h2 hq => ?_)
    clear H
    obtain ⟨oz4, rfl, hb3, H⟩ := hq
    rcases H with ⟨H1, H⟩ | ⟨z4, H1, tz4, H⟩
    · subst H1
      refine A_astore_n 3 (L' := [some (av_R (some a0)), some (av_I v1), some (av_I v2), some (av_R none)]) d_Score_mostBars_17 rfl (Nat.le_of_ble_eq_true rfl) rfl ?_
      refine A_iload_n 1 d_Score_mostBars_18 rfl rfl ?_
      refine A_aload_n 3 d_Score_mostBars_19 rfl rfl ?_
      refine A_ifnonnull (tgt := 27) d_Score_mostBars_20 (by decide) (fun a q => by cases q) (fun _ => ?_)
      refine A_iconst d_Score_mostBars_23 rfl ?_
      refine A_goto (tgt := 31) d_Score_mostBars_24 (by decide) ?_
      refine A_pc (pc' := 31) rfl ?_
      refine A_free (L' := [some (av_R (some a0)), none, some (av_I v2), none]) (And.intro rfl (And.intro rfl trivial)) ?_
      exact b_Score_mostBars_31 ha0 hX4  hb3 H
    · subst H1
      refine A_astore_n 3 (L' := [some (av_R (some a0)), some (av_I v1), some (av_I v2), some (av_R (some z4))]) d_Score_mostBars_17 rfl (Nat.le_of_ble_eq_true rfl) rfl ?_
      refine A_iload_n 1 d_Score_mostBars_18 rfl rfl ?_
      refine A_aload_n 3 d_Score_mostBars_19 rfl rfl ?_
      refine A_ifnonnull (tgt := 27) d_Score_mostBars_20 (by decide) (fun _ _ => ?_) (fun q => by cases q)
      refine A_aload_n 3 d_Score_mostBars_27 rfl rfl ?_
      refine A_getIf T_ok d_Score_mostBars_28 f_Score_67 (hs_V hb3 tz4) (fun x5 ex5 lx5 ux5 => ?_)
      replace H := H x5 ex5 lx5 ux5
      refine A_pc (pc' := 31) rfl ?_
      refine A_free (L' := [some (av_R (some a0)), none, some (av_I v2), none]) (And.intro rfl (And.intro rfl trivial)) ?_
      exact b_Score_mostBars_31 ha0 hX4  hb3 H
theorem lp_Score_mostBars_4 {G : cx_T} {s : Nat} {a0 : Nat} (ha0 : isS a0) {Q : Option av_T → ah_T → Prop} (I : Int → Int → ah_T → Prop) (μ : Int → Int → ah_T → Nat) (hI : ∀ (v1 : Int) (v2 : Int) (h : ah_T), hb s h → I v1 v2 h → B_Score_mostBars_4 G s a0 v1 v2 h Q (fun v1' v2' h' => I v1' v2' h' ∧ μ v1' v2' h' < μ v1 v2 h)) : ∀ (v1 : Int) (v2 : Int) (h : ah_T), hb s h → I v1 v2 h → aw G (rm_R 1 0 0) m_Score_mostBars 0 0 4 [some (av_R (some a0)), some (av_I v1), some (av_I v2), none] [] h Q := by
  have key : ∀ (n : Nat) (v1 : Int) (v2 : Int) (h : ah_T), hb s h → I v1 v2 h → μ v1 v2 h < n → aw G (rm_R 1 0 0) m_Score_mostBars 0 0 4 [some (av_R (some a0)), some (av_I v1), some (av_I v2), none] [] h Q := by
    intro n
    induction n with
    | zero => intro v1 v2 h  hb0 hi hm; omega
    | succ n ih => intro v1 v2 h  hb0 hi hm; exact b_Score_mostBars_4 ha0 (fun v1' v2' h'  hb' hx => ih v1' v2' h'  hb' hx.1 (by have := hx.2; omega))  hb0 (hI v1 v2 h  hb0 hi)
  exact fun v1 v2 h  hb0 hi => key _ v1 v2 h  hb0 hi (Nat.lt_succ_self _)
def B_Score_mostBars_0 (G : cx_T) (s : Nat) (a0 : Nat) (h : ah_T) (Q : Option av_T → ah_T → Prop) (X4 : Int → Int → ah_T → Prop) : Prop :=
 X4 (0) (0) h
theorem b_Score_mostBars_0 {G : cx_T} {s : Nat} {a0 : Nat} (ha0 : isS a0) {h : ah_T} {Q : Option av_T → ah_T → Prop} {X4 : Int → Int → ah_T → Prop} (hX4 : ∀ (v1 : Int) (v2 : Int) (h : ah_T), hb s h → X4 v1 v2 h → aw G (rm_R 1 0 0) m_Score_mostBars 0 0 4 [some (av_R (some a0)), some (av_I v1), some (av_I v2), none] [] h Q) (hb0 : hb s h) (H : B_Score_mostBars_0 G s a0 h Q X4) : aw G (rm_R 1 0 0) m_Score_mostBars 0 0 0 [some (av_R (some a0)), none, none, none] [] h Q := by
  unfold B_Score_mostBars_0 at H
  have hS : isS s := hb0.2.1
  refine A_iconst d_Score_mostBars_0 rfl ?_
  refine A_istore_n 1 (L' := [some (av_R (some a0)), some (av_I 0), none, none]) d_Score_mostBars_1 rfl (Nat.le_of_ble_eq_true rfl) rfl ?_
  refine A_iconst d_Score_mostBars_2 rfl ?_
  refine A_istore_n 2 (L' := [some (av_R (some a0)), some (av_I 0), some (av_I 0), none]) d_Score_mostBars_3 rfl (Nat.le_of_ble_eq_true rfl) rfl ?_
  refine A_pc (pc' := 4) rfl ?_
  exact hX4 (0) (0) h  hb0 H
theorem c_Score_mostBars {G : cx_T} {s : Nat} {a0 : Nat} (ha0 : isS a0) {h : ah_T} {Q : Option av_T → ah_T → Prop} {X4 : Int → Int → ah_T → Prop} (hX4 : ∀ (v1 : Int) (v2 : Int) (h : ah_T), hb s h → X4 v1 v2 h → aw G (rm_R 1 0 0) m_Score_mostBars 0 0 4 [some (av_R (some a0)), some (av_I v1), some (av_I v2), none] [] h Q) (hb0 : hb s h) (H : B_Score_mostBars_0 G s a0 h Q X4) : con G 1 0 0 m_Score_mostBars [av_R (some a0)] h Q := by
  have hS : isS s := hb0.2.1
  refine con_of (L := [some (av_R (some a0)), none, none, none]) (by decide +kernel) (Nat.le_of_ble_eq_true rfl) rfl ?_
  exact b_Score_mostBars_0 ha0 hX4 hb0 (H )
def B_Voice_clear_0 (G : cx_T) (s : Nat) (a0 : Nat) (h : ah_T) (Q : Option av_T → ah_T → Prop) : Prop :=
 ∀ h1 : ah_T, h1 = st_i h a0 2 0 → ∀ h3 : ah_T, h3 = st_i h1 a0 7 0 → ∀ h6 : ah_T, h6 = st_i h3 (a0 + 3) 0 0 → Q none h6
theorem b_Voice_clear_0 {G : cx_T} {s : Nat} {a0 : Nat} (ha0 : isV a0) {h : ah_T} {Q : Option av_T → ah_T → Prop} (hb0 : hb s h) (H : B_Voice_clear_0 G s a0 h Q ) : aw G (rm_R 0 0 0) m_Voice_clear 0 0 0 [some (av_R (some a0))] [] h Q := by
  unfold B_Voice_clear_0 at H
  have hS : isS s := hb0.2.1
  refine A_aload_n 0 d_Voice_clear_0 rfl rfl ?_
  refine A_iconst d_Voice_clear_1 rfl ?_
  refine A_putI T_ok d_Voice_clear_2 f_Voice_53 (hs_V hb0 ha0) fin_f ?_
  refine A_hn (fun h1 eh1 => ?_)
  have hb2 := hb_i hb0 eh1
  replace H := H h1 eh1
  refine A_aload_n 0 d_Voice_clear_5 rfl rfl ?_
  refine A_iconst d_Voice_clear_6 rfl ?_
  refine A_pc (pc' := 7) rfl ?_
  refine A_putI T_ok d_Voice_clear_7 f_Voice_57 (hs_V hb2 ha0) fin_f ?_
  refine A_hn (fun h3 eh3 => ?_)
  have hb4 := hb_i hb2 eh3
  replace H := H h3 eh3
  refine A_aload_n 0 d_Voice_clear_10 rfl rfl ?_
  refine A_getAv (z := some (a0 + 3)) T_ok d_Voice_clear_11 f_Voice_18 (hs_V hb4 ha0) (hr_V_3 hb4 ha0) ?_
  refine A_iconst d_Voice_clear_14 rfl ?_
  refine A_iconst d_Voice_clear_15 rfl ?_
  refine A_iastoreN d_Voice_clear_16 (hs_V_3 hb4 ha0) (by decide) (by decide) ?_
  refine A_hn (fun h6 eh6 => ?_)
  have hb7 := hb_i hb4 eh6
  replace H := H h6 eh6
  refine A_pc (pc' := 17) rfl ?_
  exact A_vret d_Voice_clear_17 (by decide) rfl H
theorem c_Voice_clear {G : cx_T} {s : Nat} {a0 : Nat} (ha0 : isV a0) {h : ah_T} {Q : Option av_T → ah_T → Prop} (hb0 : hb s h) (H : B_Voice_clear_0 G s a0 h Q ) : con G 0 0 0 m_Voice_clear [av_R (some a0)] h Q := by
  have hS : isS s := hb0.2.1
  refine con_of (L := [some (av_R (some a0))]) (by decide +kernel) (Nat.le_of_ble_eq_true rfl) rfl ?_
  exact b_Voice_clear_0 ha0  hb0 (H )
def B_Voice_addPitch_42 (G : cx_T) (s : Nat) (a0 : Nat) (a1 : Int) (a2 : Int) (h : ah_T) (Q : Option av_T → ah_T → Prop) : Prop :=
 Q none h
theorem b_Voice_addPitch_42 {G : cx_T} {s : Nat} {a0 : Nat} {a1 : Int} {a2 : Int} (ha0 : isV a0) {h : ah_T} {Q : Option av_T → ah_T → Prop} (hb0 : hb s h) (H : B_Voice_addPitch_42 G s a0 a1 a2 h Q ) : aw G (rm_R 0 0 0) m_Voice_addPitch 0 0 42 [none, none, none] [] h Q := by
  unfold B_Voice_addPitch_42 at H
  have hS : isS s := hb0.2.1
  exact A_vret d_Voice_addPitch_42 (by decide) rfl H
def B_Voice_addPitch_0 (G : cx_T) (s : Nat) (a0 : Nat) (a1 : Int) (a2 : Int) (h : ah_T) (Q : Option av_T → ah_T → Prop) : Prop :=
 ∀ x1 : Int, x1 = h.2.1 a0 2 → -2147483648 ≤ x1 → x1 ≤ 2147483647 → ((300 ≤ x1 → B_Voice_addPitch_42 G s a0 a1 a2 h Q ) ∧ (¬ 300 ≤ x1 → (0 ≤ x1 ∧ x1 < 300) ∧ ∀ h6 : ah_T, h6 = st_i h (a0 + 1) (x1).toNat a1 → ∀ h10 : ah_T, h10 = st_i h6 (a0 + 2) (x1).toNat a2 → ((-2147483648) ≤ (x1 + 1) ∧ (x1 + 1) ≤ 2147483647) ∧ ∀ h14 : ah_T, h14 = st_i h10 a0 2 (x1 + 1) → B_Voice_addPitch_42 G s a0 a1 a2 h14 Q ))
theorem b_Voice_addPitch_0 {G : cx_T} {s : Nat} {a0 : Nat} {a1 : Int} {a2 : Int} (ha0 : isV a0) {h : ah_T} {Q : Option av_T → ah_T → Prop} (hb0 : hb s h) (H : B_Voice_addPitch_0 G s a0 a1 a2 h Q ) : aw G (rm_R 0 0 0) m_Voice_addPitch 0 0 0 [some (av_R (some a0)), some (av_I a1), some (av_I a2)] [] h Q := by
  unfold B_Voice_addPitch_0 at H
  have hS : isS s := hb0.2.1
  refine A_aload_n 0 d_Voice_addPitch_0 rfl rfl ?_
  refine A_getIf T_ok d_Voice_addPitch_1 f_Voice_53 (hs_V hb0 ha0) (fun x1 ex1 lx1 ux1 => ?_)
  replace H := H x1 ex1 lx1 ux1
  refine A_aload_n 0 d_Voice_addPitch_4 rfl rfl ?_
  refine A_getAv (z := some (a0 + 1)) T_ok d_Voice_addPitch_5 f_Voice_9 (hs_V hb0 ha0) (hr_V_0 hb0 ha0) ?_
  refine A_alenN d_Voice_addPitch_8 (hs_V_0 hb0 ha0) (by decide) (by decide) ?_
  refine A_pc (pc' := 9) rfl ?_
  refine A_icmp_ge (tgt := 42) d_Voice_addPitch_9 (by decide) (fun c => ?_) (fun c => ?_)
  · replace H := H.1 c
    refine A_pc (pc' := 42) rfl ?_
    refine A_free (L' := [none, none, none]) trivial ?_
    exact b_Voice_addPitch_42 ha0   hb0 H
  · replace H := H.2 c
    refine A_aload_n 0 d_Voice_addPitch_12 rfl rfl ?_
    refine A_getAv (z := some (a0 + 1)) T_ok d_Voice_addPitch_13 f_Voice_9 (hs_V hb0 ha0) (hr_V_0 hb0 ha0) ?_
    refine A_aload_n 0 d_Voice_addPitch_16 rfl rfl ?_
    refine A_getIv (z := x1) T_ok d_Voice_addPitch_17 f_Voice_53 (hs_V hb0 ha0) ex1.symm ?_
    refine A_iload_n 1 d_Voice_addPitch_20 rfl rfl ?_
    refine A_pc (pc' := 21) rfl ?_
    have g5 := H.1
    replace H := H.2
    refine A_iastoreN d_Voice_addPitch_21 (hs_V_0 hb0 ha0) g5.1 g5.2 ?_
    refine A_hn (fun h6 eh6 => ?_)
    have hb7 := hb_i hb0 eh6
    replace H := H h6 eh6
    refine A_aload_n 0 d_Voice_addPitch_22 rfl rfl ?_
    refine A_getAv (z := some (a0 + 2)) T_ok d_Voice_addPitch_23 f_Voice_15 (hs_V hb7 ha0) (hr_V_1 hb7 ha0) ?_
    refine A_aload_n 0 d_Voice_addPitch_26 rfl rfl ?_
    refine A_getIv (z := x1) T_ok d_Voice_addPitch_27 f_Voice_53 (hs_V hb7 ha0) ((mm_i eh6 (fun q => by have := q.1; omega)).trans ex1.symm) ?_
    refine A_iload_n 2 d_Voice_addPitch_30 rfl rfl ?_
    refine A_pc (pc' := 31) rfl ?_
    refine A_iastoreN d_Voice_addPitch_31 (hs_V_1 hb7 ha0) g5.1 g5.2 ?_
    refine A_hn (fun h10 eh10 => ?_)
    have hb11 := hb_i hb7 eh10
    replace H := H h10 eh10
    refine A_aload_n 0 d_Voice_addPitch_32 rfl rfl ?_
    refine A_dupR d_Voice_addPitch_33 ?_
    refine A_getIv (z := x1) T_ok d_Voice_addPitch_34 f_Voice_53 (hs_V hb11 ha0) ((mm_i eh10 (fun q => by have := q.1; omega)).trans ((mm_i eh6 (fun q => by have := q.1; omega)).trans ex1.symm)) ?_
    refine A_iconst d_Voice_addPitch_37 rfl ?_
    have g13 := H.1
    replace H := H.2
    refine A_iaddv (z := (x1 + 1)) d_Voice_addPitch_38 (w32_to (by omega) (by unfold i32; omega)) ?_
    refine A_pc (pc' := 39) rfl ?_
    refine A_putI T_ok d_Voice_addPitch_39 f_Voice_53 (hs_V hb11 ha0) fin_f ?_
    refine A_hn (fun h14 eh14 => ?_)
    have hb15 := hb_i hb11 eh14
    replace H := H h14 eh14
    refine A_pc (pc' := 42) rfl ?_
    refine A_free (L' := [none, none, none]) trivial ?_
    exact b_Voice_addPitch_42 ha0   hb15 H
theorem c_Voice_addPitch {G : cx_T} {s : Nat} {a0 : Nat} {a1 : Int} {a2 : Int} (ha0 : isV a0) {h : ah_T} {Q : Option av_T → ah_T → Prop} (hb0 : hb s h) (H : i32 a1 → i32 a2 → B_Voice_addPitch_0 G s a0 a1 a2 h Q ) : con G 0 0 0 m_Voice_addPitch [av_R (some a0), av_I a1, av_I a2] h Q := by
  have hS : isS s := hb0.2.1
  refine con_of (L := [some (av_R (some a0)), some (av_I a1), some (av_I a2)]) (by decide +kernel) (Nat.le_of_ble_eq_true rfl) rfl ?_
  refine A_locI 1 rfl (fun ra1 => ?_)
  refine A_locI 2 rfl (fun ra2 => ?_)
  exact b_Voice_addPitch_0 ha0  hb0 (H ra1 ra2)
def B_Voice_endSound_0 (G : cx_T) (s : Nat) (a0 : Nat) (a1 : Int) (a2 : Int) (a3 : Int) (h : ah_T) (Q : Option av_T → ah_T → Prop) : Prop :=
 ∀ x1 : Int, x1 = h.2.1 a0 7 → -2147483648 ≤ x1 → x1 ≤ 2147483647 → ((x1 < 300 → (0 ≤ x1 ∧ x1 < 300) ∧ ∀ h6 : ah_T, h6 = st_i h (a0 + 4) (x1).toNat a1 → ∀ h10 : ah_T, h10 = st_i h6 (a0 + 5) (x1).toNat a2 → (a3 = 0 ∨ a3 = 1) ∧ ∀ h14 : ah_T, h14 = st_i h10 (a0 + 6) (x1).toNat a3 → ((-2147483648) ≤ (x1 + 1) ∧ (x1 + 1) ≤ 2147483647) ∧ ∀ h18 : ah_T, h18 = st_i h14 a0 7 (x1 + 1) → ∀ x22 : Int, x22 = h18.2.1 a0 2 → -2147483648 ≤ x22 → x22 ≤ 2147483647 → (0 ≤ (x1 + 1) ∧ (x1 + 1) < 301) ∧ ∀ h24 : ah_T, h24 = st_i h18 (a0 + 3) ((x1 + 1)).toNat x22 → ((-2147483648) ≤ x1 ∧ x1 ≤ 2147483647) ∧ Q (some (av_I x1)) h24) ∧ (¬ x1 < 300 → Q (some (av_I 0)) h))
theorem b_Voice_endSound_0 {G : cx_T} {s : Nat} {a0 : Nat} {a1 : Int} {a2 : Int} {a3 : Int} (ha0 : isV a0) {h : ah_T} {Q : Option av_T → ah_T → Prop} (hb0 : hb s h) (H : B_Voice_endSound_0 G s a0 a1 a2 a3 h Q ) : aw G (rm_R 0 0 0) m_Voice_endSound 0 0 0 [some (av_R (some a0)), some (av_I a1), some (av_I a2), some (av_I a3)] [] h Q := by
  unfold B_Voice_endSound_0 at H
  have hS : isS s := hb0.2.1
  refine A_aload_n 0 d_Voice_endSound_0 rfl rfl ?_
  refine A_getIf T_ok d_Voice_endSound_1 f_Voice_57 (hs_V hb0 ha0) (fun x1 ex1 lx1 ux1 => ?_)
  replace H := H x1 ex1 lx1 ux1
  refine A_aload_n 0 d_Voice_endSound_4 rfl rfl ?_
  refine A_getAv (z := some (a0 + 4)) T_ok d_Voice_endSound_5 f_Voice_21 (hs_V hb0 ha0) (hr_V_4 hb0 ha0) ?_
  refine A_alenN d_Voice_endSound_8 (hs_V_4 hb0 ha0) (by decide) (by decide) ?_
  refine A_pc (pc' := 9) rfl ?_
  refine A_icmp_lt (tgt := 14) d_Voice_endSound_9 (by decide) (fun c => ?_) (fun c => ?_)
  · replace H := H.1 c
    refine A_aload_n 0 d_Voice_endSound_14 rfl rfl ?_
    refine A_getAv (z := some (a0 + 4)) T_ok d_Voice_endSound_15 f_Voice_21 (hs_V hb0 ha0) (hr_V_4 hb0 ha0) ?_
    refine A_aload_n 0 d_Voice_endSound_18 rfl rfl ?_
    refine A_getIv (z := x1) T_ok d_Voice_endSound_19 f_Voice_57 (hs_V hb0 ha0) ex1.symm ?_
    refine A_iload_n 1 d_Voice_endSound_22 rfl rfl ?_
    refine A_pc (pc' := 23) rfl ?_
    have g5 := H.1
    replace H := H.2
    refine A_iastoreN d_Voice_endSound_23 (hs_V_4 hb0 ha0) g5.1 g5.2 ?_
    refine A_hn (fun h6 eh6 => ?_)
    have hb7 := hb_i hb0 eh6
    replace H := H h6 eh6
    refine A_aload_n 0 d_Voice_endSound_24 rfl rfl ?_
    refine A_getAv (z := some (a0 + 5)) T_ok d_Voice_endSound_25 f_Voice_24 (hs_V hb7 ha0) (hr_V_5 hb7 ha0) ?_
    refine A_aload_n 0 d_Voice_endSound_28 rfl rfl ?_
    refine A_getIv (z := x1) T_ok d_Voice_endSound_29 f_Voice_57 (hs_V hb7 ha0) ((mm_i eh6 (fun q => by have := q.1; omega)).trans ex1.symm) ?_
    refine A_iload_n 2 d_Voice_endSound_32 rfl rfl ?_
    refine A_pc (pc' := 33) rfl ?_
    refine A_iastoreN d_Voice_endSound_33 (hs_V_5 hb7 ha0) g5.1 g5.2 ?_
    refine A_hn (fun h10 eh10 => ?_)
    have hb11 := hb_i hb7 eh10
    replace H := H h10 eh10
    refine A_aload_n 0 d_Voice_endSound_34 rfl rfl ?_
    refine A_getAv (z := some (a0 + 6)) T_ok d_Voice_endSound_35 f_Voice_27 (hs_V hb11 ha0) (hr_V_6 hb11 ha0) ?_
    refine A_aload_n 0 d_Voice_endSound_38 rfl rfl ?_
    refine A_getIv (z := x1) T_ok d_Voice_endSound_39 f_Voice_57 (hs_V hb11 ha0) ((mm_i eh10 (fun q => by have := q.1; omega)).trans ((mm_i eh6 (fun q => by have := q.1; omega)).trans ex1.symm)) ?_
    refine A_iload_n 3 d_Voice_endSound_42 rfl rfl ?_
    refine A_pc (pc' := 43) rfl ?_
    have H1 := H.1
    replace H := H.2
    refine A_zastoreN d_Voice_endSound_43 (hs_V_6 hb11 ha0) g5.1 g5.2 H1 ?_
    refine A_hn (fun h14 eh14 => ?_)
    have hb15 := hb_i hb11 eh14
    replace H := H h14 eh14
    refine A_aload_n 0 d_Voice_endSound_44 rfl rfl ?_
    refine A_dupR d_Voice_endSound_45 ?_
    refine A_getIv (z := x1) T_ok d_Voice_endSound_46 f_Voice_57 (hs_V hb15 ha0) ((mm_i eh14 (fun q => by have := q.1; omega)).trans ((mm_i eh10 (fun q => by have := q.1; omega)).trans ((mm_i eh6 (fun q => by have := q.1; omega)).trans ex1.symm))) ?_
    refine A_iconst d_Voice_endSound_49 rfl ?_
    have g17 := H.1
    replace H := H.2
    refine A_iaddv (z := (x1 + 1)) d_Voice_endSound_50 (w32_to (by omega) (by unfold i32; omega)) ?_
    refine A_pc (pc' := 51) rfl ?_
    refine A_putI T_ok d_Voice_endSound_51 f_Voice_57 (hs_V hb15 ha0) fin_f ?_
    refine A_hn (fun h18 eh18 => ?_)
    have hb19 := hb_i hb15 eh18
    replace H := H h18 eh18
    refine A_aload_n 0 d_Voice_endSound_54 rfl rfl ?_
    refine A_getAv (z := some (a0 + 3)) T_ok d_Voice_endSound_55 f_Voice_18 (hs_V hb19 ha0) (hr_V_3 hb19 ha0) ?_
    refine A_aload_n 0 d_Voice_endSound_58 rfl rfl ?_
    refine A_getIv (z := (x1 + 1)) T_ok d_Voice_endSound_59 f_Voice_57 (hs_V hb19 ha0) (mv_i eh18) ?_
    refine A_aload_n 0 d_Voice_endSound_62 rfl rfl ?_
    refine A_pc (pc' := 63) rfl ?_
    refine A_getIf T_ok d_Voice_endSound_63 f_Voice_53 (hs_V hb19 ha0) (fun x22 ex22 lx22 ux22 => ?_)
    replace H := H x22 ex22 lx22 ux22
    have g23 := H.1
    replace H := H.2
    refine A_iastoreN d_Voice_endSound_66 (hs_V_3 hb19 ha0) g23.1 g23.2 ?_
    refine A_hn (fun h24 eh24 => ?_)
    have hb25 := hb_i hb19 eh24
    replace H := H h24 eh24
    refine A_aload_n 0 d_Voice_endSound_67 rfl rfl ?_
    refine A_getIv (z := (x1 + 1)) T_ok d_Voice_endSound_68 f_Voice_57 (hs_V hb25 ha0) ((mm_i eh24 (fun q => by have := q.1; omega)).trans (mv_i eh18)) ?_
    refine A_iconst d_Voice_endSound_71 rfl ?_
    have g27 := H.1
    replace H := H.2
    refine A_isubv (z := x1) d_Voice_endSound_72 (w32_to (by omega) (by unfold i32; omega)) ?_
    refine A_pc (pc' := 73) rfl ?_
    exact A_iret d_Voice_endSound_73 (by decide) rfl H
  · replace H := H.2 c
    refine A_iconst d_Voice_endSound_12 rfl ?_
    exact A_iret d_Voice_endSound_13 (by decide) rfl H
theorem c_Voice_endSound {G : cx_T} {s : Nat} {a0 : Nat} {a1 : Int} {a2 : Int} {a3 : Int} (ha0 : isV a0) {h : ah_T} {Q : Option av_T → ah_T → Prop} (hb0 : hb s h) (H : i32 a1 → i32 a2 → i32 a3 → B_Voice_endSound_0 G s a0 a1 a2 a3 h Q ) : con G 0 0 0 m_Voice_endSound [av_R (some a0), av_I a1, av_I a2, av_I a3] h Q := by
  have hS : isS s := hb0.2.1
  refine con_of (L := [some (av_R (some a0)), some (av_I a1), some (av_I a2), some (av_I a3)]) (by decide +kernel) (Nat.le_of_ble_eq_true rfl) rfl ?_
  refine A_locI 1 rfl (fun ra1 => ?_)
  refine A_locI 2 rfl (fun ra2 => ?_)
  refine A_locI 3 rfl (fun ra3 => ?_)
  exact b_Voice_endSound_0 ha0  hb0 (H ra1 ra2 ra3)
def B_Voice_beginWalk_0 (G : cx_T) (s : Nat) (a0 : Nat) (h : ah_T) (Q : Option av_T → ah_T → Prop) : Prop :=
 ∀ h1 : ah_T, h1 = st_i h a0 14 0 → ∀ h4 : ah_T, h4 = st_l h1 (a0 + 9) 0 0 → ∀ h7 : ah_T, h7 = st_l h4 (a0 + 10) 0 1 → ∀ h10 : ah_T, h10 = st_i h7 (a0 + 13) 0 0 → ∀ h12 : ah_T, h12 = st_i h10 a0 16 1 → Q none h12
theorem b_Voice_beginWalk_0 {G : cx_T} {s : Nat} {a0 : Nat} (ha0 : isV a0) {h : ah_T} {Q : Option av_T → ah_T → Prop} (hb0 : hb s h) (H : B_Voice_beginWalk_0 G s a0 h Q ) : aw G (rm_R 0 0 0) m_Voice_beginWalk 0 0 0 [some (av_R (some a0))] [] h Q := by
  unfold B_Voice_beginWalk_0 at H
  have hS : isS s := hb0.2.1
  refine A_aload_n 0 d_Voice_beginWalk_0 rfl rfl ?_
  refine A_iconst d_Voice_beginWalk_1 rfl ?_
  refine A_putI T_ok d_Voice_beginWalk_2 f_Voice_60 (hs_V hb0 ha0) fin_f ?_
  refine A_hn (fun h1 eh1 => ?_)
  have hb2 := hb_i hb0 eh1
  replace H := H h1 eh1
  refine A_aload_n 0 d_Voice_beginWalk_5 rfl rfl ?_
  refine A_getAv (z := some (a0 + 9)) T_ok d_Voice_beginWalk_6 f_Voice_37 (hs_V hb2 ha0) (hr_V_10 hb2 ha0) ?_
  refine A_pc (pc' := 9) rfl ?_
  refine A_iconst d_Voice_beginWalk_9 rfl ?_
  refine A_lconst_0 d_Voice_beginWalk_10 ?_
  refine A_lastoreN d_Voice_beginWalk_11 (hs_V_10 hb2 ha0) (by decide) (by decide) ?_
  refine A_hn (fun h4 eh4 => ?_)
  have hb5 := hb_l hb2 eh4
  replace H := H h4 eh4
  refine A_aload_n 0 d_Voice_beginWalk_12 rfl rfl ?_
  refine A_getAv (z := some (a0 + 10)) T_ok d_Voice_beginWalk_13 f_Voice_41 (hs_V hb5 ha0) (hr_V_11 hb5 ha0) ?_
  refine A_iconst d_Voice_beginWalk_16 rfl ?_
  refine A_pc (pc' := 17) rfl ?_
  refine A_lconst_1 d_Voice_beginWalk_17 ?_
  refine A_lastoreN d_Voice_beginWalk_18 (hs_V_11 hb5 ha0) (by decide) (by decide) ?_
  refine A_hn (fun h7 eh7 => ?_)
  have hb8 := hb_l hb5 eh7
  replace H := H h7 eh7
  refine A_aload_n 0 d_Voice_beginWalk_19 rfl rfl ?_
  refine A_getAv (z := some (a0 + 13)) T_ok d_Voice_beginWalk_20 f_Voice_50 (hs_V hb8 ha0) (hr_V_15 hb8 ha0) ?_
  refine A_iconst d_Voice_beginWalk_23 rfl ?_
  refine A_iconst d_Voice_beginWalk_24 rfl ?_
  refine A_pc (pc' := 25) rfl ?_
  refine A_iastoreN d_Voice_beginWalk_25 (hs_V_15 hb8 ha0) (by decide) (by decide) ?_
  refine A_hn (fun h10 eh10 => ?_)
  have hb11 := hb_i hb8 eh10
  replace H := H h10 eh10
  refine A_aload_n 0 d_Voice_beginWalk_26 rfl rfl ?_
  refine A_iconst d_Voice_beginWalk_27 rfl ?_
  refine A_putI T_ok d_Voice_beginWalk_28 f_Voice_63 (hs_V hb11 ha0) fin_f ?_
  refine A_hn (fun h12 eh12 => ?_)
  have hb13 := hb_i hb11 eh12
  replace H := H h12 eh12
  exact A_vret d_Voice_beginWalk_31 (by decide) rfl H
theorem c_Voice_beginWalk {G : cx_T} {s : Nat} {a0 : Nat} (ha0 : isV a0) {h : ah_T} {Q : Option av_T → ah_T → Prop} (hb0 : hb s h) (H : B_Voice_beginWalk_0 G s a0 h Q ) : con G 0 0 0 m_Voice_beginWalk [av_R (some a0)] h Q := by
  have hS : isS s := hb0.2.1
  refine con_of (L := [some (av_R (some a0))]) (by decide +kernel) (Nat.le_of_ble_eq_true rfl) rfl ?_
  exact b_Voice_beginWalk_0 ha0  hb0 (H )
def B_Voice_endWalk_25 (G : cx_T) (s : Nat) (a0 : Nat) (h : ah_T) (Q : Option av_T → ah_T → Prop) : Prop :=
 Q none h
theorem b_Voice_endWalk_25 {G : cx_T} {s : Nat} {a0 : Nat} (ha0 : isV a0) {h : ah_T} {Q : Option av_T → ah_T → Prop} (hb0 : hb s h) (H : B_Voice_endWalk_25 G s a0 h Q ) : aw G (rm_R 0 0 0) m_Voice_endWalk 0 0 25 [none] [] h Q := by
  unfold B_Voice_endWalk_25 at H
  have hS : isS s := hb0.2.1
  exact A_vret d_Voice_endWalk_25 (by decide) rfl H
def B_Voice_endWalk_0 (G : cx_T) (s : Nat) (a0 : Nat) (h : ah_T) (Q : Option av_T → ah_T → Prop) : Prop :=
 ∀ x1 : Int, x1 = h.2.1 a0 16 → -2147483648 ≤ x1 → x1 ≤ 2147483647 → ((102 ≤ x1 → B_Voice_endWalk_25 G s a0 h Q ) ∧ (¬ 102 ≤ x1 → ∀ x5 : Int, x5 = h.2.1 a0 14 → -2147483648 ≤ x5 → x5 ≤ 2147483647 → (0 ≤ x1 ∧ x1 < 102) ∧ ∀ h7 : ah_T, h7 = st_i h (a0 + 13) (x1).toNat x5 → B_Voice_endWalk_25 G s a0 h7 Q ))
theorem b_Voice_endWalk_0 {G : cx_T} {s : Nat} {a0 : Nat} (ha0 : isV a0) {h : ah_T} {Q : Option av_T → ah_T → Prop} (hb0 : hb s h) (H : B_Voice_endWalk_0 G s a0 h Q ) : aw G (rm_R 0 0 0) m_Voice_endWalk 0 0 0 [some (av_R (some a0))] [] h Q := by
  unfold B_Voice_endWalk_0 at H
  have hS : isS s := hb0.2.1
  refine A_aload_n 0 d_Voice_endWalk_0 rfl rfl ?_
  refine A_getIf T_ok d_Voice_endWalk_1 f_Voice_63 (hs_V hb0 ha0) (fun x1 ex1 lx1 ux1 => ?_)
  replace H := H x1 ex1 lx1 ux1
  refine A_aload_n 0 d_Voice_endWalk_4 rfl rfl ?_
  refine A_getAv (z := some (a0 + 13)) T_ok d_Voice_endWalk_5 f_Voice_50 (hs_V hb0 ha0) (hr_V_15 hb0 ha0) ?_
  refine A_alenN d_Voice_endWalk_8 (hs_V_15 hb0 ha0) (by decide) (by decide) ?_
  refine A_pc (pc' := 9) rfl ?_
  refine A_icmp_ge (tgt := 25) d_Voice_endWalk_9 (by decide) (fun c => ?_) (fun c => ?_)
  · replace H := H.1 c
    refine A_pc (pc' := 25) rfl ?_
    refine A_free (L' := [none]) trivial ?_
    exact b_Voice_endWalk_25 ha0   hb0 H
  · replace H := H.2 c
    refine A_aload_n 0 d_Voice_endWalk_12 rfl rfl ?_
    refine A_getAv (z := some (a0 + 13)) T_ok d_Voice_endWalk_13 f_Voice_50 (hs_V hb0 ha0) (hr_V_15 hb0 ha0) ?_
    refine A_aload_n 0 d_Voice_endWalk_16 rfl rfl ?_
    refine A_getIv (z := x1) T_ok d_Voice_endWalk_17 f_Voice_63 (hs_V hb0 ha0) ex1.symm ?_
    refine A_aload_n 0 d_Voice_endWalk_20 rfl rfl ?_
    refine A_pc (pc' := 21) rfl ?_
    refine A_getIf T_ok d_Voice_endWalk_21 f_Voice_60 (hs_V hb0 ha0) (fun x5 ex5 lx5 ux5 => ?_)
    replace H := H x5 ex5 lx5 ux5
    have g6 := H.1
    replace H := H.2
    refine A_iastoreN d_Voice_endWalk_24 (hs_V_15 hb0 ha0) g6.1 g6.2 ?_
    refine A_hn (fun h7 eh7 => ?_)
    have hb8 := hb_i hb0 eh7
    replace H := H h7 eh7
    refine A_pc (pc' := 25) rfl ?_
    refine A_free (L' := [none]) trivial ?_
    exact b_Voice_endWalk_25 ha0   hb8 H
theorem c_Voice_endWalk {G : cx_T} {s : Nat} {a0 : Nat} (ha0 : isV a0) {h : ah_T} {Q : Option av_T → ah_T → Prop} (hb0 : hb s h) (H : B_Voice_endWalk_0 G s a0 h Q ) : con G 0 0 0 m_Voice_endWalk [av_R (some a0)] h Q := by
  have hS : isS s := hb0.2.1
  refine con_of (L := [some (av_R (some a0))]) (by decide +kernel) (Nat.le_of_ble_eq_true rfl) rfl ?_
  exact b_Voice_endWalk_0 ha0  hb0 (H )
def B_Voice_addBar_35 (G : cx_T) (s : Nat) (a0 : Nat) (h : ah_T) (Q : Option av_T → ah_T → Prop) : Prop :=
 Q none h
theorem b_Voice_addBar_35 {G : cx_T} {s : Nat} {a0 : Nat} (ha0 : isV a0) {h : ah_T} {Q : Option av_T → ah_T → Prop} (hb0 : hb s h) (H : B_Voice_addBar_35 G s a0 h Q ) : aw G (rm_R 0 0 0) m_Voice_addBar 0 0 35 [none] [] h Q := by
  unfold B_Voice_addBar_35 at H
  have hS : isS s := hb0.2.1
  exact A_vret d_Voice_addBar_35 (by decide) rfl H
def B_Voice_addBar_0 (G : cx_T) (s : Nat) (a0 : Nat) (h : ah_T) (Q : Option av_T → ah_T → Prop) : Prop :=
 ∀ x1 : Int, x1 = h.2.1 a0 16 → -2147483648 ≤ x1 → x1 ≤ 2147483647 → ((102 ≤ x1 → B_Voice_addBar_35 G s a0 h Q ) ∧ (¬ 102 ≤ x1 → ∀ x5 : Int, x5 = h.2.1 a0 14 → -2147483648 ≤ x5 → x5 ≤ 2147483647 → (0 ≤ x1 ∧ x1 < 102) ∧ ∀ h7 : ah_T, h7 = st_i h (a0 + 13) (x1).toNat x5 → ((-2147483648) ≤ (x1 + 1) ∧ (x1 + 1) ≤ 2147483647) ∧ ∀ h11 : ah_T, h11 = st_i h7 a0 16 (x1 + 1) → B_Voice_addBar_35 G s a0 h11 Q ))
theorem b_Voice_addBar_0 {G : cx_T} {s : Nat} {a0 : Nat} (ha0 : isV a0) {h : ah_T} {Q : Option av_T → ah_T → Prop} (hb0 : hb s h) (H : B_Voice_addBar_0 G s a0 h Q ) : aw G (rm_R 0 0 0) m_Voice_addBar 0 0 0 [some (av_R (some a0))] [] h Q := by
  unfold B_Voice_addBar_0 at H
  have hS : isS s := hb0.2.1
  refine A_aload_n 0 d_Voice_addBar_0 rfl rfl ?_
  refine A_getIf T_ok d_Voice_addBar_1 f_Voice_63 (hs_V hb0 ha0) (fun x1 ex1 lx1 ux1 => ?_)
  replace H := H x1 ex1 lx1 ux1
  refine A_aload_n 0 d_Voice_addBar_4 rfl rfl ?_
  refine A_getAv (z := some (a0 + 13)) T_ok d_Voice_addBar_5 f_Voice_50 (hs_V hb0 ha0) (hr_V_15 hb0 ha0) ?_
  refine A_alenN d_Voice_addBar_8 (hs_V_15 hb0 ha0) (by decide) (by decide) ?_
  refine A_pc (pc' := 9) rfl ?_
  refine A_icmp_ge (tgt := 35) d_Voice_addBar_9 (by decide) (fun c => ?_) (fun c => ?_)
  · replace H := H.1 c
    refine A_pc (pc' := 35) rfl ?_
    refine A_free (L' := [none]) trivial ?_
    exact b_Voice_addBar_35 ha0   hb0 H
  · replace H := H.2 c
    refine A_aload_n 0 d_Voice_addBar_12 rfl rfl ?_
    refine A_getAv (z := some (a0 + 13)) T_ok d_Voice_addBar_13 f_Voice_50 (hs_V hb0 ha0) (hr_V_15 hb0 ha0) ?_
    refine A_aload_n 0 d_Voice_addBar_16 rfl rfl ?_
    refine A_getIv (z := x1) T_ok d_Voice_addBar_17 f_Voice_63 (hs_V hb0 ha0) ex1.symm ?_
    refine A_aload_n 0 d_Voice_addBar_20 rfl rfl ?_
    refine A_pc (pc' := 21) rfl ?_
    refine A_getIf T_ok d_Voice_addBar_21 f_Voice_60 (hs_V hb0 ha0) (fun x5 ex5 lx5 ux5 => ?_)
    replace H := H x5 ex5 lx5 ux5
    have g6 := H.1
    replace H := H.2
    refine A_iastoreN d_Voice_addBar_24 (hs_V_15 hb0 ha0) g6.1 g6.2 ?_
    refine A_hn (fun h7 eh7 => ?_)
    have hb8 := hb_i hb0 eh7
    replace H := H h7 eh7
    refine A_aload_n 0 d_Voice_addBar_25 rfl rfl ?_
    refine A_dupR d_Voice_addBar_26 ?_
    refine A_getIv (z := x1) T_ok d_Voice_addBar_27 f_Voice_63 (hs_V hb8 ha0) ((mm_i eh7 (fun q => by have := q.1; omega)).trans ex1.symm) ?_
    refine A_iconst d_Voice_addBar_30 rfl ?_
    refine A_pc (pc' := 31) rfl ?_
    have g10 := H.1
    replace H := H.2
    refine A_iaddv (z := (x1 + 1)) d_Voice_addBar_31 (w32_to (by omega) (by unfold i32; omega)) ?_
    refine A_putI T_ok d_Voice_addBar_32 f_Voice_63 (hs_V hb8 ha0) fin_f ?_
    refine A_hn (fun h11 eh11 => ?_)
    have hb12 := hb_i hb8 eh11
    replace H := H h11 eh11
    refine A_pc (pc' := 35) rfl ?_
    refine A_free (L' := [none]) trivial ?_
    exact b_Voice_addBar_35 ha0   hb12 H
theorem c_Voice_addBar {G : cx_T} {s : Nat} {a0 : Nat} (ha0 : isV a0) {h : ah_T} {Q : Option av_T → ah_T → Prop} (hb0 : hb s h) (H : B_Voice_addBar_0 G s a0 h Q ) : con G 0 0 0 m_Voice_addBar [av_R (some a0)] h Q := by
  have hS : isS s := hb0.2.1
  refine con_of (L := [some (av_R (some a0))]) (by decide +kernel) (Nat.le_of_ble_eq_true rfl) rfl ?_
  exact b_Voice_addBar_0 ha0  hb0 (H )
def B_Voice_isTold_23 (G : cx_T) (s : Nat) (a0 : Int) (a1 : Int) (t0 : Int) (h : ah_T) (Q : Option av_T → ah_T → Prop) : Prop :=
 (t0 = 0 ∨ t0 = 1) ∧ Q (some (av_I t0)) h
theorem b_Voice_isTold_23 {G : cx_T} {s : Nat} {a0 : Int} {a1 : Int} {t0 : Int} {h : ah_T} {Q : Option av_T → ah_T → Prop} (hb0 : hb s h) (H : B_Voice_isTold_23 G s a0 a1 t0 h Q ) : aw G (rm_R 0 0 0) m_Voice_isTold 0 0 23 [none, none, none, none] [av_I t0] h Q := by
  unfold B_Voice_isTold_23 at H
  have hS : isS s := hb0.2.1
  exact A_zret d_Voice_isTold_23 (by decide) rfl H.1 H.2
def B_Voice_isTold_22 (G : cx_T) (s : Nat) (a0 : Int) (a1 : Int) (h : ah_T) (Q : Option av_T → ah_T → Prop) : Prop :=
 B_Voice_isTold_23 G s a0 a1 (0) h Q 
theorem b_Voice_isTold_22 {G : cx_T} {s : Nat} {a0 : Int} {a1 : Int} {h : ah_T} {Q : Option av_T → ah_T → Prop} (hb0 : hb s h) (H : B_Voice_isTold_22 G s a0 a1 h Q ) : aw G (rm_R 0 0 0) m_Voice_isTold 0 0 22 [none, none, none, none] [] h Q := by
  unfold B_Voice_isTold_22 at H
  have hS : isS s := hb0.2.1
  refine A_iconst d_Voice_isTold_22 rfl ?_
  refine A_pc (pc' := 23) rfl ?_
  exact b_Voice_isTold_23    hb0 H
def B_Voice_isTold_0 (G : cx_T) (s : Nat) (a0 : Int) (a1 : Int) (h : ah_T) (Q : Option av_T → ah_T → Prop) : Prop :=
 ((1000000 < a1 → B_Voice_isTold_22 G s a0 a1 h Q ) ∧ (¬ 1000000 < a1 → ((-9223372036854775808) ≤ (1000 * a1) ∧ (1000 * a1) ≤ 9223372036854775807) ∧ (((1000 * a1) < a0 → B_Voice_isTold_22 G s a0 a1 h Q ) ∧ (¬ (1000 * a1) < a0 → B_Voice_isTold_23 G s a0 a1 (1) h Q ))))
theorem b_Voice_isTold_0 {G : cx_T} {s : Nat} {a0 : Int} {a1 : Int} {h : ah_T} {Q : Option av_T → ah_T → Prop} (hb0 : hb s h) (H : B_Voice_isTold_0 G s a0 a1 h Q ) : aw G (rm_R 0 0 0) m_Voice_isTold 0 0 0 [some (av_L a0), none, some (av_L a1), none] [] h Q := by
  unfold B_Voice_isTold_0 at H
  have hS : isS s := hb0.2.1
  refine A_lload_n 2 d_Voice_isTold_0 rfl rfl ?_
  refine A_ldc2 (z := 1000000) d_Voice_isTold_1 cst_Voice_76 rfl ?_
  refine A_lcmpn d_Voice_isTold_4 (fun x1 lx1 ex1 gx1 _ _ => ?_)
  refine A_if_gt (tgt := 22) d_Voice_isTold_5 (by decide) (fun c => ?_) (fun c => ?_)
  · replace H := H.1 (by omega)
    refine A_pc (pc' := 22) rfl ?_
    refine A_free (L' := [none, none, none, none]) trivial ?_
    exact b_Voice_isTold_22    hb0 H
  · replace H := H.2 (by omega)
    refine A_lload_n 0 d_Voice_isTold_8 rfl rfl ?_
    refine A_ldc2 (z := 1000) d_Voice_isTold_9 cst_Voice_78 rfl ?_
    refine A_lload_n 2 d_Voice_isTold_12 rfl rfl ?_
    have g2 := H.1
    replace H := H.2
    refine A_lmulv (z := (1000 * a1)) d_Voice_isTold_13 (w64_to (by omega) (by unfold i64; omega)) ?_
    refine A_lcmpn d_Voice_isTold_14 (fun x3 lx3 ex3 gx3 _ _ => ?_)
    refine A_pc (pc' := 15) rfl ?_
    refine A_if_gt (tgt := 22) d_Voice_isTold_15 (by decide) (fun c => ?_) (fun c => ?_)
    · replace H := H.1 (by omega)
      refine A_pc (pc' := 22) rfl ?_
      refine A_free (L' := [none, none, none, none]) trivial ?_
      exact b_Voice_isTold_22    hb0 H
    · replace H := H.2 (by omega)
      refine A_iconst d_Voice_isTold_18 rfl ?_
      refine A_goto (tgt := 23) d_Voice_isTold_19 (by decide) ?_
      refine A_pc (pc' := 23) rfl ?_
      refine A_free (L' := [none, none, none, none]) trivial ?_
      exact b_Voice_isTold_23    hb0 H
theorem c_Voice_isTold {G : cx_T} {s : Nat} {a0 : Int} {a1 : Int} {h : ah_T} {Q : Option av_T → ah_T → Prop} (hb0 : hb s h) (H : i64 a0 → i64 a1 → B_Voice_isTold_0 G s a0 a1 h Q ) : con G 0 0 0 m_Voice_isTold [av_L a0, av_L a1] h Q := by
  have hS : isS s := hb0.2.1
  refine con_of (L := [some (av_L a0), none, some (av_L a1), none]) (by decide +kernel) (Nat.le_of_ble_eq_true rfl) rfl ?_
  refine A_locL 0 rfl (fun ra0 => ?_)
  refine A_locL 2 rfl (fun ra2 => ?_)
  exact b_Voice_isTold_0   hb0 (H ra0 ra2)
def B_Voice_addEvent_21 (G : cx_T) (s : Nat) (a0 : Nat) (a1 : Int) (a2 : Int) (a3 : Int) (h : ah_T) (Q : Option av_T → ah_T → Prop) : Prop :=
 Q (some (av_I 0)) h
theorem b_Voice_addEvent_21 {G : cx_T} {s : Nat} {a0 : Nat} {a1 : Int} {a2 : Int} {a3 : Int} (ha0 : isV a0) {h : ah_T} {Q : Option av_T → ah_T → Prop} (hb0 : hb s h) (H : B_Voice_addEvent_21 G s a0 a1 a2 a3 h Q ) : aw G (rm_R 1 0 0) m_Voice_addEvent 0 0 21 [none, none, none, none, none, none, none, none, none, none, none, none, none, none, none, none, none, none, none] [] h Q := by
  unfold B_Voice_addEvent_21 at H
  have hS : isS s := hb0.2.1
  refine A_iconst d_Voice_addEvent_21 rfl ?_
  exact A_zret d_Voice_addEvent_22 (by decide) rfl (by decide) H
def B_Voice_addEvent_0 (G : cx_T) (s : Nat) (a0 : Nat) (a1 : Int) (a2 : Int) (a3 : Int) (h : ah_T) (Q : Option av_T → ah_T → Prop) : Prop :=
 ∀ x1 : Int, x1 = h.2.1 a0 14 → -2147483648 ≤ x1 → x1 ≤ 2147483647 → ((300 ≤ x1 → B_Voice_addEvent_21 G s a0 a1 a2 a3 h Q ) ∧ (¬ 300 ≤ x1 → ((a1 < 0 → B_Voice_addEvent_21 G s a0 a1 a2 a3 h Q ) ∧ (¬ a1 < 0 → ((a1 < 300 → (0 ≤ a1 ∧ a1 < 300) ∧ ∀ x3 : Int, x3 = h.2.1 (a0 + 5) (a1).toNat → -2147483648 ≤ x3 → x3 ≤ 2147483647 → ∀ x5 : Int, x5 = ((Int64.ofInt 2) <<< ((Int32.ofInt x3).toInt64 &&& 63)).toInt → (-9223372036854775808) ≤ x5 → x5 ≤ 9223372036854775807 → ((-9223372036854775808) ≤ (x5 - 1) ∧ (x5 - 1) ≤ 9223372036854775807) ∧ ∀ x7 : Int, x7 = a2 * (x5 - 1) → ((-9223372036854775808) ≤ x7 ∧ x7 ≤ 9223372036854775807) ∧ ∀ x10 : Int, x10 = h.2.1 (a0 + 4) (a1).toNat → -2147483648 ≤ x10 → x10 ≤ 2147483647 → ∀ x11 : Int, x11 = a3 * x10 → ((-9223372036854775808) ≤ x11 ∧ x11 ≤ 9223372036854775807) ∧ ∀ x13 : Int, x13 = ((Int64.ofInt 1) <<< ((Int32.ofInt x3).toInt64 &&& 63)).toInt → (-9223372036854775808) ≤ x13 → x13 ≤ 9223372036854775807 → ∀ x14 : Int, x14 = x11 * x13 → ((-9223372036854775808) ≤ x14 ∧ x14 ≤ 9223372036854775807) ∧ con G 0 0 0 m_PM_greatestDivisor [av_L x7, av_L x14] h (fun r h16 => ∃ z18 : Int, r = some (av_L z18) ∧ hb s h16 ∧ ∀ x20 : Int, x20 = h16.2.1 a0 14 → -2147483648 ≤ x20 → x20 ≤ 2147483647 → (0 ≤ x20 ∧ x20 < 300) ∧ ∀ h22 : ah_T, h22 = st_i h16 (a0 + 7) (x20).toNat a1 → ∀ x26 : Int, x26 = h22.2.1 a0 16 → -2147483648 ≤ x26 → x26 ≤ 2147483647 → ((-2147483648) ≤ (x26 - 1) ∧ (x26 - 1) ≤ 2147483647) ∧ ∀ h28 : ah_T, h28 = st_i h22 (a0 + 8) (x20).toNat (x26 - 1) → (z18 ≠ 0) ∧ ∀ x32 : Int, x32 = w64 ((x7).tdiv z18) → (-9223372036854775808) ≤ x32 → x32 ≤ 9223372036854775807 → ∀ h33 : ah_T, h33 = st_l h28 (a0 + 11) (x20).toNat x32 → (z18 ≠ 0) ∧ ∀ x37 : Int, x37 = w64 ((x14).tdiv z18) → (-9223372036854775808) ≤ x37 → x37 ≤ 9223372036854775807 → ∀ h38 : ah_T, h38 = st_l h33 (a0 + 12) (x20).toNat x37 → con G 0 0 0 m_Voice_isTold [av_L x32, av_L x37] h38 (fun r h46 => ∃ z48 : Int, r = some (av_I z48) ∧ hb s h46 ∧ ((z48 = 0 → Q (some (av_I 0)) h46) ∧ (¬ z48 = 0 → ∀ x50 : Int, x50 = h46.2.1 a0 14 → -2147483648 ≤ x50 → x50 ≤ 2147483647 → (0 ≤ x50 ∧ x50 < 301) ∧ ∀ x51 : Int, x51 = h46.2.2.1 (a0 + 9) (x50).toNat → -9223372036854775808 ≤ x51 → x51 ≤ 9223372036854775807 → (0 ≤ x50 ∧ x50 < 300) ∧ ∀ x55 : Int, x55 = h46.2.2.1 (a0 + 12) (x50).toNat → -9223372036854775808 ≤ x55 → x55 ≤ 9223372036854775807 → ∀ x57 : Int, x57 = x51 * x55 → ((-9223372036854775808) ≤ x57 ∧ x57 ≤ 9223372036854775807) ∧ ∀ x61 : Int, x61 = h46.2.2.1 (a0 + 11) (x50).toNat → -9223372036854775808 ≤ x61 → x61 ≤ 9223372036854775807 → ∀ x64 : Int, x64 = h46.2.2.1 (a0 + 10) (x50).toNat → -9223372036854775808 ≤ x64 → x64 ≤ 9223372036854775807 → ∀ x65 : Int, x65 = x61 * x64 → ((-9223372036854775808) ≤ x65 ∧ x65 ≤ 9223372036854775807) ∧ ((-9223372036854775808) ≤ (x57 + x65) ∧ (x57 + x65) ≤ 9223372036854775807) ∧ ∀ x74 : Int, x74 = x64 * x55 → ((-9223372036854775808) ≤ x74 ∧ x74 ≤ 9223372036854775807) ∧ con G 0 0 0 m_PM_greatestDivisor [av_L (x57 + x65), av_L x74] h46 (fun r h76 => ∃ z78 : Int, r = some (av_L z78) ∧ hb s h76 ∧ ∀ x79 : Int, x79 = h76.2.1 a0 14 → -2147483648 ≤ x79 → x79 ≤ 2147483647 → ((-2147483648) ≤ (x79 + 1) ∧ (x79 + 1) ≤ 2147483647) ∧ ∀ h81 : ah_T, h81 = st_i h76 a0 14 (x79 + 1) → (z78 ≠ 0) ∧ ∀ x85 : Int, x85 = w64 (((x57 + x65)).tdiv z78) → (-9223372036854775808) ≤ x85 → x85 ≤ 9223372036854775807 → (0 ≤ (x79 + 1) ∧ (x79 + 1) < 301) ∧ ∀ h87 : ah_T, h87 = st_l h81 (a0 + 9) ((x79 + 1)).toNat x85 → (z78 ≠ 0) ∧ ∀ x91 : Int, x91 = w64 ((x74).tdiv z78) → (-9223372036854775808) ≤ x91 → x91 ≤ 9223372036854775807 → ∀ h92 : ah_T, h92 = st_l h87 (a0 + 10) ((x79 + 1)).toNat x91 → con G 0 0 0 m_Voice_isTold [av_L x85, av_L x91] h92 (fun r h100 => ∃ z102 : Int, r = some (av_I z102) ∧ hb s h100 ∧ (z102 = 0 ∨ z102 = 1) ∧ Q (some (av_I z102)) h100))))))) ∧ (¬ a1 < 300 → B_Voice_addEvent_21 G s a0 a1 a2 a3 h Q ))))))
theorem b_Voice_addEvent_0 {G : cx_T} {s : Nat} {a0 : Nat} {a1 : Int} {a2 : Int} {a3 : Int} (ha0 : isV a0) {h : ah_T} {Q : Option av_T → ah_T → Prop} (hb0 : hb s h) (H : B_Voice_addEvent_0 G s a0 a1 a2 a3 h Q ) : aw G (rm_R 1 0 0) m_Voice_addEvent 0 0 0 [some (av_R (some a0)), some (av_I a1), some (av_L a2), none, some (av_L a3), none, none, none, none, none, none, none, none, none, none, none, none, none, none] [] h Q := by
  unfold B_Voice_addEvent_0 at H
  have hS : isS s := hb0.2.1
  refine A_aload_n 0 d_Voice_addEvent_0 rfl rfl ?_
  refine A_getIf T_ok d_Voice_addEvent_1 f_Voice_60 (hs_V hb0 ha0) (fun x1 ex1 lx1 ux1 => ?_)
  replace H := H x1 ex1 lx1 ux1
  refine A_sipush d_Voice_addEvent_4 rfl ?_
  refine A_icmp_ge (tgt := 21) d_Voice_addEvent_7 (by decide) (fun c => ?_) (fun c => ?_)
  · replace H := H.1 c
    refine A_pc (pc' := 21) rfl ?_
    refine A_free (L' := [none, none, none, none, none, none, none, none, none, none, none, none, none, none, none, none, none, none, none]) trivial ?_
    exact b_Voice_addEvent_21 ha0   hb0 H
  · replace H := H.2 c
    refine A_iload_n 1 d_Voice_addEvent_10 rfl rfl ?_
    refine A_if_lt (tgt := 21) d_Voice_addEvent_11 (by decide) (fun c => ?_) (fun c => ?_)
    · replace H := H.1 c
      refine A_pc (pc' := 21) rfl ?_
      refine A_free (L' := [none, none, none, none, none, none, none, none, none, none, none, none, none, none, none, none, none, none, none]) trivial ?_
      exact b_Voice_addEvent_21 ha0   hb0 H
    · replace H := H.2 c
      refine A_iload_n 1 d_Voice_addEvent_14 rfl rfl ?_
      refine A_sipush d_Voice_addEvent_15 rfl ?_
      refine A_icmp_lt (tgt := 23) d_Voice_addEvent_18 (by decide) (fun c => ?_) (fun c => ?_)
      · replace H := H.1 c
        refine A_aload_n 0 d_Voice_addEvent_23 rfl rfl ?_
        refine A_getAv (z := some (a0 + 5)) T_ok d_Voice_addEvent_24 f_Voice_24 (hs_V hb0 ha0) (hr_V_5 hb0 ha0) ?_
        refine A_iload_n 1 d_Voice_addEvent_27 rfl rfl ?_
        have g4 := H.1
        replace H := H.2
        refine A_ialoadf d_Voice_addEvent_28 (hs_V_5 hb0 ha0) g4.1 g4.2 (fun x3 ex3 lx3 ux3 => ?_)
        replace H := H x3 ex3 lx3 ux3
        refine A_istore (L' := [some (av_R (some a0)), some (av_I a1), some (av_L a2), none, some (av_L a3), none, some (av_I x3), none, none, none, none, none, none, none, none, none, none, none, none]) d_Voice_addEvent_29 (Nat.le_of_ble_eq_true rfl) rfl ?_
        refine A_pc (pc' := 31) rfl ?_
        refine A_lload_n 2 d_Voice_addEvent_31 rfl rfl ?_
        refine A_ldc2 (z := 2) d_Voice_addEvent_32 cst_Voice_66 rfl ?_
        refine A_iload d_Voice_addEvent_35 rfl ?_
        refine A_lshl d_Voice_addEvent_37 ?_
        refine A_nrL (fun x5 ex5 lx5 ux5 => ?_)
        replace H := H x5 ex5 lx5 ux5
        refine A_lconst_1 d_Voice_addEvent_38 ?_
        have g6 := H.1
        replace H := H.2
        refine A_lsubv (z := (x5 - 1)) d_Voice_addEvent_39 (w64_to (by omega) (by unfold i64; omega)) ?_
        refine A_pc (pc' := 40) rfl ?_
        obtain ⟨x7, ex7⟩ : ∃ z : Int, z = a2 * (x5 - 1) := ⟨_, rfl⟩
        replace H := H x7 ex7
        have g8 := H.1
        replace H := H.2
        refine A_lmulv (z := x7) d_Voice_addEvent_40 (w64_to ex7.symm (by unfold i64; omega)) ?_
        refine A_lstore (L' := [some (av_R (some a0)), some (av_I a1), some (av_L a2), none, some (av_L a3), none, some (av_I x3), some (av_L x7), none, none, none, none, none, none, none, none, none, none, none]) d_Voice_addEvent_41 (Nat.le_of_ble_eq_true rfl) rfl ?_
        refine A_lload d_Voice_addEvent_43 rfl ?_
        refine A_aload_n 0 d_Voice_addEvent_45 rfl rfl ?_
        refine A_getAv (z := some (a0 + 4)) T_ok d_Voice_addEvent_46 f_Voice_21 (hs_V hb0 ha0) (hr_V_4 hb0 ha0) ?_
        refine A_iload_n 1 d_Voice_addEvent_49 rfl rfl ?_
        refine A_pc (pc' := 50) rfl ?_
        refine A_ialoadf d_Voice_addEvent_50 (hs_V_4 hb0 ha0) g4.1 g4.2 (fun x10 ex10 lx10 ux10 => ?_)
        replace H := H x10 ex10 lx10 ux10
        refine A_i2l d_Voice_addEvent_51 ?_
        obtain ⟨x11, ex11⟩ : ∃ z : Int, z = a3 * x10 := ⟨_, rfl⟩
        replace H := H x11 ex11
        have g12 := H.1
        replace H := H.2
        refine A_lmulv (z := x11) d_Voice_addEvent_52 (w64_to ex11.symm (by unfold i64; omega)) ?_
        refine A_lconst_1 d_Voice_addEvent_53 ?_
        refine A_iload d_Voice_addEvent_54 rfl ?_
        refine A_lshl d_Voice_addEvent_56 ?_
        refine A_nrL (fun x13 ex13 lx13 ux13 => ?_)
        replace H := H x13 ex13 lx13 ux13
        refine A_pc (pc' := 57) rfl ?_
        obtain ⟨x14, ex14⟩ : ∃ z : Int, z = x11 * x13 := ⟨_, rfl⟩
        replace H := H x14 ex14
        have g15 := H.1
        replace H := H.2
        refine A_lmulv (z := x14) d_Voice_addEvent_57 (w64_to ex14.symm (by unfold i64; omega)) ?_
        refine A_lstore (L' := [some (av_R (some a0)), some (av_I a1), some (av_L a2), none, some (av_L a3), none, some (av_I x3), some (av_L x7), none, some (av_L x14), none, none, none, none, none, none, none, none, none]) d_Voice_addEvent_58 (Nat.le_of_ble_eq_true rfl) rfl ?_
        refine A_lload d_Voice_addEvent_60 rfl ?_
        refine A_lload d_Voice_addEvent_62 rfl ?_
        refine A_callS2 m_PM_greatestDivisor d_Voice_addEvent_64 l_Voice_68 k_PM_greatestDivisor (by decide +kernel) (by decide) (Nat.le_of_ble_eq_true rfl) H (fun r h16 hq => ?_)
        clear H
        obtain ⟨z18, rfl, hb17, H⟩ := hq
        refine A_lstore (L' := [some (av_R (some a0)), some (av_I a1), some (av_L a2), none, some (av_L a3), none, some (av_I x3), some (av_L x7), none, some (av_L x14), none, some (av_L z18), none, none, none, none, none, none, none]) d_Voice_addEvent_67 (Nat.le_of_ble_eq_true rfl) rfl ?_
        refine A_aload_n 0 d_Voice_addEvent_69 rfl rfl ?_
        refine A_getAv (z := some (a0 + 7)) T_ok d_Voice_addEvent_70 f_Voice_31 (hs_V hb17 ha0) (hr_V_8 hb17 ha0) ?_
        refine A_aload_n 0 d_Voice_addEvent_73 rfl rfl ?_
        refine A_getIf T_ok d_Voice_addEvent_74 f_Voice_60 (hs_V hb17 ha0) (fun x20 ex20 lx20 ux20 => ?_)
        replace H := H x20 ex20 lx20 ux20
        refine A_pc (pc' := 77) rfl ?_
        refine A_iload_n 1 d_Voice_addEvent_77 rfl rfl ?_
        have g21 := H.1
        replace H := H.2
        refine A_iastoreN d_Voice_addEvent_78 (hs_V_8 hb17 ha0) g21.1 g21.2 ?_
        refine A_hn (fun h22 eh22 => ?_)
        have hb23 := hb_i hb17 eh22
        replace H := H h22 eh22
        refine A_aload_n 0 d_Voice_addEvent_79 rfl rfl ?_
        refine A_getAv (z := some (a0 + 8)) T_ok d_Voice_addEvent_80 f_Voice_34 (hs_V hb23 ha0) (hr_V_9 hb23 ha0) ?_
        refine A_aload_n 0 d_Voice_addEvent_83 rfl rfl ?_
        refine A_getIv (z := x20) T_ok d_Voice_addEvent_84 f_Voice_60 (hs_V hb23 ha0) ((mm_i eh22 (fun q => by have := q.1; omega)).trans ex20.symm) ?_
        refine A_pc (pc' := 87) rfl ?_
        refine A_aload_n 0 d_Voice_addEvent_87 rfl rfl ?_
        refine A_getIf T_ok d_Voice_addEvent_88 f_Voice_63 (hs_V hb23 ha0) (fun x26 ex26 lx26 ux26 => ?_)
        replace H := H x26 ex26 lx26 ux26
        refine A_iconst d_Voice_addEvent_91 rfl ?_
        have g27 := H.1
        replace H := H.2
        refine A_isubv (z := (x26 - 1)) d_Voice_addEvent_92 (w32_to (by omega) (by unfold i32; omega)) ?_
        refine A_iastoreN d_Voice_addEvent_93 (hs_V_9 hb23 ha0) g21.1 g21.2 ?_
        refine A_hn (fun h28 eh28 => ?_)
        have hb29 := hb_i hb23 eh28
        replace H := H h28 eh28
        refine A_aload_n 0 d_Voice_addEvent_94 rfl rfl ?_
        refine A_pc (pc' := 95) rfl ?_
        refine A_getAv (z := some (a0 + 11)) T_ok d_Voice_addEvent_95 f_Voice_44 (hs_V hb29 ha0) (hr_V_12 hb29 ha0) ?_
        refine A_aload_n 0 d_Voice_addEvent_98 rfl rfl ?_
        refine A_getIv (z := x20) T_ok d_Voice_addEvent_99 f_Voice_60 (hs_V hb29 ha0) ((mm_i eh28 (fun q => by have := q.1; omega)).trans ((mm_i eh22 (fun q => by have := q.1; omega)).trans ex20.symm)) ?_
        refine A_lload d_Voice_addEvent_102 rfl ?_
        refine A_lload d_Voice_addEvent_104 rfl ?_
        have H0 := H.1
        replace H := H.2
        refine A_ldivc d_Voice_addEvent_106 H0 (fun x32 ex32 lx32 ux32 => ?_)
        replace H := H x32 ex32 lx32 ux32
        refine A_pc (pc' := 107) rfl ?_
        refine A_lastoreN d_Voice_addEvent_107 (hs_V_12 hb29 ha0) g21.1 g21.2 ?_
        refine A_hn (fun h33 eh33 => ?_)
        have hb34 := hb_l hb29 eh33
        replace H := H h33 eh33
        refine A_aload_n 0 d_Voice_addEvent_108 rfl rfl ?_
        refine A_getAv (z := some (a0 + 12)) T_ok d_Voice_addEvent_109 f_Voice_47 (hs_V hb34 ha0) (hr_V_13 hb34 ha0) ?_
        refine A_aload_n 0 d_Voice_addEvent_112 rfl rfl ?_
        refine A_getIv (z := x20) T_ok d_Voice_addEvent_113 f_Voice_60 (hs_V hb34 ha0) ((mm_lo eh33).trans ((mm_i eh28 (fun q => by have := q.1; omega)).trans ((mm_i eh22 (fun q => by have := q.1; omega)).trans ex20.symm))) ?_
        refine A_lload d_Voice_addEvent_116 rfl ?_
        refine A_pc (pc' := 118) rfl ?_
        refine A_lload d_Voice_addEvent_118 rfl ?_
        have H0 := H.1
        replace H := H.2
        refine A_ldivc d_Voice_addEvent_120 H0 (fun x37 ex37 lx37 ux37 => ?_)
        replace H := H x37 ex37 lx37 ux37
        refine A_lastoreN d_Voice_addEvent_121 (hs_V_13 hb34 ha0) g21.1 g21.2 ?_
        refine A_hn (fun h38 eh38 => ?_)
        have hb39 := hb_l hb34 eh38
        replace H := H h38 eh38
        refine A_aload_n 0 d_Voice_addEvent_122 rfl rfl ?_
        refine A_getAv (z := some (a0 + 11)) T_ok d_Voice_addEvent_123 f_Voice_44 (hs_V hb39 ha0) (hr_V_12 hb39 ha0) ?_
        refine A_aload_n 0 d_Voice_addEvent_126 rfl rfl ?_
        refine A_pc (pc' := 127) rfl ?_
        refine A_getIv (z := x20) T_ok d_Voice_addEvent_127 f_Voice_60 (hs_V hb39 ha0) ((mm_lo eh38).trans ((mm_lo eh33).trans ((mm_i eh28 (fun q => by have := q.1; omega)).trans ((mm_i eh22 (fun q => by have := q.1; omega)).trans ex20.symm)))) ?_
        refine A_laloadv (z := x32) d_Voice_addEvent_130 (hs_V_12 hb39 ha0) (by omega) (by omega) ((mm_l eh38 (fun q => by have := q.1; omega)).trans (mv_l eh33)) ?_
        refine A_aload_n 0 d_Voice_addEvent_131 rfl rfl ?_
        refine A_getAv (z := some (a0 + 12)) T_ok d_Voice_addEvent_132 f_Voice_47 (hs_V hb39 ha0) (hr_V_13 hb39 ha0) ?_
        refine A_aload_n 0 d_Voice_addEvent_135 rfl rfl ?_
        refine A_getIv (z := x20) T_ok d_Voice_addEvent_136 f_Voice_60 (hs_V hb39 ha0) ((mm_lo eh38).trans ((mm_lo eh33).trans ((mm_i eh28 (fun q => by have := q.1; omega)).trans ((mm_i eh22 (fun q => by have := q.1; omega)).trans ex20.symm)))) ?_
        refine A_pc (pc' := 139) rfl ?_
        refine A_laloadv (z := x37) d_Voice_addEvent_139 (hs_V_13 hb39 ha0) (by omega) (by omega) (mv_l eh38) ?_
        refine A_callS2 m_Voice_isTold d_Voice_addEvent_140 l_Voice_72 k_Voice_isTold (by decide +kernel) (by decide) (Nat.le_of_ble_eq_true rfl) H (fun r h46 hq => ?_)
        clear H
        obtain ⟨z48, rfl, hb47, H⟩ := hq
        refine A_if_ne (tgt := 148) d_Voice_addEvent_143 (by decide) (fun c => ?_) (fun c => ?_)
        · replace H := H.2 c
          refine A_aload_n 0 d_Voice_addEvent_148 rfl rfl ?_
          refine A_getAv (z := some (a0 + 9)) T_ok d_Voice_addEvent_149 f_Voice_37 (hs_V hb47 ha0) (hr_V_10 hb47 ha0) ?_
          refine A_aload_n 0 d_Voice_addEvent_152 rfl rfl ?_
          refine A_getIf T_ok d_Voice_addEvent_153 f_Voice_60 (hs_V hb47 ha0) (fun x50 ex50 lx50 ux50 => ?_)
          replace H := H x50 ex50 lx50 ux50
          have g52 := H.1
          replace H := H.2
          refine A_laloadf d_Voice_addEvent_156 (hs_V_10 hb47 ha0) g52.1 g52.2 (fun x51 ex51 lx51 ux51 => ?_)
          replace H := H x51 ex51 lx51 ux51
          refine A_pc (pc' := 157) rfl ?_
          refine A_aload_n 0 d_Voice_addEvent_157 rfl rfl ?_
          refine A_getAv (z := some (a0 + 12)) T_ok d_Voice_addEvent_158 f_Voice_47 (hs_V hb47 ha0) (hr_V_13 hb47 ha0) ?_
          refine A_aload_n 0 d_Voice_addEvent_161 rfl rfl ?_
          refine A_getIv (z := x50) T_ok d_Voice_addEvent_162 f_Voice_60 (hs_V hb47 ha0) ex50.symm ?_
          have g56 := H.1
          replace H := H.2
          refine A_laloadf d_Voice_addEvent_165 (hs_V_13 hb47 ha0) g56.1 g56.2 (fun x55 ex55 lx55 ux55 => ?_)
          replace H := H x55 ex55 lx55 ux55
          obtain ⟨x57, ex57⟩ : ∃ z : Int, z = x51 * x55 := ⟨_, rfl⟩
          replace H := H x57 ex57
          have g58 := H.1
          replace H := H.2
          refine A_lmulv (z := x57) d_Voice_addEvent_166 (w64_to ex57.symm (by unfold i64; omega)) ?_
          refine A_pc (pc' := 167) rfl ?_
          refine A_aload_n 0 d_Voice_addEvent_167 rfl rfl ?_
          refine A_getAv (z := some (a0 + 11)) T_ok d_Voice_addEvent_168 f_Voice_44 (hs_V hb47 ha0) (hr_V_12 hb47 ha0) ?_
          refine A_aload_n 0 d_Voice_addEvent_171 rfl rfl ?_
          refine A_getIv (z := x50) T_ok d_Voice_addEvent_172 f_Voice_60 (hs_V hb47 ha0) ex50.symm ?_
          refine A_laloadf d_Voice_addEvent_175 (hs_V_12 hb47 ha0) g56.1 g56.2 (fun x61 ex61 lx61 ux61 => ?_)
          replace H := H x61 ex61 lx61 ux61
          refine A_aload_n 0 d_Voice_addEvent_176 rfl rfl ?_
          refine A_pc (pc' := 177) rfl ?_
          refine A_getAv (z := some (a0 + 10)) T_ok d_Voice_addEvent_177 f_Voice_41 (hs_V hb47 ha0) (hr_V_11 hb47 ha0) ?_
          refine A_aload_n 0 d_Voice_addEvent_180 rfl rfl ?_
          refine A_getIv (z := x50) T_ok d_Voice_addEvent_181 f_Voice_60 (hs_V hb47 ha0) ex50.symm ?_
          refine A_laloadf d_Voice_addEvent_184 (hs_V_11 hb47 ha0) g52.1 g52.2 (fun x64 ex64 lx64 ux64 => ?_)
          replace H := H x64 ex64 lx64 ux64
          obtain ⟨x65, ex65⟩ : ∃ z : Int, z = x61 * x64 := ⟨_, rfl⟩
          replace H := H x65 ex65
          have g66 := H.1
          replace H := H.2
          refine A_lmulv (z := x65) d_Voice_addEvent_185 (w64_to ex65.symm (by unfold i64; omega)) ?_
          have g67 := H.1
          replace H := H.2
          refine A_laddv (z := (x57 + x65)) d_Voice_addEvent_186 (w64_to (by omega) (by unfold i64; omega)) ?_
          refine A_pc (pc' := 187) rfl ?_
          refine A_lstore (L' := [some (av_R (some a0)), some (av_I a1), some (av_L a2), none, some (av_L a3), none, some (av_I x3), some (av_L x7), none, some (av_L x14), none, some (av_L z18), none, some (av_L (x57 + x65)), none, none, none, none, none]) d_Voice_addEvent_187 (Nat.le_of_ble_eq_true rfl) rfl ?_
          refine A_aload_n 0 d_Voice_addEvent_189 rfl rfl ?_
          refine A_getAv (z := some (a0 + 10)) T_ok d_Voice_addEvent_190 f_Voice_41 (hs_V hb47 ha0) (hr_V_11 hb47 ha0) ?_
          refine A_aload_n 0 d_Voice_addEvent_193 rfl rfl ?_
          refine A_getIv (z := x50) T_ok d_Voice_addEvent_194 f_Voice_60 (hs_V hb47 ha0) ex50.symm ?_
          refine A_laloadv (z := x64) d_Voice_addEvent_197 (hs_V_11 hb47 ha0) (by omega) (by omega) ex64.symm ?_
          refine A_pc (pc' := 198) rfl ?_
          refine A_aload_n 0 d_Voice_addEvent_198 rfl rfl ?_
          refine A_getAv (z := some (a0 + 12)) T_ok d_Voice_addEvent_199 f_Voice_47 (hs_V hb47 ha0) (hr_V_13 hb47 ha0) ?_
          refine A_aload_n 0 d_Voice_addEvent_202 rfl rfl ?_
          refine A_getIv (z := x50) T_ok d_Voice_addEvent_203 f_Voice_60 (hs_V hb47 ha0) ex50.symm ?_
          refine A_laloadv (z := x55) d_Voice_addEvent_206 (hs_V_13 hb47 ha0) (by omega) (by omega) ex55.symm ?_
          obtain ⟨x74, ex74⟩ : ∃ z : Int, z = x64 * x55 := ⟨_, rfl⟩
          replace H := H x74 ex74
          have g75 := H.1
          replace H := H.2
          refine A_lmulv (z := x74) d_Voice_addEvent_207 (w64_to ex74.symm (by unfold i64; omega)) ?_
          refine A_pc (pc' := 208) rfl ?_
          refine A_lstore (L' := [some (av_R (some a0)), some (av_I a1), some (av_L a2), none, some (av_L a3), none, some (av_I x3), some (av_L x7), none, some (av_L x14), none, some (av_L z18), none, some (av_L (x57 + x65)), none, some (av_L x74), none, none, none]) d_Voice_addEvent_208 (Nat.le_of_ble_eq_true rfl) rfl ?_
          refine A_lload d_Voice_addEvent_210 rfl ?_
          refine A_lload d_Voice_addEvent_212 rfl ?_
          refine A_callS2 m_PM_greatestDivisor d_Voice_addEvent_214 l_Voice_68 k_PM_greatestDivisor (by decide +kernel) (by decide) (Nat.le_of_ble_eq_true rfl) H (fun r h76 hq => ?_)
          clear H
          obtain ⟨z78, rfl, hb77, H⟩ := hq
          refine A_lstore (L' := [some (av_R (some a0)), some (av_I a1), some (av_L a2), none, some (av_L a3), none, some (av_I x3), some (av_L x7), none, some (av_L x14), none, some (av_L z18), none, some (av_L (x57 + x65)), none, some (av_L x74), none, some (av_L z78), none]) d_Voice_addEvent_217 (Nat.le_of_ble_eq_true rfl) rfl ?_
          refine A_aload_n 0 d_Voice_addEvent_219 rfl rfl ?_
          refine A_dupR d_Voice_addEvent_220 ?_
          refine A_getIf T_ok d_Voice_addEvent_221 f_Voice_60 (hs_V hb77 ha0) (fun x79 ex79 lx79 ux79 => ?_)
          replace H := H x79 ex79 lx79 ux79
          refine A_iconst d_Voice_addEvent_224 rfl ?_
          refine A_pc (pc' := 225) rfl ?_
          have g80 := H.1
          replace H := H.2
          refine A_iaddv (z := (x79 + 1)) d_Voice_addEvent_225 (w32_to (by omega) (by unfold i32; omega)) ?_
          refine A_putI T_ok d_Voice_addEvent_226 f_Voice_60 (hs_V hb77 ha0) fin_f ?_
          refine A_hn (fun h81 eh81 => ?_)
          have hb82 := hb_i hb77 eh81
          replace H := H h81 eh81
          refine A_aload_n 0 d_Voice_addEvent_229 rfl rfl ?_
          refine A_getAv (z := some (a0 + 9)) T_ok d_Voice_addEvent_230 f_Voice_37 (hs_V hb82 ha0) (hr_V_10 hb82 ha0) ?_
          refine A_aload_n 0 d_Voice_addEvent_233 rfl rfl ?_
          refine A_getIv (z := (x79 + 1)) T_ok d_Voice_addEvent_234 f_Voice_60 (hs_V hb82 ha0) (mv_i eh81) ?_
          refine A_pc (pc' := 237) rfl ?_
          refine A_lload d_Voice_addEvent_237 rfl ?_
          refine A_lload d_Voice_addEvent_239 rfl ?_
          have H0 := H.1
          replace H := H.2
          refine A_ldivc d_Voice_addEvent_241 H0 (fun x85 ex85 lx85 ux85 => ?_)
          replace H := H x85 ex85 lx85 ux85
          have g86 := H.1
          replace H := H.2
          refine A_lastoreN d_Voice_addEvent_242 (hs_V_10 hb82 ha0) g86.1 g86.2 ?_
          refine A_hn (fun h87 eh87 => ?_)
          have hb88 := hb_l hb82 eh87
          replace H := H h87 eh87
          refine A_aload_n 0 d_Voice_addEvent_243 rfl rfl ?_
          refine A_getAv (z := some (a0 + 10)) T_ok d_Voice_addEvent_244 f_Voice_41 (hs_V hb88 ha0) (hr_V_11 hb88 ha0) ?_
          refine A_pc (pc' := 247) rfl ?_
          refine A_aload_n 0 d_Voice_addEvent_247 rfl rfl ?_
          refine A_getIv (z := (x79 + 1)) T_ok d_Voice_addEvent_248 f_Voice_60 (hs_V hb88 ha0) ((mm_lo eh87).trans (mv_i eh81)) ?_
          refine A_lload d_Voice_addEvent_251 rfl ?_
          refine A_lload d_Voice_addEvent_253 rfl ?_
          have H0 := H.1
          replace H := H.2
          refine A_ldivc d_Voice_addEvent_255 H0 (fun x91 ex91 lx91 ux91 => ?_)
          replace H := H x91 ex91 lx91 ux91
          refine A_lastoreN d_Voice_addEvent_256 (hs_V_11 hb88 ha0) g86.1 g86.2 ?_
          refine A_hn (fun h92 eh92 => ?_)
          have hb93 := hb_l hb88 eh92
          replace H := H h92 eh92
          refine A_pc (pc' := 257) rfl ?_
          refine A_aload_n 0 d_Voice_addEvent_257 rfl rfl ?_
          refine A_getAv (z := some (a0 + 9)) T_ok d_Voice_addEvent_258 f_Voice_37 (hs_V hb93 ha0) (hr_V_10 hb93 ha0) ?_
          refine A_aload_n 0 d_Voice_addEvent_261 rfl rfl ?_
          refine A_getIv (z := (x79 + 1)) T_ok d_Voice_addEvent_262 f_Voice_60 (hs_V hb93 ha0) ((mm_lo eh92).trans ((mm_lo eh87).trans (mv_i eh81))) ?_
          refine A_laloadv (z := x85) d_Voice_addEvent_265 (hs_V_10 hb93 ha0) (by omega) (by omega) ((mm_l eh92 (fun q => by have := q.1; omega)).trans (mv_l eh87)) ?_
          refine A_aload_n 0 d_Voice_addEvent_266 rfl rfl ?_
          refine A_pc (pc' := 267) rfl ?_
          refine A_getAv (z := some (a0 + 10)) T_ok d_Voice_addEvent_267 f_Voice_41 (hs_V hb93 ha0) (hr_V_11 hb93 ha0) ?_
          refine A_aload_n 0 d_Voice_addEvent_270 rfl rfl ?_
          refine A_getIv (z := (x79 + 1)) T_ok d_Voice_addEvent_271 f_Voice_60 (hs_V hb93 ha0) ((mm_lo eh92).trans ((mm_lo eh87).trans (mv_i eh81))) ?_
          refine A_laloadv (z := x91) d_Voice_addEvent_274 (hs_V_11 hb93 ha0) (by omega) (by omega) (mv_l eh92) ?_
          refine A_callS2 m_Voice_isTold d_Voice_addEvent_275 l_Voice_72 k_Voice_isTold (by decide +kernel) (by decide) (Nat.le_of_ble_eq_true rfl) H (fun r h100 hq => ?_)
          clear H
          obtain ⟨z102, rfl, hb101, H⟩ := hq
          exact A_zret d_Voice_addEvent_278 (by decide) rfl H.1 H.2
        · replace H := H.1 c
          refine A_iconst d_Voice_addEvent_146 rfl ?_
          exact A_zret d_Voice_addEvent_147 (by decide) rfl (by decide) H
      · replace H := H.2 c
        refine A_pc (pc' := 21) rfl ?_
        refine A_free (L' := [none, none, none, none, none, none, none, none, none, none, none, none, none, none, none, none, none, none, none]) trivial ?_
        exact b_Voice_addEvent_21 ha0   hb0 H
theorem c_Voice_addEvent {G : cx_T} {s : Nat} {a0 : Nat} {a1 : Int} {a2 : Int} {a3 : Int} (ha0 : isV a0) {h : ah_T} {Q : Option av_T → ah_T → Prop} (hb0 : hb s h) (H : i32 a1 → i64 a2 → i64 a3 → B_Voice_addEvent_0 G s a0 a1 a2 a3 h Q ) : con G 1 0 0 m_Voice_addEvent [av_R (some a0), av_I a1, av_L a2, av_L a3] h Q := by
  have hS : isS s := hb0.2.1
  refine con_of (L := [some (av_R (some a0)), some (av_I a1), some (av_L a2), none, some (av_L a3), none, none, none, none, none, none, none, none, none, none, none, none, none, none]) (by decide +kernel) (Nat.le_of_ble_eq_true rfl) rfl ?_
  refine A_locI 1 rfl (fun ra1 => ?_)
  refine A_locL 2 rfl (fun ra2 => ?_)
  refine A_locL 4 rfl (fun ra4 => ?_)
  exact b_Voice_addEvent_0 ha0  hb0 (H ra1 ra2 ra4)
def B_PM_greatestDivisor_58 (G : cx_T) (s : Nat) (a0 : Int) (a1 : Int) (t0 : Int) (h : ah_T) (Q : Option av_T → ah_T → Prop) : Prop :=
 Q (some (av_L t0)) h
theorem b_PM_greatestDivisor_58 {G : cx_T} {s : Nat} {a0 : Int} {a1 : Int} {t0 : Int} {h : ah_T} {Q : Option av_T → ah_T → Prop} (hb0 : hb s h) (H : B_PM_greatestDivisor_58 G s a0 a1 t0 h Q ) : aw G (rm_R 0 0 0) m_PM_greatestDivisor 0 0 58 [none, none, none, none, none, none, none, none, none, none, none] [av_L t0] h Q := by
  unfold B_PM_greatestDivisor_58 at H
  have hS : isS s := hb0.2.1
  exact A_lret d_PM_greatestDivisor_58 (by decide) rfl H
def B_PM_greatestDivisor_45 (G : cx_T) (s : Nat) (a0 : Int) (a1 : Int) (v4 : Int) (h : ah_T) (Q : Option av_T → ah_T → Prop) : Prop :=
 ((1 ≤ v4 → B_PM_greatestDivisor_58 G s a0 a1 (v4) h Q ) ∧ (¬ 1 ≤ v4 → B_PM_greatestDivisor_58 G s a0 a1 (1) h Q ))
theorem b_PM_greatestDivisor_45 {G : cx_T} {s : Nat} {a0 : Int} {a1 : Int} {v4 : Int} {h : ah_T} {Q : Option av_T → ah_T → Prop} (hb0 : hb s h) (H : B_PM_greatestDivisor_45 G s a0 a1 v4 h Q ) : aw G (rm_R 0 0 0) m_PM_greatestDivisor 0 0 45 [none, none, none, none, some (av_L v4), none, none, none, none, none, none] [] h Q := by
  unfold B_PM_greatestDivisor_45 at H
  have hS : isS s := hb0.2.1
  refine A_lload d_PM_greatestDivisor_45 rfl ?_
  refine A_lconst_1 d_PM_greatestDivisor_47 ?_
  refine A_lcmpn d_PM_greatestDivisor_48 (fun x1 lx1 ex1 gx1 _ _ => ?_)
  refine A_if_ge (tgt := 56) d_PM_greatestDivisor_49 (by decide) (fun c => ?_) (fun c => ?_)
  · replace H := H.1 (by omega)
    refine A_lload d_PM_greatestDivisor_56 rfl ?_
    refine A_pc (pc' := 58) rfl ?_
    refine A_free (L' := [none, none, none, none, none, none, none, none, none, none, none]) trivial ?_
    exact b_PM_greatestDivisor_58    hb0 H
  · replace H := H.2 (by omega)
    refine A_lconst_1 d_PM_greatestDivisor_52 ?_
    refine A_goto (tgt := 58) d_PM_greatestDivisor_53 (by decide) ?_
    refine A_pc (pc' := 58) rfl ?_
    refine A_free (L' := [none, none, none, none, none, none, none, none, none, none, none]) trivial ?_
    exact b_PM_greatestDivisor_58    hb0 H
def B_PM_greatestDivisor_9 (G : cx_T) (s : Nat) (a0 : Int) (a1 : Int) (v4 : Int) (v6 : Int) (v8 : Int) (h : ah_T) (Q : Option av_T → ah_T → Prop) (X9 : Int → Int → Int → ah_T → Prop) : Prop :=
 ((200 ≤ v8 → B_PM_greatestDivisor_45 G s a0 a1 (v4) h Q ) ∧ (¬ 200 ≤ v8 → ((v6 = 0 → B_PM_greatestDivisor_45 G s a0 a1 (v4) h Q ) ∧ (¬ v6 = 0 → (v6 ≠ 0) ∧ ∀ x2 : Int, x2 = (v4).tmod v6 → (-9223372036854775808) ≤ x2 → x2 ≤ 9223372036854775807 → ((-2147483648) ≤ (v8 + 1) ∧ (v8 + 1) ≤ 2147483647) ∧ X9 (v6) (x2) ((v8 + 1)) h))))
theorem b_PM_greatestDivisor_9 {G : cx_T} {s : Nat} {a0 : Int} {a1 : Int} {v4 : Int} {v6 : Int} {v8 : Int} {h : ah_T} {Q : Option av_T → ah_T → Prop} {X9 : Int → Int → Int → ah_T → Prop} (hX9 : ∀ (v4 : Int) (v6 : Int) (v8 : Int) (h : ah_T), hb s h → X9 v4 v6 v8 h → aw G (rm_R 0 0 0) m_PM_greatestDivisor 0 0 9 [none, none, none, none, some (av_L v4), none, some (av_L v6), none, some (av_I v8), none, none] [] h Q) (hb0 : hb s h) (H : B_PM_greatestDivisor_9 G s a0 a1 v4 v6 v8 h Q X9) : aw G (rm_R 0 0 0) m_PM_greatestDivisor 0 0 9 [none, none, none, none, some (av_L v4), none, some (av_L v6), none, some (av_I v8), none, none] [] h Q := by
  unfold B_PM_greatestDivisor_9 at H
  have hS : isS s := hb0.2.1
  refine A_iload d_PM_greatestDivisor_9 rfl ?_
  refine A_sipush d_PM_greatestDivisor_11 rfl ?_
  refine A_icmp_ge (tgt := 45) d_PM_greatestDivisor_14 (by decide) (fun c => ?_) (fun c => ?_)
  · replace H := H.1 c
    refine A_pc (pc' := 45) rfl ?_
    refine A_free (L' := [none, none, none, none, some (av_L v4), none, none, none, none, none, none]) (And.intro rfl trivial) ?_
    exact b_PM_greatestDivisor_45    hb0 H
  · replace H := H.2 c
    refine A_lload d_PM_greatestDivisor_17 rfl ?_
    refine A_lconst_0 d_PM_greatestDivisor_19 ?_
    refine A_lcmpn d_PM_greatestDivisor_20 (fun x1 lx1 ex1 gx1 _ _ => ?_)
    refine A_if_eq (tgt := 45) d_PM_greatestDivisor_21 (by decide) (fun c => ?_) (fun c => ?_)
    · replace H := H.1 (by omega)
      refine A_pc (pc' := 45) rfl ?_
      refine A_free (L' := [none, none, none, none, some (av_L v4), none, none, none, none, none, none]) (And.intro rfl trivial) ?_
      exact b_PM_greatestDivisor_45    hb0 H
    · replace H := H.2 (by omega)
      refine A_lload d_PM_greatestDivisor_24 rfl ?_
      refine A_lload d_PM_greatestDivisor_26 rfl ?_
      have H0 := H.1
      replace H := H.2
      refine A_lremc d_PM_greatestDivisor_28 H0 (fun x2 ex2 lx2 ux2 => ?_)
      replace H := H x2 ex2 lx2 ux2
      refine A_lstore (L' := [none, none, none, none, some (av_L v4), none, some (av_L v6), none, some (av_I v8), some (av_L x2), none]) d_PM_greatestDivisor_29 (Nat.le_of_ble_eq_true rfl) rfl ?_
      refine A_lload d_PM_greatestDivisor_31 rfl ?_
      refine A_pc (pc' := 33) rfl ?_
      refine A_lstore (L' := [none, none, none, none, some (av_L v6), none, some (av_L v6), none, some (av_I v8), some (av_L x2), none]) d_PM_greatestDivisor_33 (Nat.le_of_ble_eq_true rfl) rfl ?_
      refine A_lload d_PM_greatestDivisor_35 rfl ?_
      refine A_lstore (L' := [none, none, none, none, some (av_L v6), none, some (av_L x2), none, some (av_I v8), some (av_L x2), none]) d_PM_greatestDivisor_37 (Nat.le_of_ble_eq_true rfl) rfl ?_
      have g3 := H.1
      replace H := H.2
      refine A_iincv (z := (v8 + 1)) (L' := [none, none, none, none, some (av_L v6), none, some (av_L x2), none, some (av_I (v8 + 1)), some (av_L x2), none]) d_PM_greatestDivisor_39 rfl (w32_to (by omega) (by unfold i32; omega)) rfl ?_
      refine A_goto (tgt := 9) d_PM_greatestDivisor_42 (by decide) ?_
      refine A_pc (pc' := 9) rfl ?_
      refine A_free (L' := [none, none, none, none, some (av_L v6), none, some (av_L x2), none, some (av_I (v8 + 1)), none, none]) (And.intro rfl (And.intro rfl (And.intro rfl trivial))) ?_
      exact hX9 (v6) (x2) ((v8 + 1)) h  hb0 H
theorem lp_PM_greatestDivisor_9 {G : cx_T} {s : Nat} {a0 : Int} {a1 : Int} {Q : Option av_T → ah_T → Prop} (I : Int → Int → Int → ah_T → Prop) (μ : Int → Int → Int → ah_T → Nat) (hI : ∀ (v4 : Int) (v6 : Int) (v8 : Int) (h : ah_T), hb s h → I v4 v6 v8 h → B_PM_greatestDivisor_9 G s a0 a1 v4 v6 v8 h Q (fun v4' v6' v8' h' => I v4' v6' v8' h' ∧ μ v4' v6' v8' h' < μ v4 v6 v8 h)) : ∀ (v4 : Int) (v6 : Int) (v8 : Int) (h : ah_T), hb s h → I v4 v6 v8 h → aw G (rm_R 0 0 0) m_PM_greatestDivisor 0 0 9 [none, none, none, none, some (av_L v4), none, some (av_L v6), none, some (av_I v8), none, none] [] h Q := by
  have key : ∀ (n : Nat) (v4 : Int) (v6 : Int) (v8 : Int) (h : ah_T), hb s h → I v4 v6 v8 h → μ v4 v6 v8 h < n → aw G (rm_R 0 0 0) m_PM_greatestDivisor 0 0 9 [none, none, none, none, some (av_L v4), none, some (av_L v6), none, some (av_I v8), none, none] [] h Q := by
    intro n
    induction n with
    | zero => intro v4 v6 v8 h  hb0 hi hm; omega
    | succ n ih => intro v4 v6 v8 h  hb0 hi hm; exact b_PM_greatestDivisor_9  (fun v4' v6' v8' h'  hb' hx => ih v4' v6' v8' h'  hb' hx.1 (by have := hx.2; omega))  hb0 (hI v4 v6 v8 h  hb0 hi)
  exact fun v4 v6 v8 h  hb0 hi => key _ v4 v6 v8 h  hb0 hi (Nat.lt_succ_self _)
def B_PM_greatestDivisor_0 (G : cx_T) (s : Nat) (a0 : Int) (a1 : Int) (h : ah_T) (Q : Option av_T → ah_T → Prop) (X9 : Int → Int → Int → ah_T → Prop) : Prop :=
 X9 (a0) (a1) (0) h
theorem b_PM_greatestDivisor_0 {G : cx_T} {s : Nat} {a0 : Int} {a1 : Int} {h : ah_T} {Q : Option av_T → ah_T → Prop} {X9 : Int → Int → Int → ah_T → Prop} (hX9 : ∀ (v4 : Int) (v6 : Int) (v8 : Int) (h : ah_T), hb s h → X9 v4 v6 v8 h → aw G (rm_R 0 0 0) m_PM_greatestDivisor 0 0 9 [none, none, none, none, some (av_L v4), none, some (av_L v6), none, some (av_I v8), none, none] [] h Q) (hb0 : hb s h) (H : B_PM_greatestDivisor_0 G s a0 a1 h Q X9) : aw G (rm_R 0 0 0) m_PM_greatestDivisor 0 0 0 [some (av_L a0), none, some (av_L a1), none, none, none, none, none, none, none, none] [] h Q := by
  unfold B_PM_greatestDivisor_0 at H
  have hS : isS s := hb0.2.1
  refine A_lload_n 0 d_PM_greatestDivisor_0 rfl rfl ?_
  refine A_lstore (L' := [some (av_L a0), none, some (av_L a1), none, some (av_L a0), none, none, none, none, none, none]) d_PM_greatestDivisor_1 (Nat.le_of_ble_eq_true rfl) rfl ?_
  refine A_lload_n 2 d_PM_greatestDivisor_3 rfl rfl ?_
  refine A_lstore (L' := [some (av_L a0), none, some (av_L a1), none, some (av_L a0), none, some (av_L a1), none, none, none, none]) d_PM_greatestDivisor_4 (Nat.le_of_ble_eq_true rfl) rfl ?_
  refine A_iconst d_PM_greatestDivisor_6 rfl ?_
  refine A_pc (pc' := 7) rfl ?_
  refine A_istore (L' := [some (av_L a0), none, some (av_L a1), none, some (av_L a0), none, some (av_L a1), none, some (av_I 0), none, none]) d_PM_greatestDivisor_7 (Nat.le_of_ble_eq_true rfl) rfl ?_
  refine A_pc (pc' := 9) rfl ?_
  refine A_free (L' := [none, none, none, none, some (av_L a0), none, some (av_L a1), none, some (av_I 0), none, none]) (And.intro rfl (And.intro rfl (And.intro rfl trivial))) ?_
  exact hX9 (a0) (a1) (0) h  hb0 H
theorem c_PM_greatestDivisor {G : cx_T} {s : Nat} {a0 : Int} {a1 : Int} {h : ah_T} {Q : Option av_T → ah_T → Prop} {X9 : Int → Int → Int → ah_T → Prop} (hX9 : ∀ (v4 : Int) (v6 : Int) (v8 : Int) (h : ah_T), hb s h → X9 v4 v6 v8 h → aw G (rm_R 0 0 0) m_PM_greatestDivisor 0 0 9 [none, none, none, none, some (av_L v4), none, some (av_L v6), none, some (av_I v8), none, none] [] h Q) (hb0 : hb s h) (H : i64 a0 → i64 a1 → B_PM_greatestDivisor_0 G s a0 a1 h Q X9) : con G 0 0 0 m_PM_greatestDivisor [av_L a0, av_L a1] h Q := by
  have hS : isS s := hb0.2.1
  refine con_of (L := [some (av_L a0), none, some (av_L a1), none, none, none, none, none, none, none, none]) (by decide +kernel) (Nat.le_of_ble_eq_true rfl) rfl ?_
  refine A_locL 0 rfl (fun ra0 => ?_)
  refine A_locL 2 rfl (fun ra2 => ?_)
  exact b_PM_greatestDivisor_0  hX9 hb0 (H ra0 ra2)
