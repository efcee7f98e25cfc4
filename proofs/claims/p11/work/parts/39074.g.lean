/-! ===== the class: score ===== -/
/-- the score in use -/
def CKn (μ : pm_T) (c : Nat) (h : ah_T) : Prop := (h.2.1 c 1 = μ 0 7 ∧ h.2.1 c 2 = μ 0 1 ∧ h.2.1 c 3 = μ 0 2 ∧ h.2.1 c 6 = μ 0 3 ∧ h.2.1 c 10 = μ 0 4 ∧ h.2.1 c 12 = μ 0 5) ∧
  ((0 ≤ μ 0 3 ∧ μ 0 3 ≤ 8) ∧ (0 ≤ μ 0 4 ∧ μ 0 4 ≤ 24) ∧ (0 ≤ μ 0 5 ∧ μ 0 5 ≤ 12) ∧ (0 ≤ μ 0 7 ∧ μ 0 7 ≤ 4)) ∧
  (∀ j : Nat, (j : Int) < μ 0 3 → h.2.1 (c + 2) j = μ 1 j) ∧ (∀ j : Nat, (j : Int) < μ 0 4 → h.2.1 (c + 3) j = μ 2 j ∧ h.2.1 (c + 4) j = μ 3 j ∧ h.2.1 (c + 5) j = μ 4 j) ∧ (∀ j : Nat, (j : Int) < μ 0 5 → h.2.1 (c + 6) j = μ 5 j) ∧ RVs μ c h
theorem CKn_of {t : tk_T} {m i s : Nat} {μ : pm_T} {h : ah_T} (H : RCv t m i μ s h) : CKn μ s h := by
  obtain ⟨⟨-, ⟨⟨a0, a1, a2, a3, a4, a5, a6, a7⟩, ⟨b3, b4, b5, b6, b7⟩, l, ru, ro, na⟩, -⟩, V⟩ := H
  exact ⟨⟨a7, a1, a2, a3, a4, a5⟩, ⟨b3, b4, b5, b7⟩, l, ru, ro, V⟩
theorem CKn_f {μ : pm_T} {c : Nat} {h h' : ah_T} {W : Nat → Nat → Prop} (H : CKn μ c h) (f : fr W h h') (hW : ∀ a k, W a k → a < c ∨ c + 62 < a) : CKn μ c h' := by
  obtain ⟨⟨a1, a2, a3, a4, a5, a6⟩, b, l, ru, ro, V⟩ := H
  have g : ∀ a k, c ≤ a → a ≤ c + 62 → h'.2.1 a k = h.2.1 a k := fun a k q1 q2 => fr_g f (fun w => by have := hW a k w; omega)
  refine ⟨⟨by rw [g _ _ (by omega) (by omega)]; exact a1, by rw [g _ _ (by omega) (by omega)]; exact a2, by rw [g _ _ (by omega) (by omega)]; exact a3, by rw [g _ _ (by omega) (by omega)]; exact a4, by rw [g _ _ (by omega) (by omega)]; exact a5, by rw [g _ _ (by omega) (by omega)]; exact a6⟩, b, fun j hj => ?_, fun j hj => ?_, fun j hj => ?_, fun n hn => ⟨RVo_f (V n hn).1 f (fun a k w => ?_), (V n hn).2⟩⟩
  · rw [g _ _ (by omega) (by omega)]; exact l j hj
  · rw [g _ _ (by omega) (by omega), g _ _ (by omega) (by omega), g _ _ (by omega) (by omega)]; exact ru j hj
  · rw [g _ _ (by omega) (by omega)]; exact ro j hj
  · have := hW a k w
    have := b.2.2.2.2
    omega
theorem t_Score_voiceAt {G : cx_T} {s c : Nat} {h : ah_T} {μ : pm_T} {v : Int} (hb0 : hb s h) (hc : isS c) (H : CKn μ c h) : con G 0 0 0 m_Score_voiceAt [av_R (some c), av_I v] h (fun r h' => hb s h' ∧ h' = h ∧ ((0 ≤ v ∧ v < μ 0 7 ∧ r = some (av_R (some (c + 7 + 14 * v.toNat)))) ∨ (¬ (0 ≤ v ∧ v < μ 0 7) ∧ r = some (av_R none)))) := by
  refine c_Score_voiceAt hc hb0 (fun _ => ?_)
  have h1 := H.1.1
  have b := H.2.1.2.2.2
  unfold B_Score_voiceAt_0 B_Score_voiceAt_30
  refine ⟨fun q => ⟨hb0, rfl, Or.inr ⟨by omega, rfl⟩⟩, fun q x1 e1 _ _ => ?_⟩
  refine ⟨fun q2 => ⟨hb0, rfl, Or.inr ⟨by omega, rfl⟩⟩, fun q2 => ⟨fun q3 => by omega, fun q3 => ⟨⟨by omega, by omega⟩, hb0, rfl, Or.inl ⟨by omega, by omega, rfl⟩⟩⟩⟩
theorem t_Score_allEvents {G : cx_T} {s c : Nat} {h : ah_T} {μ : pm_T} (hb0 : hb s h) (hc : isS c) (H : CKn μ c h) : con G 1 0 0 m_Score_allEvents [av_R (some c)] h (fun r h' => hb s h' ∧ h' = h ∧ r = some (av_I (evs μ (μ 0 7).toNat))) := by
  have h1 := H.1.1
  have b := H.2.1.2.2.2
  have V := H.2.2.2.2.2
  refine c_Score_allEvents hc (X4 := fun v1 v2 hh => hh = h ∧ ∃ n : Nat, v2 = (n : Int) ∧ (n : Int) ≤ μ 0 7 ∧ v1 = evs μ n) ?_ hb0 ?_
  · refine lp_Score_allEvents_4 hc _ (fun _ v2 _ => (5 - v2).toNat) ?_
    rintro v1 v2 hh hb1 ⟨rfl, n, rfl, hn, rfl⟩
    have bn := evs_b (μ := μ) n (fun k hk => (V k (by omega)).2.1)
    unfold B_Score_allEvents_4
    intro x1 e1 _ _
    have ex1 : x1 = μ 0 7 := e1.trans h1
    subst ex1
    refine ⟨fun q => ⟨hb1, rfl, ?_⟩, fun q => ?_⟩
    · have : (μ 0 7).toNat = n := by omega
      rw [this]
    · refine con_mono (t_Score_voiceAt hb1 hc H) ?_
      rintro r h2 ⟨hb2, rfl, ⟨q1, q2, rfl⟩ | ⟨q1, -⟩⟩
      · rw [tn_c]
        refine ⟨_, rfl, hb2, Or.inr ⟨_, rfl, ?_, fun x5 e5 _ _ => ?_⟩⟩
        · unfold isV; unfold isS at hc; omega
        · have ex5 : x5 = μ (10 + n) 0 := e5.trans (V n q2).1.1.1
          have bx := (V n q2).2.1
          unfold B_Score_allEvents_31
          exact ⟨⟨by omega, by omega⟩, ⟨by omega, by omega⟩, ⟨rfl, n + 1, by omega, by omega, by rw [evs, ex5]⟩, by omega⟩
      · omega
  · unfold B_Score_allEvents_0
    exact ⟨rfl, 0, rfl, b.1, rfl⟩
abbrev WFg : Nat → Nat → Prop := fun a k => ((a = 143 ∨ a = 146 ∨ a = 150 ∨ a = 158 ∨ a = 162) ∧ k = 1) ∨ (a = 164 ∧ (k = 5 ∨ k = 7))
def Fgt (h : ah_T) : Prop := h.2.1 143 1 = 0 ∧ h.2.1 146 1 = 0 ∧ h.2.1 150 1 = 0 ∧ h.2.1 158 1 = 0 ∧ h.2.1 162 1 = 0 ∧ h.2.1 164 5 = 0 ∧ h.2.1 164 7 = 0
theorem t_PM_forgetFindings {G : cx_T} {s : Nat} {h : ah_T} (hb0 : hb s h) : con G 1 0 0 m_PM_forgetFindings [av_R (some 0)] h (fun r h' => r = none ∧ hb s h' ∧ fr WFg h h' ∧ Fgt h') := by
  refine c_PM_forgetFindings hb0 ?_
  unfold B_PM_forgetFindings_0
  refine con_mono (c_Judge_forget (Q := fun r h' => r = none ∧ hb s h' ∧ h' = st_i h 143 1 0) hb0 (by unfold B_Judge_forget_0; exact fun h1 e1 => ⟨rfl, hb_i hb0 e1, e1⟩)) ?_
  rintro r h1 ⟨rfl, hb1, e1⟩
  refine ⟨rfl, hb1, con_mono (c_Beams_forget (Q := fun r h' => r = none ∧ hb s h' ∧ h' = st_i h1 146 1 0) hb1 (by unfold B_Beams_forget_0; exact fun h2 e2 => ⟨rfl, hb_i hb1 e2, e2⟩)) ?_⟩
  rintro r h2 ⟨rfl, hb2, e2⟩
  refine ⟨rfl, hb2, con_mono (c_Page_forget (Q := fun r h' => r = none ∧ hb s h' ∧ h' = st_i h2 150 1 0) hb2 (by unfold B_Page_forget_0; exact fun h3 e3 => ⟨rfl, hb_i hb2 e3, e3⟩)) ?_⟩
  rintro r h3 ⟨rfl, hb3, e3⟩
  refine ⟨rfl, hb3, con_mono (c_Seconds_forget (Q := fun r h' => r = none ∧ hb s h' ∧ h' = st_i h3 158 1 0) hb3 (by unfold B_Seconds_forget_0; exact fun h4 e4 => ⟨rfl, hb_i hb3 e4, e4⟩)) ?_⟩
  rintro r h4 ⟨rfl, hb4, e4⟩
  refine ⟨rfl, hb4, con_mono (c_Trees_forget (Q := fun r h' => r = none ∧ hb s h' ∧ h' = st_i h4 162 1 0) hb4 (by unfold B_Trees_forget_0; exact fun h5 e5 => ⟨rfl, hb_i hb4 e5, e5⟩)) ?_⟩
  rintro r h5 ⟨rfl, hb5, e5⟩
  refine ⟨rfl, hb5, con_mono (c_Pairing_forget (Q := fun r h' => r = none ∧ hb s h' ∧ ∃ h6, h6 = st_i h5 164 5 0 ∧ h' = st_i h6 164 7 0) hb5 (by unfold B_Pairing_forget_0; exact fun h6 e6 h7 e7 => ⟨rfl, hb_i (hb_i hb5 e6) e7, h6, e6, e7⟩)) ?_⟩
  rintro r h7 ⟨rfl, hb7, h6, e6, e7⟩
  refine ⟨rfl, hb7, rfl, hb7, fr_i (fr_i (fr_i (fr_i (fr_i (fr_i (fr_i fr_0 e1 (by omega)) e2 (by omega)) e3 (by omega)) e4 (by omega)) e5 (by omega)) e6 (by omega)) e7 (by omega), ?_, ?_, ?_, ?_, ?_, ?_, mv_i e7⟩
  · rw [mm_i e7 (by omega), mm_i e6 (by omega), mm_i e5 (by omega), mm_i e4 (by omega), mm_i e3 (by omega), mm_i e2 (by omega), mv_i e1]
  · rw [mm_i e7 (by omega), mm_i e6 (by omega), mm_i e5 (by omega), mm_i e4 (by omega), mm_i e3 (by omega), mv_i e2]
  · rw [mm_i e7 (by omega), mm_i e6 (by omega), mm_i e5 (by omega), mm_i e4 (by omega), mv_i e3]
  · rw [mm_i e7 (by omega), mm_i e6 (by omega), mm_i e5 (by omega), mv_i e4]
  · rw [mm_i e7 (by omega), mm_i e6 (by omega), mv_i e5]
  · rw [mm_i e7 (by omega), mv_i e6]
theorem t_Reader_swap {G : cx_T} {s : Nat} {h : ah_T} (hx : hb s h) : con G 0 0 0 m_Reader_swap [av_R (some 2), av_R (some (97 - s))] h (fun r h' => r = some (av_R (some s)) ∧ h' = st_r h 2 5 (some (97 - s))) := by
  refine con_of (L := [some (av_R (some 2)), some (av_R (some (97 - s))), none]) (by decide +kernel) (Nat.le_of_ble_eq_true rfl) rfl ?_
  refine A_aload_n 0 d_Reader_swap_0 rfl rfl ?_
  refine A_getOv (z := some s) T_ok d_Reader_swap_1 f_Reader_32 (hb_s hx sf_2) hx.2.2.2.1 ?_
  refine A_astore_n 2 (L' := [some (av_R (some 2)), some (av_R (some (97 - s))), some (av_R (some s))]) d_Reader_swap_4 rfl (Nat.le_of_ble_eq_true rfl) rfl ?_
  refine A_aload_n 0 d_Reader_swap_5 rfl rfl ?_
  refine A_aload_n 1 d_Reader_swap_6 rfl rfl ?_
  refine A_putRv T_ok d_Reader_swap_7 f_Reader_32 ty_o (hb_s hx sf_2) fin_f (fun h1 e1 => ?_)
  refine A_aload_n 2 d_Reader_swap_10 rfl rfl ?_
  exact A_aret d_Reader_swap_11 (by decide) rfl ty_o ⟨rfl, e1⟩
theorem hb_sw {s : Nat} {h : ah_T} (hk : hb s h) : hb (97 - s) (st_r (st_r h 2 5 (some (97 - s))) 0 3 (some s)) := by
  obtain ⟨x1, x2, x3, x4, x5, x6, x7⟩ := hk
  have hs : s = 17 ∨ s = 80 := x2
  have key : ∀ a k, ¬ (a = 0 ∧ k = 3) → ¬ (a = 2 ∧ k = 5) → (st_r (st_r h 2 5 (some (97 - s))) 0 3 (some s)).2.2.2 a k = h.2.2.2 a k := fun a k q1 q2 => (up2_o q1).trans (up2_o q2)
  have e1 : 97 - (97 - s) = s := by omega
  refine ⟨x1, by unfold isS; omega, ?_, ?_, ?_, fun q hq => ?_, fun q hq => ?_⟩
  · rw [e1]; simp [st_r, up2]
  · simp [st_r, up2]
  · rw [key 3 6 (by decide) (by decide)]; exact x5
  · have h9 : ∀ q ∈ rf_L, ¬ (q.1 = 0 ∧ q.2.1 = 3) ∧ ¬ (q.1 = 2 ∧ q.2.1 = 5) := by decide +kernel
    rw [key _ _ (h9 q hq).1 (h9 q hq).2]
    exact x6 q hq
  · rw [key 170 q.1 (by omega) (by omega)]; exact x7 q hq
theorem fr_sw {s : Nat} {W : Nat → Nat → Prop} {h0 h : ah_T} (f : fr W h0 h) : fr W h0 (st_r (st_r h 2 5 (some (97 - s))) 0 3 (some s)) := by
  refine ⟨f.1, fun q => ?_⟩
  have := f.2 q
  have key : ∀ a k, ¬ (a = 0 ∧ k = 3) → ¬ (a = 2 ∧ k = 5) → (st_r (st_r h 2 5 (some (97 - s))) 0 3 (some s)).2.2.2 a k = h.2.2.2 a k := fun a k q1 q2 => (up2_o q1).trans (up2_o q2)
  rw [key 3 6 (by decide) (by decide)]; exact this
def PScl (s s' : Nat) (R : F_T ⊕ pm_T) (z : Int) (h h' : ah_T) : Prop := match R with
  | .inl q => s' = s ∧ z = -10 - q.1 ∧ q.1 ≠ 0 ∧ h'.2.1 0 4 = q.2 ∧ fr (fun a k => WY s a k ∨ (a = 0 ∧ (k = 1 ∨ k = 4))) h h'
  | .inr μ => s' = 97 - s ∧ z = evs μ (μ 0 7).toNat ∧ h'.2.1 0 4 = -2 ∧ CKn μ s h' ∧ Fgt h'
theorem t_PM_score {G : cx_T} {s n : Nat} {h : ah_T} {T : Nat → Int} (hb0 : hb s h) (hn : h.2.1 0 1 = (n : Int)) (hn2 : n ≤ 2000) (hT : ∀ j, j < n → h.2.1 1 j = T j ∧ 0 ≤ T j ∧ T j ≤ 255) :
    con G 24 0 0 m_PM_score [av_R (some 0)] h (fun r h' => ∃ z s', r = some (av_I z) ∧ hb s' h' ∧ fr (fun a _ => a < 170) h h' ∧ h'.2.1 0 1 = 0 ∧ ∃ (t : tk_T) (m : Nat) (a b : Nat → Nat), TkA T n t m a b ∧ PScl s s' (sp_score t) z h h') := by
  have hS : isS s := hb0.2.1
  have hs0 : s = 17 ∨ s = 80 := hS
  refine con_of (L := [some (av_R (some 0)), none]) (by decide +kernel) (Nat.le_of_ble_eq_true rfl) rfl ?_
  refine A_aload_n 0 d_PM_score_0 rfl rfl ?_
  refine A_getOv (z := some 2) T_ok d_PM_score_1 f_PM_20 (hb_s hb0 sf_0) (hb_r hb0 rff_0_2) ?_
  refine A_aload_n 0 d_PM_score_4 rfl rfl ?_
  refine A_getAv (z := some 1) T_ok d_PM_score_5 f_PM_9 (hb_s hb0 sf_0) (hb_r hb0 rff_0_0) ?_
  refine A_aload_n 0 d_PM_score_8 rfl rfl ?_
  refine A_pc (pc' := 9) rfl ?_
  refine A_getIf T_ok d_PM_score_9 f_PM_13 (hb_s hb0 sf_0) (fun x3 ex3 _ _ => ?_)
  have ex3' : x3 = (n : Int) := ex3.trans hn
  subst ex3'
  refine A_callV2 m_Reader_read T_ok d_PM_score_12 l_PM_80 k_Reader_read (hb_s hb0 sf_2) rfl (by decide +kernel) (by decide) (Nat.le_of_ble_eq_true rfl) (t_Reader_read hb0 hT hn2) (fun r h4 hq => ?_)
  obtain ⟨z, rfl, hb4, f4, t, m, a, b, hA, hR⟩ := hq
  have fb := FN_score (t := t)
  refine A_istore_n 1 (L' := [some (av_R (some 0)), some (av_I z)]) d_PM_score_15 rfl (Nat.le_of_ble_eq_true rfl) rfl ?_
  refine A_aload_n 0 d_PM_score_16 rfl rfl ?_
  refine A_iconst d_PM_score_17 rfl ?_
  refine A_putIv T_ok d_PM_score_18 f_PM_13 (hb_s hb4 sf_0) fin_f (fun h8 e8 => ?_)
  have hb8 := hb_i hb4 e8
  have f8 : fr (fun a k => WY s a k ∨ (a = 0 ∧ (k = 1 ∨ k = 4))) h h8 := fr_i (fr_w f4 (fun a k w => Or.inl w)) e8 (Or.inr ⟨rfl, Or.inl rfl⟩)
  refine A_iload_n 1 d_PM_score_21 rfl rfl ?_
  refine A_pc (pc' := 22) rfl ?_
  generalize es : sp_score t = R at *
  refine A_if_eq (tgt := 41) d_PM_score_22 (by decide) (fun c10 => ?_) (fun c10 => ?_)
  · rcases R with q | μ
    · exact absurd c10 (by have := hR.1; have := hR.2.1; omega)
    obtain ⟨-, i, HV⟩ := hR
    refine A_aload_n 0 d_PM_score_41 rfl rfl ?_
    refine A_bipush d_PM_score_42 rfl ?_
    refine A_putIv T_ok d_PM_score_44 f_PM_31 (hb_s hb8 sf_0) fin_f (fun h11 e11 => ?_)
    have hb11 := hb_i hb8 e11
    have f11 : fr (fun a k => WY s a k ∨ (a = 0 ∧ (k = 1 ∨ k = 4))) h h11 := fr_i f8 e11 (Or.inr ⟨rfl, Or.inr rfl⟩)
    refine A_aload_n 0 d_PM_score_47 rfl rfl ?_
    refine A_aload_n 0 d_PM_score_48 rfl rfl ?_
    refine A_pc (pc' := 49) rfl ?_
    refine A_getOv (z := some 2) T_ok d_PM_score_49 f_PM_20 (hb_s hb11 sf_0) (hb_r hb11 rff_0_2) ?_
    refine A_aload_n 0 d_PM_score_52 rfl rfl ?_
    refine A_getOv (z := some (97 - s)) T_ok d_PM_score_53 f_PM_27 (hb_s hb11 sf_0) hb11.2.2.1 ?_
    refine A_callV1 m_Reader_swap T_ok d_PM_score_56 l_PM_85 k_Reader_swap (hb_s hb11 sf_2) rfl (by decide +kernel) (by decide) (Nat.le_of_ble_eq_true rfl) (t_Reader_swap hb11) (fun r h15 hq => ?_)
    obtain ⟨rfl, eh15⟩ := hq
    refine A_putRv T_ok d_PM_score_59 f_PM_27 ty_o (by rw [eh15]; exact (hb_s hb11 sf_0)) fin_f (fun h16 eh16 => ?_)
    have hb16 : hb (97 - s) h16 := by rw [eh16, eh15]; exact hb_sw hb11
    have f16 : fr (fun a k => WY s a k ∨ (a = 0 ∧ (k = 1 ∨ k = 4))) h h16 := by rw [eh16, eh15]; exact fr_sw f11
    have i16 : h16.2.1 = h11.2.1 ∧ h16.2.2.1 = h11.2.2.1 := by rw [eh16, eh15]; exact ⟨rfl, rfl⟩
    have K4 : CKn μ s h4 := CKn_of HV
    have K11 : CKn μ s h11 := CKn_f (CKn_f K4 (fr_i (W := fun a k => a = 0) fr_0 e8 rfl) (fun a k w => by omega)) (fr_i (W := fun a k => a = 0) fr_0 e11 rfl) (fun a k w => by omega)
    have K16 : CKn μ s h16 := by rw [eh16, eh15]; exact K11
    have c01 : h16.2.1 0 1 = 0 := by rw [i16.1, mm_i e11 (by omega), mv_i e8]
    have c04 : h16.2.1 0 4 = -2 := by rw [i16.1, mv_i e11]
    have e97 : 97 - (97 - s) = s := by omega
    obtain ⟨s2, es2⟩ : ∃ q, q = 97 - s := ⟨_, rfl⟩
    rw [← es2] at hb16 e97
    refine A_aload_n 0 d_PM_score_62 rfl rfl ?_
    refine A_callV0 m_PM_forgetFindings T_ok d_PM_score_63 l_PM_89 k_PM_forgetFindings (hb_s hb16 sf_0) rfl (by decide +kernel) (by decide) (Nat.le_of_ble_eq_true rfl) (t_PM_forgetFindings hb16) (fun r h18 hq => ?_)
    obtain ⟨rfl, hb18, f18, F18⟩ := hq
    refine A_aload_n 0 d_PM_score_66 rfl rfl ?_
    refine A_getOv (z := some (97 - s2)) T_ok d_PM_score_67 f_PM_27 (hb_s hb18 sf_0) hb18.2.2.1 ?_
    have K18 : CKn μ s h18 := CKn_f K16 f18 (fun a k w => by omega)
    rw [e97]
    refine A_callV0 m_Score_allEvents T_ok d_PM_score_70 l_PM_92 k_Score_allEvents (hs_S hb18 hS) rfl (by decide +kernel) (by decide) (Nat.le_of_ble_eq_true rfl) (t_Score_allEvents hb18 hS K18) (fun r h22 hq => ?_)
    obtain ⟨hb22, rfl, rfl⟩ := hq
    refine A_iret d_PM_score_73 (by decide) rfl ⟨_, s2, rfl, hb22, fr_t (fr_w f16 (fun a k w => by omega)) f18 (fun a k w => by omega), by rw [fr_g f18 (by omega)]; exact c01, t, m, a, b, hA, ?_⟩
    rw [es]
    exact ⟨es2, rfl, by rw [fr_g f18 (by omega)]; exact c04, K18, F18⟩
  · rcases R with q | μ
    case inr => exact absurd hR.1 c10
    obtain ⟨rfl, q0, w6, w7⟩ := hR
    have fbq := fb q rfl
    refine A_aload_n 0 d_PM_score_25 rfl rfl ?_
    refine A_aload_n 0 d_PM_score_26 rfl rfl ?_
    refine A_getOv (z := some 2) T_ok d_PM_score_27 f_PM_20 (hb_s hb8 sf_0) (hb_r hb8 rff_0_2) ?_
    refine A_getIf T_ok d_PM_score_30 f_PM_84 (hb_s hb8 sf_2) (fun x26 ex26 _ _ => ?_)
    refine A_putIv T_ok d_PM_score_33 f_PM_31 (hb_s hb8 sf_0) fin_f (fun h27 e27 => ?_)
    refine A_pc (pc' := 36) rfl ?_
    refine A_bipush d_PM_score_36 rfl ?_
    refine A_iload_n 1 d_PM_score_38 rfl rfl ?_
    refine A_isubv (z := -10 - q.1) d_PM_score_39 (w32_to (by omega) (by unfold i32; omega)) ?_
    refine A_iret d_PM_score_40 (by decide) rfl ⟨_, s, rfl, hb_i hb8 e27, fr_i (fr_w f8 (fun a k w => by omega)) e27 (by decide), by rw [mm_i e27 (by omega), mv_i e8], t, m, a, b, hA, ?_⟩
    rw [es]
    exact ⟨rfl, rfl, q0, by rw [mv_i e27, ex26, mm_i e8 (by omega)]; exact w7, fr_i f8 e27 (Or.inr ⟨rfl, Or.inr rfl⟩)⟩

/-! ===== verification conditions, 510 ===== -/
def B_MD_lay_3 (G : cx_T) (s : Nat) (a1 : Int) (v2 : Int) (h : ah_T) (Q : Option av_T → ah_T → Prop) (X3 : Int → ah_T → Prop) : Prop :=
 ((v2 < 0 → Q none h) ∧ (¬ v2 < 0 → ∀ x2 : Int, x2 = h.2.1 170 1 → -2147483648 ≤ x2 → x2 ≤ 2147483647 → ∀ x3 : Int, x3 = ((Int32.ofInt a1) >>> (Int32.ofInt v2 &&& 31)).toInt → (-2147483648) ≤ x3 → x3 ≤ 2147483647 → ∀ x4 : Int, x4 = ((Int32.ofInt x3) &&& (Int32.ofInt 255)).toInt → (-2147483648) ≤ x4 → x4 ≤ 2147483647 → (0 ≤ x2 ∧ x2 < 2000) ∧ ∀ h6 : ah_T, h6 = st_i h 171 (x2).toNat x4 → ((-2147483648) ≤ (x2 + 1) ∧ (x2 + 1) ≤ 2147483647) ∧ ∀ h10 : ah_T, h10 = st_i h6 170 1 (x2 + 1) → ((-2147483648) ≤ (v2 - 8) ∧ (v2 - 8) ≤ 2147483647) ∧ X3 ((v2 - 8)) h10))
theorem b_MD_lay_3 {G : cx_T} {s : Nat} {a1 : Int} {v2 : Int} {h : ah_T} {Q : Option av_T → ah_T → Prop} {X3 : Int → ah_T → Prop} (hX3 : ∀ (v2 : Int) (h : ah_T), hb s h → X3 v2 h → aw G (rm_R 0 0 0) m_MD_lay 0 0 3 [some (av_R (some 170)), some (av_I a1), some (av_I v2)] [] h Q) (hb0 : hb s h) (H : B_MD_lay_3 G s a1 v2 h Q X3) : aw G (rm_R 0 0 0) m_MD_lay 0 0 3 [some (av_R (some 170)), some (av_I a1), some (av_I v2)] [] h Q := by
  unfold B_MD_lay_3 at H
  have hS : isS s := hb0.2.1
  refine A_iload_n 2 d_MD_lay_3 rfl rfl ?_
  refine A_if_lt (tgt := 39) d_MD_lay_4 (by decide) (fun c => ?_) (fun c => ?_)
  · replace H := H.1 c
    exact A_vret d_MD_lay_39 (by decide) rfl H
  · replace H := H.2 c
    refine A_aload_n 0 d_MD_lay_7 rfl rfl ?_
    refine A_getAv (z := some 171) T_ok d_MD_lay_8 f_MD_7 (hb_s hb0 sf_170) (hb_m hb0 rfm_0) ?_
    refine A_aload_n 0 d_MD_lay_11 rfl rfl ?_
    refine A_getIf T_ok d_MD_lay_12 f_MD_226 (hb_s hb0 sf_170) (fun x2 ex2 lx2 ux2 => ?_)
    replace H := H x2 ex2 lx2 ux2
    refine A_iload_n 1 d_MD_lay_15 rfl rfl ?_
    refine A_pc (pc' := 16) rfl ?_
    refine A_iload_n 2 d_MD_lay_16 rfl rfl ?_
    refine A_ishr d_MD_lay_17 ?_
    refine A_nrI (fun x3 ex3 lx3 ux3 => ?_)
    replace H := H x3 ex3 lx3 ux3
    refine A_sipush d_MD_lay_18 rfl ?_
    refine A_iand d_MD_lay_21 ?_
    refine A_nrI (fun x4 ex4 lx4 ux4 => ?_)
    replace H := H x4 ex4 lx4 ux4
    have g5 := H.1
    replace H := H.2
    refine A_iastoreN d_MD_lay_22 (hb_s hb0 sf_171) g5.1 g5.2 ?_
    refine A_hn (fun h6 eh6 => ?_)
    have hb7 := hb_i hb0 eh6
    replace H := H h6 eh6
    refine A_aload_n 0 d_MD_lay_23 rfl rfl ?_
    refine A_pc (pc' := 24) rfl ?_
    refine A_dupR d_MD_lay_24 ?_
    refine A_getIv (z := x2) T_ok d_MD_lay_25 f_MD_226 (hb_s hb7 sf_170) ((mm_i eh6 (fun q => absurd q.1 (by decide))).trans ex2.symm) ?_
    refine A_iconst d_MD_lay_28 rfl ?_
    have g9 := H.1
    replace H := H.2
    refine A_iaddv (z := (x2 + 1)) d_MD_lay_29 (w32_to (by omega) (by unfold i32; omega)) ?_
    refine A_putI T_ok d_MD_lay_30 f_MD_226 (hb_s hb7 sf_170) fin_f ?_
    refine A_hn (fun h10 eh10 => ?_)
    have hb11 := hb_i hb7 eh10
    replace H := H h10 eh10
    have g12 := H.1
    replace H := H.2
    refine A_iincv (z := (v2 - 8)) (L' := [some (av_R (some 170)), some (av_I a1), some (av_I (v2 - 8))]) d_MD_lay_33 rfl (w32_to (by omega) (by unfold i32; omega)) rfl ?_
    refine A_pc (pc' := 36) rfl ?_
    refine A_goto (tgt := 3) d_MD_lay_36 (by decide) ?_
    refine A_pc (pc' := 3) rfl ?_
    exact hX3 ((v2 - 8)) h10  hb11 H
theorem lp_MD_lay_3 {G : cx_T} {s : Nat} {a1 : Int} {Q : Option av_T → ah_T → Prop} (I : Int → ah_T → Prop) (μ : Int → ah_T → Nat) (hI : ∀ (v2 : Int) (h : ah_T), hb s h → I v2 h → B_MD_lay_3 G s a1 v2 h Q (fun v2' h' => I v2' h' ∧ μ v2' h' < μ v2 h)) : ∀ (v2 : Int) (h : ah_T), hb s h → I v2 h → aw G (rm_R 0 0 0) m_MD_lay 0 0 3 [some (av_R (some 170)), some (av_I a1), some (av_I v2)] [] h Q := by
  have key : ∀ (n : Nat) (v2 : Int) (h : ah_T), hb s h → I v2 h → μ v2 h < n → aw G (rm_R 0 0 0) m_MD_lay 0 0 3 [some (av_R (some 170)), some (av_I a1), some (av_I v2)] [] h Q := by
    intro n
    induction n with
    | zero => intro v2 h  hb0 hi hm; omega
    | succ n ih => intro v2 h  hb0 hi hm; exact b_MD_lay_3  (fun v2' h'  hb' hx => ih v2' h'  hb' hx.1 (by have := hx.2; omega))  hb0 (hI v2 h  hb0 hi)
  exact fun v2 h  hb0 hi => key _ v2 h  hb0 hi (Nat.lt_succ_self _)
def B_MD_lay_0 (G : cx_T) (s : Nat) (a1 : Int) (h : ah_T) (Q : Option av_T → ah_T → Prop) (X3 : Int → ah_T → Prop) : Prop :=
 X3 (24) h
theorem b_MD_lay_0 {G : cx_T} {s : Nat} {a1 : Int} {h : ah_T} {Q : Option av_T → ah_T → Prop} {X3 : Int → ah_T → Prop} (hX3 : ∀ (v2 : Int) (h : ah_T), hb s h → X3 v2 h → aw G (rm_R 0 0 0) m_MD_lay 0 0 3 [some (av_R (some 170)), some (av_I a1), some (av_I v2)] [] h Q) (hb0 : hb s h) (H : B_MD_lay_0 G s a1 h Q X3) : aw G (rm_R 0 0 0) m_MD_lay 0 0 0 [some (av_R (some 170)), some (av_I a1), none] [] h Q := by
  unfold B_MD_lay_0 at H
  have hS : isS s := hb0.2.1
  refine A_bipush d_MD_lay_0 rfl ?_
  refine A_istore_n 2 (L' := [some (av_R (some 170)), some (av_I a1), some (av_I 24)]) d_MD_lay_2 rfl (Nat.le_of_ble_eq_true rfl) rfl ?_
  refine A_pc (pc' := 3) rfl ?_
  exact hX3 (24) h  hb0 H
theorem c_MD_lay {G : cx_T} {s : Nat} {a1 : Int} {h : ah_T} {Q : Option av_T → ah_T → Prop} {X3 : Int → ah_T → Prop} (hX3 : ∀ (v2 : Int) (h : ah_T), hb s h → X3 v2 h → aw G (rm_R 0 0 0) m_MD_lay 0 0 3 [some (av_R (some 170)), some (av_I a1), some (av_I v2)] [] h Q) (hb0 : hb s h) (H : i32 a1 → B_MD_lay_0 G s a1 h Q X3) : con G 0 0 0 m_MD_lay [av_R (some 170), av_I a1] h Q := by
  have hS : isS s := hb0.2.1
  refine con_of (L := [some (av_R (some 170)), some (av_I a1), none]) (by decide +kernel) (Nat.le_of_ble_eq_true rfl) rfl ?_
  refine A_locI 1 rfl (fun ra1 => ?_)
  exact b_MD_lay_0  hX3 hb0 (H ra1)
def B_MD_feed_0 (G : cx_T) (s : Nat) (a1 : Int) (a2 : Int) (a3 : Int) (a4 : Int) (a5 : Int) (h : ah_T) (Q : Option av_T → ah_T → Prop) : Prop :=
 ∀ x1 : Int, x1 = h.2.1 170 1 → -2147483648 ≤ x1 → x1 ≤ 2147483647 → ((-2147483648) ≤ (x1 + 20) ∧ (x1 + 20) ≤ 2147483647) ∧ (((x1 + 20) ≤ 2000 → con G 0 0 0 m_MD_lay [av_R (some 170), av_I a1] h (fun r h3 => r = none ∧ hb s h3 ∧ con G 0 0 0 m_MD_lay [av_R (some 170), av_I a2] h3 (fun r h6 => r = none ∧ hb s h6 ∧ con G 0 0 0 m_MD_lay [av_R (some 170), av_I a3] h6 (fun r h9 => r = none ∧ hb s h9 ∧ con G 0 0 0 m_MD_lay [av_R (some 170), av_I a4] h9 (fun r h12 => r = none ∧ hb s h12 ∧ con G 0 0 0 m_MD_lay [av_R (some 170), av_I a5] h12 (fun r h15 => r = none ∧ hb s h15 ∧ ∀ x18 : Int, x18 = h15.2.1 170 1 → -2147483648 ≤ x18 → x18 ≤ 2147483647 → Q (some (av_I x18)) h15)))))) ∧ (¬ (x1 + 20) ≤ 2000 → Q (some (av_I (-3))) h))
theorem b_MD_feed_0 {G : cx_T} {s : Nat} {a1 : Int} {a2 : Int} {a3 : Int} {a4 : Int} {a5 : Int} {h : ah_T} {Q : Option av_T → ah_T → Prop} (hb0 : hb s h) (H : B_MD_feed_0 G s a1 a2 a3 a4 a5 h Q ) : aw G (rm_R 1 0 0) m_MD_feed 0 0 0 [some (av_R (some 170)), some (av_I a1), some (av_I a2), some (av_I a3), some (av_I a4), some (av_I a5)] [] h Q := by
  unfold B_MD_feed_0 at H
  have hS : isS s := hb0.2.1
  refine A_aload_n 0 d_MD_feed_0 rfl rfl ?_
  refine A_getIf T_ok d_MD_feed_1 f_MD_226 (hb_s hb0 sf_170) (fun x1 ex1 lx1 ux1 => ?_)
  replace H := H x1 ex1 lx1 ux1
  refine A_bipush d_MD_feed_4 rfl ?_
  have g2 := H.1
  replace H := H.2
  refine A_iaddv (z := (x1 + 20)) d_MD_feed_6 (w32_to (by omega) (by unfold i32; omega)) ?_
  refine A_sipush d_MD_feed_7 rfl ?_
  refine A_pc (pc' := 10) rfl ?_
  refine A_icmp_le (tgt := 16) d_MD_feed_10 (by decide) (fun c => ?_) (fun c => ?_)
  · replace H := H.1 c
    refine A_aload_n 0 d_MD_feed_16 rfl rfl ?_
    refine A_iload_n 1 d_MD_feed_17 rfl rfl ?_
    refine A_callV1 m_MD_lay T_ok d_MD_feed_18 l_MD_229 k_MD_lay (hb_s hb0 sf_170) rfl (by decide +kernel) (by decide) (Nat.le_of_ble_eq_true rfl) H (fun r h3 hq => ?_)
    clear H
    obtain ⟨rfl, hb4, H⟩ := hq
    refine A_aload_n 0 d_MD_feed_21 rfl rfl ?_
    refine A_iload_n 2 d_MD_feed_22 rfl rfl ?_
    refine A_callV1 m_MD_lay T_ok d_MD_feed_23 l_MD_229 k_MD_lay (hb_s hb4 sf_170) rfl (by decide +kernel) (by decide) (Nat.le_of_ble_eq_true rfl) H (fun r h6 hq => ?_)
    clear H
    obtain ⟨rfl, hb7, H⟩ := hq
    refine A_aload_n 0 d_MD_feed_26 rfl rfl ?_
    refine A_iload_n 3 d_MD_feed_27 rfl rfl ?_
    refine A_callV1 m_MD_lay T_ok d_MD_feed_28 l_MD_229 k_MD_lay (hb_s hb7 sf_170) rfl (by decide +kernel) (by decide) (Nat.le_of_ble_eq_true rfl) H (fun r h9 hq => ?_)
    clear H
    obtain ⟨rfl, hb10, H⟩ := hq
    refine A_aload_n 0 d_MD_feed_31 rfl rfl ?_
    refine A_iload d_MD_feed_32 rfl ?_
    refine A_callV1 m_MD_lay T_ok d_MD_feed_34 l_MD_229 k_MD_lay (hb_s hb10 sf_170) rfl (by decide +kernel) (by decide) (Nat.le_of_ble_eq_true rfl) H (fun r h12 hq => ?_)
    clear H
    obtain ⟨rfl, hb13, H⟩ := hq
    refine A_aload_n 0 d_MD_feed_37 rfl rfl ?_
    refine A_iload d_MD_feed_38 rfl ?_
    refine A_callV1 m_MD_lay T_ok d_MD_feed_40 l_MD_229 k_MD_lay (hb_s hb13 sf_170) rfl (by decide +kernel) (by decide) (Nat.le_of_ble_eq_true rfl) H (fun r h15 hq => ?_)
    clear H
    obtain ⟨rfl, hb16, H⟩ := hq
    refine A_aload_n 0 d_MD_feed_43 rfl rfl ?_
    refine A_getIf T_ok d_MD_feed_44 f_MD_226 (hb_s hb16 sf_170) (fun x18 ex18 lx18 ux18 => ?_)
    replace H := H x18 ex18 lx18 ux18
    exact A_iret d_MD_feed_47 (by decide) rfl H
  · replace H := H.2 c
    refine A_bipush d_MD_feed_13 rfl ?_
    exact A_iret d_MD_feed_15 (by decide) rfl H
theorem c_MD_feed {G : cx_T} {s : Nat} {a1 : Int} {a2 : Int} {a3 : Int} {a4 : Int} {a5 : Int} {h : ah_T} {Q : Option av_T → ah_T → Prop} (hb0 : hb s h) (H : i32 a1 → i32 a2 → i32 a3 → i32 a4 → i32 a5 → B_MD_feed_0 G s a1 a2 a3 a4 a5 h Q ) : con G 1 0 0 m_MD_feed [av_R (some 170), av_I a1, av_I a2, av_I a3, av_I a4, av_I a5] h Q := by
  have hS : isS s := hb0.2.1
  refine con_of (L := [some (av_R (some 170)), some (av_I a1), some (av_I a2), some (av_I a3), some (av_I a4), some (av_I a5)]) (by decide +kernel) (Nat.le_of_ble_eq_true rfl) rfl ?_
  refine A_locI 1 rfl (fun ra1 => ?_)
  refine A_locI 2 rfl (fun ra2 => ?_)
  refine A_locI 3 rfl (fun ra3 => ?_)
  refine A_locI 4 rfl (fun ra4 => ?_)
  refine A_locI 5 rfl (fun ra5 => ?_)
  exact b_MD_feed_0   hb0 (H ra1 ra2 ra3 ra4 ra5)
def B_MD_cut_12 (G : cx_T) (s : Nat) (a1 : Int) (h : ah_T) (Q : Option av_T → ah_T → Prop) : Prop :=
 Q (some (av_I (-1))) h
theorem b_MD_cut_12 {G : cx_T} {s : Nat} {a1 : Int} {h : ah_T} {Q : Option av_T → ah_T → Prop} (hb0 : hb s h) (H : B_MD_cut_12 G s a1 h Q ) : aw G (rm_R 0 0 0) m_MD_cut 0 0 12 [none, none] [] h Q := by
  unfold B_MD_cut_12 at H
  have hS : isS s := hb0.2.1
  refine A_iconst d_MD_cut_12 rfl ?_
  exact A_iret d_MD_cut_13 (by decide) rfl H
def B_MD_cut_0 (G : cx_T) (s : Nat) (a1 : Int) (h : ah_T) (Q : Option av_T → ah_T → Prop) : Prop :=
 ((a1 < 0 → B_MD_cut_12 G s a1 h Q ) ∧ (¬ a1 < 0 → ∀ x1 : Int, x1 = h.2.1 170 1 → -2147483648 ≤ x1 → x1 ≤ 2147483647 → ((a1 ≤ x1 → ((-2147483648) ≤ (x1 - a1) ∧ (x1 - a1) ≤ 2147483647) ∧ ∀ h4 : ah_T, h4 = st_i h 170 1 (x1 - a1) → Q (some (av_I (x1 - a1))) h4) ∧ (¬ a1 ≤ x1 → B_MD_cut_12 G s a1 h Q ))))
theorem b_MD_cut_0 {G : cx_T} {s : Nat} {a1 : Int} {h : ah_T} {Q : Option av_T → ah_T → Prop} (hb0 : hb s h) (H : B_MD_cut_0 G s a1 h Q ) : aw G (rm_R 0 0 0) m_MD_cut 0 0 0 [some (av_R (some 170)), some (av_I a1)] [] h Q := by
  unfold B_MD_cut_0 at H
  have hS : isS s := hb0.2.1
  refine A_iload_n 1 d_MD_cut_0 rfl rfl ?_
  refine A_if_lt (tgt := 12) d_MD_cut_1 (by decide) (fun c => ?_) (fun c => ?_)
  · replace H := H.1 c
    refine A_pc (pc' := 12) rfl ?_
    refine A_free (L' := [none, none]) trivial ?_
    exact b_MD_cut_12    hb0 H
  · replace H := H.2 c
    refine A_iload_n 1 d_MD_cut_4 rfl rfl ?_
    refine A_aload_n 0 d_MD_cut_5 rfl rfl ?_
    refine A_getIf T_ok d_MD_cut_6 f_MD_226 (hb_s hb0 sf_170) (fun x1 ex1 lx1 ux1 => ?_)
    replace H := H x1 ex1 lx1 ux1
    refine A_icmp_le (tgt := 14) d_MD_cut_9 (by decide) (fun c => ?_) (fun c => ?_)
    · replace H := H.1 c
      refine A_aload_n 0 d_MD_cut_14 rfl rfl ?_
      refine A_dupR d_MD_cut_15 ?_
      refine A_getIv (z := x1) T_ok d_MD_cut_16 f_MD_226 (hb_s hb0 sf_170) ex1.symm ?_
      refine A_iload_n 1 d_MD_cut_19 rfl rfl ?_
      have g3 := H.1
      replace H := H.2
      refine A_isubv (z := (x1 - a1)) d_MD_cut_20 (w32_to (by omega) (by unfold i32; omega)) ?_
      refine A_pc (pc' := 21) rfl ?_
      refine A_putI T_ok d_MD_cut_21 f_MD_226 (hb_s hb0 sf_170) fin_f ?_
      refine A_hn (fun h4 eh4 => ?_)
      have hb5 := hb_i hb0 eh4
      replace H := H h4 eh4
      refine A_aload_n 0 d_MD_cut_24 rfl rfl ?_
      refine A_getIv (z := (x1 - a1)) T_ok d_MD_cut_25 f_MD_226 (hb_s hb5 sf_170) (mv_i eh4) ?_
      exact A_iret d_MD_cut_28 (by decide) rfl H
    · replace H := H.2 c
      refine A_pc (pc' := 12) rfl ?_
      refine A_free (L' := [none, none]) trivial ?_
      exact b_MD_cut_12    hb0 H
theorem c_MD_cut {G : cx_T} {s : Nat} {a1 : Int} {h : ah_T} {Q : Option av_T → ah_T → Prop} (hb0 : hb s h) (H : i32 a1 → B_MD_cut_0 G s a1 h Q ) : con G 0 0 0 m_MD_cut [av_R (some 170), av_I a1] h Q := by
  have hS : isS s := hb0.2.1
  refine con_of (L := [some (av_R (some 170)), some (av_I a1)]) (by decide +kernel) (Nat.le_of_ble_eq_true rfl) rfl ?_
  refine A_locI 1 rfl (fun ra1 => ?_)
  exact b_MD_cut_0   hb0 (H ra1)
