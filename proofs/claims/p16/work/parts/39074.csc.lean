/-! ===== the class: score ===== -/
/-- the score in use -/
def CKn (μ : pm_T) (c : Nat) (h : ah_T) : Prop := (h.2.1 c 1 = μ 0 7 ∧ h.2.1 c 2 = μ 0 1 ∧ h.2.1 c 3 = μ 0 2 ∧ h.2.1 c 6 = μ 0 3 ∧ h.2.1 c 10 = μ 0 4 ∧ h.2.1 c 12 = μ 0 5) ∧
  ((0 ≤ μ 0 3 ∧ μ 0 3 ≤ 8) ∧ (0 ≤ μ 0 4 ∧ μ 0 4 ≤ 24) ∧ (0 ≤ μ 0 5 ∧ μ 0 5 ≤ 12) ∧ (0 ≤ μ 0 7 ∧ μ 0 7 ≤ 4)) ∧
  (∀ j : Nat, (j : Int) < μ 0 3 → h.2.1 (c + 2) j = μ 1 j) ∧ (∀ j : Nat, (j : Int) < μ 0 4 → h.2.1 (c + 3) j = μ 2 j ∧ h.2.1 (c + 4) j = μ 3 j ∧ h.2.1 (c + 5) j = μ 4 j) ∧ (∀ j : Nat, (j : Int) < μ 0 5 → h.2.1 (c + 6) j = μ 5 j) ∧ RVs μ c h
theorem CKn_of {t : tk_T} {m i s : Nat} {μ : pm_T} {h : ah_T} (H : RCv t m i μ s h) : CKn μ s h := by
  obtain ⟨⟨-, ⟨⟨a0, a1, a2, a3, a4, a5, a6, a7⟩, ⟨b3, b4, b5, b6, b7⟩, l, ru, ro, na⟩, -⟩, V⟩ := H
  exact ⟨⟨a7, a1, a2, a3, a4, a5⟩, ⟨b3, b4, b5, b7⟩, l, ru, ro, V⟩
theorem CKn_f {μ : pm_T} {c : Nat} {h h' : ah_T} {W : Nat → Nat → Prop} (H : CKn μ c h) (f : fr W h h') (hW : ∀ a k, W a k → a < c ∨ c + 62 < a) : CKn μ c h' := by
  obtain ⟨⟨a1, a2, a3, a4, a5, a6⟩, b, l, ru, ro, V⟩ := H
  have g : ∀ a k, c ≤ a → a ≤ c + 62 → h'.2.1 a k = h.2.1 a k := fun a k q1 q2 => fr_g f (fun w => by have := hW a k w; omega)
  refine ⟨⟨by rw [g _ _ (by omega) (by omega)]; exact a1, by rw [g _ _ (by omega) (by omega)]; exact a2, by rw [g _ _ (by omega) (by omega)]; exact a3, by rw [g _ _ (by omega) (by omega)]; exact a4, by rw [g _ _ (by omega) (by omega)]; exact a5, by rw [g _ _ (by omega) (by omega)]; exact a6⟩, b, fun j hj => ?_, fun j hj => ?_, fun j hj => ?_, fun n hn => ⟨RVo_f (V n hn).1 f (fun a k w => ?_), (V n hn).2⟩⟩
  · rw [g _ _ (by omega) (by omega)]; exact l j hj
  · rw [g _ _ (by omega) (by omega), g _ _ (by omega) (by omega), g _ _ (by omega) (by omega)]; exact ru j hj
  · rw [g _ _ (by omega) (by omega)]; exact ro j hj
  · have := hW a k w
    have := b.2.2.2.2
    omega
theorem t_Score_voiceAt {G : cx_T} {s c : Nat} {h : ah_T} {μ : pm_T} {v : Int} (hb0 : hb s h) (hc : isS c) (H : CKn μ c h) : con G 0 0 0 m_Score_voiceAt [av_R (some c), av_I v] h (fun r h' => hb s h' ∧ h' = h ∧ ((0 ≤ v ∧ v < μ 0 7 ∧ r = some (av_R (some (c + 7 + 14 * v.toNat)))) ∨ (¬ (0 ≤ v ∧ v < μ 0 7) ∧ r = some (av_R none)))) := by
  refine c_Score_voiceAt hc hb0 (fun _ => ?_)
  have h1 := H.1.1
  have b := H.2.1.2.2.2
  unfold B_Score_voiceAt_0 B_Score_voiceAt_30
  refine ⟨fun q => ⟨hb0, rfl, Or.inr ⟨by omega, rfl⟩⟩, fun q x1 e1 _ _ => ?_⟩
  refine ⟨fun q2 => ⟨hb0, rfl, Or.inr ⟨by omega, rfl⟩⟩, fun q2 => ⟨fun q3 => by omega, fun q3 => ⟨⟨by omega, by omega⟩, hb0, rfl, Or.inl ⟨by omega, by omega, rfl⟩⟩⟩⟩
theorem t_Score_allEvents {G : cx_T} {s c : Nat} {h : ah_T} {μ : pm_T} (hb0 : hb s h) (hc : isS c) (H : CKn μ c h) : con G 1 0 0 m_Score_allEvents [av_R (some c)] h (fun r h' => hb s h' ∧ h' = h ∧ r = some (av_I (evs μ (μ 0 7).toNat))) := by
  have h1 := H.1.1
  have b := H.2.1.2.2.2
  have V := H.2.2.2.2.2
  refine c_Score_allEvents hc (X4 := fun v1 v2 hh => hh = h ∧ ∃ n : Nat, v2 = (n : Int) ∧ (n : Int) ≤ μ 0 7 ∧ v1 = evs μ n) ?_ hb0 ?_
  · refine lp_Score_allEvents_4 hc _ (fun _ v2 _ => (5 - v2).toNat) ?_
    rintro v1 v2 hh hb1 ⟨rfl, n, rfl, hn, rfl⟩
    have bn := evs_b (μ := μ) n (fun k hk => (V k (by omega)).2.1)
    unfold B_Score_allEvents_4
    intro x1 e1 _ _
    have ex1 : x1 = μ 0 7 := e1.trans h1
    subst ex1
    refine ⟨fun q => ⟨hb1, rfl, ?_⟩, fun q => ?_⟩
    · have : (μ 0 7).toNat = n := by omega
      rw [this]
    · refine con_mono (t_Score_voiceAt hb1 hc H) ?_
      rintro r h2 ⟨hb2, rfl, ⟨q1, q2, rfl⟩ | ⟨q1, -⟩⟩
      · rw [tn_c]
        refine ⟨_, rfl, hb2, Or.inr ⟨_, rfl, ?_, fun x5 e5 _ _ => ?_⟩⟩
        · unfold isV; unfold isS at hc; omega
        · have ex5 : x5 = μ (10 + n) 0 := e5.trans (V n q2).1.1.1
          have bx := (V n q2).2.1
          unfold B_Score_allEvents_31
          exact ⟨⟨by omega, by omega⟩, ⟨by omega, by omega⟩, ⟨rfl, n + 1, by omega, by omega, by rw [evs, ex5]⟩, by omega⟩
      · omega
  · unfold B_Score_allEvents_0
    exact ⟨rfl, 0, rfl, b.1, rfl⟩
abbrev WFg : Nat → Nat → Prop := fun a k => ((a = 143 ∨ a = 146 ∨ a = 150 ∨ a = 158 ∨ a = 162) ∧ k = 1) ∨ (a = 164 ∧ (k = 5 ∨ k = 7))
def Fgt (h : ah_T) : Prop := h.2.1 143 1 = 0 ∧ h.2.1 146 1 = 0 ∧ h.2.1 150 1 = 0 ∧ h.2.1 158 1 = 0 ∧ h.2.1 162 1 = 0 ∧ h.2.1 164 5 = 0 ∧ h.2.1 164 7 = 0
theorem t_PM_forgetFindings {G : cx_T} {s : Nat} {h : ah_T} (hb0 : hb s h) : con G 1 0 0 m_PM_forgetFindings [av_R (some 0)] h (fun r h' => r = none ∧ hb s h' ∧ fr WFg h h' ∧ Fgt h') := by
  refine c_PM_forgetFindings hb0 ?_
  unfold B_PM_forgetFindings_0
  refine con_mono (c_Judge_forget (Q := fun r h' => r = none ∧ hb s h' ∧ h' = st_i h 143 1 0) hb0 (by unfold B_Judge_forget_0; exact fun h1 e1 => ⟨rfl, hb_i hb0 e1, e1⟩)) ?_
  rintro r h1 ⟨rfl, hb1, e1⟩
  refine ⟨rfl, hb1, con_mono (c_Beams_forget (Q := fun r h' => r = none ∧ hb s h' ∧ h' = st_i h1 146 1 0) hb1 (by unfold B_Beams_forget_0; exact fun h2 e2 => ⟨rfl, hb_i hb1 e2, e2⟩)) ?_⟩
  rintro r h2 ⟨rfl, hb2, e2⟩
  refine ⟨rfl, hb2, con_mono (c_Page_forget (Q := fun r h' => r = none ∧ hb s h' ∧ h' = st_i h2 150 1 0) hb2 (by unfold B_Page_forget_0; exact fun h3 e3 => ⟨rfl, hb_i hb2 e3, e3⟩)) ?_⟩
  rintro r h3 ⟨rfl, hb3, e3⟩
  refine ⟨rfl, hb3, con_mono (c_Seconds_forget (Q := fun r h' => r = none ∧ hb s h' ∧ h' = st_i h3 158 1 0) hb3 (by unfold B_Seconds_forget_0; exact fun h4 e4 => ⟨rfl, hb_i hb3 e4, e4⟩)) ?_⟩
  rintro r h4 ⟨rfl, hb4, e4⟩
  refine ⟨rfl, hb4, con_mono (c_Trees_forget (Q := fun r h' => r = none ∧ hb s h' ∧ h' = st_i h4 162 1 0) hb4 (by unfold B_Trees_forget_0; exact fun h5 e5 => ⟨rfl, hb_i hb4 e5, e5⟩)) ?_⟩
  rintro r h5 ⟨rfl, hb5, e5⟩
  refine ⟨rfl, hb5, con_mono (c_Pairing_forget (Q := fun r h' => r = none ∧ hb s h' ∧ ∃ h6, h6 = st_i h5 164 5 0 ∧ h' = st_i h6 164 7 0) hb5 (by unfold B_Pairing_forget_0; exact fun h6 e6 h7 e7 => ⟨rfl, hb_i (hb_i hb5 e6) e7, h6, e6, e7⟩)) ?_⟩
  rintro r h7 ⟨rfl, hb7, h6, e6, e7⟩
  refine ⟨rfl, hb7, rfl, hb7, fr_i (fr_i (fr_i (fr_i (fr_i (fr_i (fr_i fr_0 e1 (by omega)) e2 (by omega)) e3 (by omega)) e4 (by omega)) e5 (by omega)) e6 (by omega)) e7 (by omega), ?_, ?_, ?_, ?_, ?_, ?_, mv_i e7⟩
  · rw [mm_i e7 (by omega), mm_i e6 (by omega), mm_i e5 (by omega), mm_i e4 (by omega), mm_i e3 (by omega), mm_i e2 (by omega), mv_i e1]
  · rw [mm_i e7 (by omega), mm_i e6 (by omega), mm_i e5 (by omega), mm_i e4 (by omega), mm_i e3 (by omega), mv_i e2]
  · rw [mm_i e7 (by omega), mm_i e6 (by omega), mm_i e5 (by omega), mm_i e4 (by omega), mv_i e3]
  · rw [mm_i e7 (by omega), mm_i e6 (by omega), mm_i e5 (by omega), mv_i e4]
  · rw [mm_i e7 (by omega), mm_i e6 (by omega), mv_i e5]
  · rw [mm_i e7 (by omega), mv_i e6]
theorem t_Reader_swap {G : cx_T} {s : Nat} {h : ah_T} (hx : hb s h) : con G 0 0 0 m_Reader_swap [av_R (some 2), av_R (some (97 - s))] h (fun r h' => r = some (av_R (some s)) ∧ h' = st_r h 2 5 (some (97 - s))) := by
  refine con_of (L := [some (av_R (some 2)), some (av_R (some (97 - s))), none]) (by decide +kernel) (Nat.le_of_ble_eq_true rfl) rfl ?_
  refine A_aload_n 0 d_Reader_swap_0 rfl rfl ?_
  refine A_getOv (z := some s) T_ok d_Reader_swap_1 f_Reader_32 (hb_s hx sf_2) hx.2.2.2.1 ?_
  refine A_astore_n 2 (L' := [some (av_R (some 2)), some (av_R (some (97 - s))), some (av_R (some s))]) d_Reader_swap_4 rfl (Nat.le_of_ble_eq_true rfl) rfl ?_
  refine A_aload_n 0 d_Reader_swap_5 rfl rfl ?_
  refine A_aload_n 1 d_Reader_swap_6 rfl rfl ?_
  refine A_putRv T_ok d_Reader_swap_7 f_Reader_32 ty_o (hb_s hx sf_2) fin_f (fun h1 e1 => ?_)
  refine A_aload_n 2 d_Reader_swap_10 rfl rfl ?_
  exact A_aret d_Reader_swap_11 (by decide) rfl ty_o ⟨rfl, e1⟩
theorem hb_sw {s : Nat} {h : ah_T} (hk : hb s h) : hb (97 - s) (st_r (st_r h 2 5 (some (97 - s))) 0 3 (some s)) := by
  obtain ⟨x1, x2, x3, x4, x5, x6, x7⟩ := hk
  have hs : s = 17 ∨ s = 80 := x2
  have key : ∀ a k, ¬ (a = 0 ∧ k = 3) → ¬ (a = 2 ∧ k = 5) → (st_r (st_r h 2 5 (some (97 - s))) 0 3 (some s)).2.2.2 a k = h.2.2.2 a k := fun a k q1 q2 => (up2_o q1).trans (up2_o q2)
  have e1 : 97 - (97 - s) = s := by omega
  refine ⟨x1, by unfold isS; omega, ?_, ?_, ?_, fun q hq => ?_, fun q hq => ?_⟩
  · rw [e1]; simp [st_r, up2]
  · simp [st_r, up2]
  · rw [key 3 6 (by decide) (by decide)]; exact x5
  · have h9 : ∀ q ∈ rf_L, ¬ (q.1 = 0 ∧ q.2.1 = 3) ∧ ¬ (q.1 = 2 ∧ q.2.1 = 5) := by decide +kernel
    rw [key _ _ (h9 q hq).1 (h9 q hq).2]
    exact x6 q hq
  · rw [key 170 q.1 (by omega) (by omega)]; exact x7 q hq
theorem fr_sw {s : Nat} {W : Nat → Nat → Prop} {h0 h : ah_T} (f : fr W h0 h) : fr W h0 (st_r (st_r h 2 5 (some (97 - s))) 0 3 (some s)) := by
  refine ⟨f.1, fun q => ?_⟩
  have := f.2 q
  have key : ∀ a k, ¬ (a = 0 ∧ k = 3) → ¬ (a = 2 ∧ k = 5) → (st_r (st_r h 2 5 (some (97 - s))) 0 3 (some s)).2.2.2 a k = h.2.2.2 a k := fun a k q1 q2 => (up2_o q1).trans (up2_o q2)
  rw [key 3 6 (by decide) (by decide)]; exact this
def PScl (s s' : Nat) (R : F_T ⊕ pm_T) (z : Int) (h h' : ah_T) : Prop := match R with
  | .inl q => s' = s ∧ z = -10 - q.1 ∧ q.1 ≠ 0 ∧ h'.2.1 0 4 = q.2 ∧ fr (fun a k => WY s a k ∨ (a = 0 ∧ (k = 1 ∨ k = 4))) h h'
  | .inr μ => s' = 97 - s ∧ z = evs μ (μ 0 7).toNat ∧ h'.2.1 0 4 = -2 ∧ CKn μ s h' ∧ Fgt h'
theorem t_PM_score {G : cx_T} {s n : Nat} {h : ah_T} {T : Nat → Int} (hb0 : hb s h) (hn : h.2.1 0 1 = (n : Int)) (hn2 : n ≤ 2000) (hT : ∀ j, j < n → h.2.1 1 j = T j ∧ 0 ≤ T j ∧ T j ≤ 255) :
    con G 24 0 0 m_PM_score [av_R (some 0)] h (fun r h' => ∃ z s', r = some (av_I z) ∧ hb s' h' ∧ fr (fun a _ => a < 170) h h' ∧ h'.2.1 0 1 = 0 ∧ ∃ (t : tk_T) (m : Nat) (a b : Nat → Nat), TkA T n t m a b ∧ PScl s s' (sp_score t) z h h') := by
  have hS : isS s := hb0.2.1
  have hs0 : s = 17 ∨ s = 80 := hS
  refine con_of (L := [some (av_R (some 0)), none]) (by decide +kernel) (Nat.le_of_ble_eq_true rfl) rfl ?_
  refine A_aload_n 0 d_PM_score_0 rfl rfl ?_
  refine A_getOv (z := some 2) T_ok d_PM_score_1 f_PM_20 (hb_s hb0 sf_0) (hb_r hb0 rff_0_2) ?_
  refine A_aload_n 0 d_PM_score_4 rfl rfl ?_
  refine A_getAv (z := some 1) T_ok d_PM_score_5 f_PM_9 (hb_s hb0 sf_0) (hb_r hb0 rff_0_0) ?_
  refine A_aload_n 0 d_PM_score_8 rfl rfl ?_
  refine A_pc (pc' := 9) rfl ?_
  refine A_getIf T_ok d_PM_score_9 f_PM_13 (hb_s hb0 sf_0) (fun x3 ex3 _ _ => ?_)
  have ex3' : x3 = (n : Int) := ex3.trans hn
  subst ex3'
  refine A_callV2 m_Reader_read T_ok d_PM_score_12 l_PM_80 k_Reader_read (hb_s hb0 sf_2) rfl (by decide +kernel) (by decide) (Nat.le_of_ble_eq_true rfl) (t_Reader_read hb0 hT hn2) (fun r h4 hq => ?_)
  obtain ⟨z, rfl, hb4, f4, t, m, a, b, hA, hR⟩ := hq
  have fb := FN_score (t := t)
  refine A_istore_n 1 (L' := [some (av_R (some 0)), some (av_I z)]) d_PM_score_15 rfl (Nat.le_of_ble_eq_true rfl) rfl ?_
  refine A_aload_n 0 d_PM_score_16 rfl rfl ?_
  refine A_iconst d_PM_score_17 rfl ?_
  refine A_putIv T_ok d_PM_score_18 f_PM_13 (hb_s hb4 sf_0) fin_f (fun h8 e8 => ?_)
  have hb8 := hb_i hb4 e8
  have f8 : fr (fun a k => WY s a k ∨ (a = 0 ∧ (k = 1 ∨ k = 4))) h h8 := fr_i (fr_w f4 (fun a k w => Or.inl w)) e8 (Or.inr ⟨rfl, Or.inl rfl⟩)
  refine A_iload_n 1 d_PM_score_21 rfl rfl ?_
  refine A_pc (pc' := 22) rfl ?_
  generalize es : sp_score t = R at *
  refine A_if_eq (tgt := 41) d_PM_score_22 (by decide) (fun c10 => ?_) (fun c10 => ?_)
  · rcases R with q | μ
    · exact absurd c10 (by have := hR.1; have := hR.2.1; omega)
    obtain ⟨-, i, HV⟩ := hR
    refine A_aload_n 0 d_PM_score_41 rfl rfl ?_
    refine A_bipush d_PM_score_42 rfl ?_
    refine A_putIv T_ok d_PM_score_44 f_PM_31 (hb_s hb8 sf_0) fin_f (fun h11 e11 => ?_)
    have hb11 := hb_i hb8 e11
    have f11 : fr (fun a k => WY s a k ∨ (a = 0 ∧ (k = 1 ∨ k = 4))) h h11 := fr_i f8 e11 (Or.inr ⟨rfl, Or.inr rfl⟩)
    refine A_aload_n 0 d_PM_score_47 rfl rfl ?_
    refine A_aload_n 0 d_PM_score_48 rfl rfl ?_
    refine A_pc (pc' := 49) rfl ?_
    refine A_getOv (z := some 2) T_ok d_PM_score_49 f_PM_20 (hb_s hb11 sf_0) (hb_r hb11 rff_0_2) ?_
    refine A_aload_n 0 d_PM_score_52 rfl rfl ?_
    refine A_getOv (z := some (97 - s)) T_ok d_PM_score_53 f_PM_27 (hb_s hb11 sf_0) hb11.2.2.1 ?_
    refine A_callV1 m_Reader_swap T_ok d_PM_score_56 l_PM_85 k_Reader_swap (hb_s hb11 sf_2) rfl (by decide +kernel) (by decide) (Nat.le_of_ble_eq_true rfl) (t_Reader_swap hb11) (fun r h15 hq => ?_)
    obtain ⟨rfl, eh15⟩ := hq
    refine A_putRv T_ok d_PM_score_59 f_PM_27 ty_o (by rw [eh15]; exact (hb_s hb11 sf_0)) fin_f (fun h16 eh16 => ?_)
    have hb16 : hb (97 - s) h16 := by rw [eh16, eh15]; exact hb_sw hb11
    have f16 : fr (fun a k => WY s a k ∨ (a = 0 ∧ (k = 1 ∨ k = 4))) h h16 := by rw [eh16, eh15]; exact fr_sw f11
    have i16 : h16.2.1 = h11.2.1 ∧ h16.2.2.1 = h11.2.2.1 := by rw [eh16, eh15]; exact ⟨rfl, rfl⟩
    have K4 : CKn μ s h4 := CKn_of HV
    have K11 : CKn μ s h11 := CKn_f (CKn_f K4 (fr_i (W := fun a k => a = 0) fr_0 e8 rfl) (fun a k w => by omega)) (fr_i (W := fun a k => a = 0) fr_0 e11 rfl) (fun a k w => by omega)
    have K16 : CKn μ s h16 := by rw [eh16, eh15]; exact K11
    have c01 : h16.2.1 0 1 = 0 := by rw [i16.1, mm_i e11 (by omega), mv_i e8]
    have c04 : h16.2.1 0 4 = -2 := by rw [i16.1, mv_i e11]
    have e97 : 97 - (97 - s) = s := by omega
    obtain ⟨s2, es2⟩ : ∃ q, q = 97 - s := ⟨_, rfl⟩
    rw [← es2] at hb16 e97
    refine A_aload_n 0 d_PM_score_62 rfl rfl ?_
    refine A_callV0 m_PM_forgetFindings T_ok d_PM_score_63 l_PM_89 k_PM_forgetFindings (hb_s hb16 sf_0) rfl (by decide +kernel) (by decide) (Nat.le_of_ble_eq_true rfl) (t_PM_forgetFindings hb16) (fun r h18 hq => ?_)
    obtain ⟨rfl, hb18, f18, F18⟩ := hq
    refine A_aload_n 0 d_PM_score_66 rfl rfl ?_
    refine A_getOv (z := some (97 - s2)) T_ok d_PM_score_67 f_PM_27 (hb_s hb18 sf_0) hb18.2.2.1 ?_
    have K18 : CKn μ s h18 := CKn_f K16 f18 (fun a k w => by omega)
    rw [e97]
    refine A_callV0 m_Score_allEvents T_ok d_PM_score_70 l_PM_92 k_Score_allEvents (hs_S hb18 hS) rfl (by decide +kernel) (by decide) (Nat.le_of_ble_eq_true rfl) (t_Score_allEvents hb18 hS K18) (fun r h22 hq => ?_)
    obtain ⟨hb22, rfl, rfl⟩ := hq
    refine A_iret d_PM_score_73 (by decide) rfl ⟨_, s2, rfl, hb22, fr_t (fr_w f16 (fun a k w => by omega)) f18 (fun a k w => by omega), by rw [fr_g f18 (by omega)]; exact c01, t, m, a, b, hA, ?_⟩
    rw [es]
    exact ⟨es2, rfl, by rw [fr_g f18 (by omega)]; exact c04, K18, F18⟩
  · rcases R with q | μ
    case inr => exact absurd hR.1 c10
    obtain ⟨rfl, q0, w6, w7⟩ := hR
    have fbq := fb q rfl
    refine A_aload_n 0 d_PM_score_25 rfl rfl ?_
    refine A_aload_n 0 d_PM_score_26 rfl rfl ?_
    refine A_getOv (z := some 2) T_ok d_PM_score_27 f_PM_20 (hb_s hb8 sf_0) (hb_r hb8 rff_0_2) ?_
    refine A_getIf T_ok d_PM_score_30 f_PM_84 (hb_s hb8 sf_2) (fun x26 ex26 _ _ => ?_)
    refine A_putIv T_ok d_PM_score_33 f_PM_31 (hb_s hb8 sf_0) fin_f (fun h27 e27 => ?_)
    refine A_pc (pc' := 36) rfl ?_
    refine A_bipush d_PM_score_36 rfl ?_
    refine A_iload_n 1 d_PM_score_38 rfl rfl ?_
    refine A_isubv (z := -10 - q.1) d_PM_score_39 (w32_to (by omega) (by unfold i32; omega)) ?_
    refine A_iret d_PM_score_40 (by decide) rfl ⟨_, s, rfl, hb_i hb8 e27, fr_i (fr_w f8 (fun a k w => by omega)) e27 (by decide), by rw [mm_i e27 (by omega), mv_i e8], t, m, a, b, hA, ?_⟩
    rw [es]
    exact ⟨rfl, rfl, q0, by rw [mv_i e27, ex26, mm_i e8 (by omega)]; exact w7, fr_i f8 e27 (Or.inr ⟨rfl, Or.inr rfl⟩)⟩
