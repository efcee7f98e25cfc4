/-! ===== the class: score ===== -/
/-- the score in use -/
def CKn (μ : pm_T) (c : Nat) (h : ah_T) : Prop := (h.2.1 c 1 = μ 0 7 ∧ h.2.1 c 2 = μ 0 1 ∧ h.2.1 c 3 = μ 0 2 ∧ h.2.1 c 6 = μ 0 3 ∧ h.2.1 c 10 = μ 0 4 ∧ h.2.1 c 12 = μ 0 5) ∧
  ((0 ≤ μ 0 3 ∧ μ 0 3 ≤ 8) ∧ (0 ≤ μ 0 4 ∧ μ 0 4 ≤ 24) ∧ (0 ≤ μ 0 5 ∧ μ 0 5 ≤ 12) ∧ (0 ≤ μ 0 7 ∧ μ 0 7 ≤ 4)) ∧
  (∀ j : Nat, (j : Int) < μ 0 3 → h.2.1 (c + 2) j = μ 1 j) ∧ (∀ j : Nat, (j : Int) < μ 0 4 → h.2.1 (c + 3) j = μ 2 j ∧ h.2.1 (c + 4) j = μ 3 j ∧ h.2.1 (c + 5) j = μ 4 j) ∧ (∀ j : Nat, (j : Int) < μ 0 5 → h.2.1 (c + 6) j = μ 5 j) ∧ RVs μ c h
theorem CKn_of {t : tk_T} {m i s : Nat} {μ : pm_T} {h : ah_T} (H : RCv t m i μ s h) : CKn μ s h := by
  obtain ⟨⟨-, ⟨⟨a0, a1, a2, a3, a4, a5, a6, a7⟩, ⟨b3, b4, b5, b6, b7⟩, l, ru, ro, na⟩, -⟩, V⟩ := H
  exact ⟨⟨a7, a1, a2, a3, a4, a5⟩, ⟨b3, b4, b5, b7⟩, l, ru, ro, V⟩
theorem CKn_f {μ : pm_T} {c : Nat} {h h' : ah_T} {W : Nat → Nat → Prop} (H : CKn μ c h) (f : fr W h h') (hW : ∀ a k, W a k → a < c ∨ c + 62 < a) : CKn μ c h' := by
  obtain ⟨⟨a1, a2, a3, a4, a5, a6⟩, b, l, ru, ro, V⟩ := H
  have g : ∀ a k, c ≤ a → a ≤ c + 62 → h'.2.1 a k = h.2.1 a k := fun a k q1 q2 => fr_g f (fun w => by have := hW a k w; omega)
  refine ⟨⟨by rw [g _ _ (by omega) (by omega)]; exact a1, by rw [g _ _ (by omega) (by omega)]; exact a2, by rw [g _ _ (by omega) (by omega)]; exact a3, by rw [g _ _ (by omega) (by omega)]; exact a4, by rw [g _ _ (by omega) (by omega)]; exact a5, by rw [g _ _ (by omega) (by omega)]; exact a6⟩, b, fun j hj => ?_, fun j hj => ?_, fun j hj => ?_, fun n hn => ⟨RVo_f (V n hn).1 f (fun a k w => ?_), (V n hn).2⟩⟩
  · rw [g _ _ (by omega) (by omega)]; exact l j hj
  · rw [g _ _ (by omega) (by omega), g _ _ (by omega) (by omega), g _ _ (by omega) (by omega)]; exact ru j hj
  · rw [g _ _ (by omega) (by omega)]; exact ro j hj
  · have := hW a k w
    have := b.2.2.2.2
    omega
theorem t_Score_voiceAt {G : cx_T} {s c : Nat} {h : ah_T} {μ : pm_T} {v : Int} (hb0 : hb s h) (hc : isS c) (H : CKn μ c h) : con G 0 0 0 m_Score_voiceAt [av_R (some c), av_I v] h (fun r h' => hb s h' ∧ h' = h ∧ ((0 ≤ v ∧ v < μ 0 7 ∧ r = some (av_R (some (c + 7 + 14 * v.toNat)))) ∨ (¬ (0 ≤ v ∧ v < μ 0 7) ∧ r = some (av_R none)))) := by
  refine c_Score_voiceAt hc hb0 (fun _ => ?_)
  have h1 := H.1.1
  have b := H.2.1.2.2.2
  unfold B_Score_voiceAt_0 B_Score_voiceAt_30
  refine ⟨fun q => ⟨hb0, rfl, Or.inr ⟨by omega, rfl⟩⟩, fun q x1 e1 _ _ => ?_⟩
  refine ⟨fun q2 => ⟨hb0, rfl, Or.inr ⟨by omega, rfl⟩⟩, fun q2 => ⟨fun q3 => by omega, fun q3 => ⟨⟨by omega, by omega⟩, hb0, rfl, Or.inl ⟨by omega, by omega, rfl⟩⟩⟩⟩
theorem t_Score_allEvents {G : cx_T} {s c : Nat} {h : ah_T} {μ : pm_T} (hb0 : hb s h) (hc : isS c) (H : CKn μ c h) : con G 1 0 0 m_Score_allEvents [av_R (some c)] h (fun r h' => hb s h' ∧ h' = h ∧ r = some (av_I (evs μ (μ 0 7).toNat))) := by
  have h1 := H.1.1
  have b := H.2.1.2.2.2
  have V := H.2.2.2.2.2
  refine c_Score_allEvents hc (X4 := fun v1 v2 hh => hh = h ∧ ∃ n : Nat, v2 = (n : Int) ∧ (n : Int) ≤ μ 0 7 ∧ v1 = evs μ n) ?_ hb0 ?_
  · refine lp_Score_allEvents_4 hc _ (fun _ v2 _ => (5 - v2).toNat) ?_
    rintro v1 v2 hh hb1 ⟨rfl, n, rfl, hn, rfl⟩
    have bn := evs_b (μ := μ) n (fun k hk => (V k (by omega)).2.1)
    unfold B_Score_allEvents_4
    intro x1 e1 _ _
    have ex1 : x1 = μ 0 7 := e1.trans h1
    subst ex1
    refine ⟨fun q => ⟨hb1, rfl, ?_⟩, fun q => ?_⟩
    · have : (μ 0 7).toNat = n := by omega
      rw [this]
    · refine con_mono (t_Score_voiceAt hb1 hc H) ?_
      rintro r h2 ⟨hb2, rfl, ⟨q1, q2, rfl⟩ | ⟨q1, -⟩⟩
      · rw [tn_c]
        refine ⟨_, rfl, hb2, Or.inr ⟨_, rfl, ?_, fun x5 e5 _ _ => ?_⟩⟩
        · unfold isV; unfold isS at hc; omega
        · have ex5 : x5 = μ (10 + n) 0 := e5.trans (V n q2).1.1.1
          have bx := (V n q2).2.1
          unfold B_Score_allEvents_31
          exact ⟨⟨by omega, by omega⟩, ⟨by omega, by omega⟩, ⟨rfl, n + 1, by omega, by omega, by rw [evs, ex5]⟩, by omega⟩
      · omega
  · unfold B_Score_allEvents_0
    exact ⟨rfl, 0, rfl, b.1, rfl⟩
abbrev WFg : Nat → Nat → Prop := fun a k => ((a = 143 ∨ a = 146 ∨ a = 150 ∨ a = 158 ∨ a = 162) ∧ k = 1) ∨ (a = 164 ∧ (k = 5 ∨ k = 7))
def Fgt (h : ah_T) : Prop := h.2.1 143 1 = 0 ∧ h.2.1 146 1 = 0 ∧ h.2.1 150 1 = 0 ∧ h.2.1 158 1 = 0 ∧ h.2.1 162 1 = 0 ∧ h.2.1 164 5 = 0 ∧ h.2.1 164 7 = 0
theorem t_PM_forgetFindings {G : cx_T} {s : Nat} {h : ah_T} (hb0 : hb s h) : con G 1 0 0 m_PM_forgetFindings [av_R (some 0)] h (fun r h' => r = none ∧ hb s h' ∧ fr WFg h h' ∧ Fgt h') := by
  refine c_PM_forgetFindings hb0 ?_
  unfold B_PM_forgetFindings_0
  refine con_mono (c_Judge_forget (Q := fun r h' => r = none ∧ hb s h' ∧ h' = st_i h 143 1 0) hb0 (by unfold B_Judge_forget_0; exact fun h1 e1 => ⟨rfl, hb_i hb0 e1, e1⟩)) ?_
  rintro r h1 ⟨rfl, hb1, e1⟩
  refine ⟨rfl, hb1, con_mono (c_Beams_forget (Q := fun r h' => r = none ∧ hb s h' ∧ h' = st_i h1 146 1 0) hb1 (by unfold B_Beams_forget_0; exact fun h2 e2 => ⟨rfl, hb_i hb1 e2, e2⟩)) ?_⟩
  rintro r h2 ⟨rfl, hb2, e2⟩
  refine ⟨rfl, hb2, con_mono (c_Page_forget (Q := fun r h' => r = none ∧ hb s h' ∧ h' = st_i h2 150 1 0) hb2 (by unfold B_Page_forget_0; exact fun h3 e3 => ⟨rfl, hb_i hb2 e3, e3⟩)) ?_⟩
  rintro r h3 ⟨rfl, hb3, e3⟩
  refine ⟨rfl, hb3, con_mono (c_Seconds_forget (Q := fun r h' => r = none ∧ hb s h' ∧ h' = st_i h3 158 1 0) hb3 (by unfold B_Seconds_forget_0; exact fun h4 e4 => ⟨rfl, hb_i hb3 e4, e4⟩)) ?_⟩
  rintro r h4 ⟨rfl, hb4, e4⟩
  refine ⟨rfl, hb4, con_mono (c_Trees_forget (Q := fun r h' => r = none ∧ hb s h' ∧ h' = st_i h4 162 1 0) hb4 (by unfold B_Trees_forget_0; exact fun h5 e5 => ⟨rfl, hb_i hb4 e5, e5⟩)) ?_⟩
  rintro r h5 ⟨rfl, hb5, e5⟩
  refine ⟨rfl, hb5, con_mono (c_Pairing_forget (Q := fun r h' => r = none ∧ hb s h' ∧ ∃ h6, h6 = st_i h5 164 5 0 ∧ h' = st_i h6 164 7 0) hb5 (by unfold B_Pairing_forget_0; exact fun h6 e6 h7 e7 => ⟨rfl, hb_i (hb_i hb5 e6) e7, h6, e6, e7⟩)) ?_⟩
  rintro r h7 ⟨rfl, hb7, h6, e6, e7⟩
  refine ⟨rfl, hb7, rfl, hb7, fr_i (fr_i (fr_i (fr_i (fr_i (fr_i (fr_i fr_0 e1 (by omega)) e2 (by omega)) e3 (by omega)) e4 (by omega)) e5 (by omega)) e6 (by omega)) e7 (by omega), ?_, ?_, ?_, ?_, ?_, ?_, mv_i e7⟩
  · rw [mm_i e7 (by omega), mm_i e6 (by omega), mm_i e5 (by omega), mm_i e4 (by omega), mm_i e3 (by omega), mm_i e2 (by omega), mv_i e1]
  · rw [mm_i e7 (by omega), mm_i e6 (by omega), mm_i e5 (by omega), mm_i e4 (by omega), mm_i e3 (by omega), mv_i e2]
  · rw [mm_i e7 (by omega), mm_i e6 (by omega), mm_i e5 (by omega), mm_i e4 (by omega), mv_i e3]
  · rw [mm_i e7 (by omega), mm_i e6 (by omega), mm_i e5 (by omega), mv_i e4]
  · rw [mm_i e7 (by omega), mm_i e6 (by omega), mv_i e5]
  · rw [mm_i e7 (by omega), mv_i e6]
theorem t_Reader_swap {G : cx_T} {s : Nat} {h : ah_T} (hx : hb s h) : con G 0 0 0 m_Reader_swap [av_R (some 2), av_R (some (97 - s))] h (fun r h' => r = some (av_R (some s)) ∧ h' = st_r h 2 5 (some (97 - s))) := by
  refine con_of (L := [some (av_R (some 2)), some (av_R (some (97 - s))), none]) (by decide +kernel) (Nat.le_of_ble_eq_true rfl) rfl ?_
  refine A_aload_n 0 d_Reader_swap_0 rfl rfl ?_
  refine A_getOv (z := some s) T_ok d_Reader_swap_1 f_Reader_32 (hb_s hx sf_2) hx.2.2.2.1 ?_
  refine A_astore_n 2 (L' := [some (av_R (some 2)), some (av_R (some (97 - s))), some (av_R (some s))]) d_Reader_swap_4 rfl (Nat.le_of_ble_eq_true rfl) rfl ?_
  refine A_aload_n 0 d_Reader_swap_5 rfl rfl ?_
  refine A_aload_n 1 d_Reader_swap_6 rfl rfl ?_
  refine A_putRv T_ok d_Reader_swap_7 f_Reader_32 ty_o (hb_s hx sf_2) fin_f (fun h1 e1 => ?_)
  refine A_aload_n 2 d_Reader_swap_10 rfl rfl ?_
  exact A_aret d_Reader_swap_11 (by decide) rfl ty_o ⟨rfl, e1⟩
theorem hb_sw {s : Nat} {h : ah_T} (hk : hb s h) : hb (97 - s) (st_r (st_r h 2 5 (some (97 - s))) 0 3 (some s)) := by
  obtain ⟨x1, x2, x3, x4, x5, x6, x7⟩ := hk
  have hs : s = 17 ∨ s = 80 := x2
  have key : ∀ a k, ¬ (a = 0 ∧ k = 3) → ¬ (a = 2 ∧ k = 5) → (st_r (st_r h 2 5 (some (97 - s))) 0 3 (some s)).2.2.2 a k = h.2.2.2 a k := fun a k q1 q2 => (up2_o q1).trans (up2_o q2)
  have e1 : 97 - (97 - s) = s := by omega
  refine ⟨x1, by unfold isS; omega, ?_, ?_, ?_, fun q hq => ?_, fun q hq => ?_⟩
  · rw [e1]; simp [st_r, up2]
  · simp [st_r, up2]
  · rw [key 3 6 (by decide) (by decide)]; exact x5
  · have h9 : ∀ q ∈ rf_L, ¬ (q.1 = 0 ∧ q.2.1 = 3) ∧ ¬ (q.1 = 2 ∧ q.2.1 = 5) := by decide +kernel
    rw [key _ _ (h9 q hq).1 (h9 q hq).2]
    exact x6 q hq
  · rw [key 170 q.1 (by omega) (by omega)]; exact x7 q hq
theorem fr_sw {s : Nat} {W : Nat → Nat → Prop} {h0 h : ah_T} (f : fr W h0 h) : fr W h0 (st_r (st_r h 2 5 (some (97 - s))) 0 3 (some s)) := by
  refine ⟨f.1, fun q => ?_⟩
  have := f.2 q
  have key : ∀ a k, ¬ (a = 0 ∧ k = 3) → ¬ (a = 2 ∧ k = 5) → (st_r (st_r h 2 5 (some (97 - s))) 0 3 (some s)).2.2.2 a k = h.2.2.2 a k := fun a k q1 q2 => (up2_o q1).trans (up2_o q2)
  rw [key 3 6 (by decide) (by decide)]; exact this
def PScl (s s' : Nat) (R : F_T ⊕ pm_T) (z : Int) (h h' : ah_T) : Prop := match R with
  | .inl q => s' = s ∧ z = -10 - q.1 ∧ q.1 ≠ 0 ∧ h'.2.1 0 4 = q.2 ∧ fr (fun a k => WY s a k ∨ (a = 0 ∧ (k = 1 ∨ k = 4))) h h'
  | .inr μ => s' = 97 - s ∧ z = evs μ (μ 0 7).toNat ∧ h'.2.1 0 4 = -2 ∧ CKn μ s h' ∧ Fgt h'
theorem t_PM_score {G : cx_T} {s n : Nat} {h : ah_T} {T : Nat → Int} (hb0 : hb s h) (hn : h.2.1 0 1 = (n : Int)) (hn2 : n ≤ 2000) (hT : ∀ j, j < n → h.2.1 1 j = T j ∧ 0 ≤ T j ∧ T j ≤ 255) :
    con G 24 0 0 m_PM_score [av_R (some 0)] h (fun r h' => ∃ z s', r = some (av_I z) ∧ hb s' h' ∧ fr (fun a _ => a < 170) h h' ∧ h'.2.1 0 1 = 0 ∧ ∃ (t : tk_T) (m : Nat) (a b : Nat → Nat), TkA T n t m a b ∧ PScl s s' (sp_score t) z h h') := by
  have hS : isS s := hb0.2.1
  have hs0 : s = 17 ∨ s = 80 := hS
  refine con_of (L := [some (av_R (some 0)), none]) (by decide +kernel) (Nat.le_of_ble_eq_true rfl) rfl ?_
  refine A_aload_n 0 d_PM_score_0 rfl rfl ?_
  refine A_getOv (z := some 2) T_ok d_PM_score_1 f_PM_20 (hb_s hb0 sf_0) (hb_r hb0 rff_0_2) ?_
  refine A_aload_n 0 d_PM_score_4 rfl rfl ?_
  refine A_getAv (z := some 1) T_ok d_PM_score_5 f_PM_9 (hb_s hb0 sf_0) (hb_r hb0 rff_0_0) ?_
  refine A_aload_n 0 d_PM_score_8 rfl rfl ?_
  refine A_pc (pc' := 9) rfl ?_
  refine A_getIf T_ok d_PM_score_9 f_PM_13 (hb_s hb0 sf_0) (fun x3 ex3 _ _ => ?_)
  have ex3' : x3 = (n : Int) := ex3.trans hn
  subst ex3'
  refine A_callV2 m_Reader_read T_ok d_PM_score_12 l_PM_80 k_Reader_read (hb_s hb0 sf_2) rfl (by decide +kernel) (by decide) (Nat.le_of_ble_eq_true rfl) (t_Reader_read hb0 hT hn2) (fun r h4 hq => ?_)
  obtain ⟨z, rfl, hb4, f4, t, m, a, b, hA, hR⟩ := hq
  have fb := FN_score (t := t)
  refine A_istore_n 1 (L' := [some (av_R (some 0)), some (av_I z)]) d_PM_score_15 rfl (Nat.le_of_ble_eq_true rfl) rfl ?_
  refine A_aload_n 0 d_PM_score_16 rfl rfl ?_
  refine A_iconst d_PM_score_17 rfl ?_
  refine A_putIv T_ok d_PM_score_18 f_PM_13 (hb_s hb4 sf_0) fin_f (fun h8 e8 => ?_)
  have hb8 := hb_i hb4 e8
  have f8 : fr (fun a k => WY s a k ∨ (a = 0 ∧ (k = 1 ∨ k = 4))) h h8 := fr_i (fr_w f4 (fun a k w => Or.inl w)) e8 (Or.inr ⟨rfl, Or.inl rfl⟩)
  refine A_iload_n 1 d_PM_score_21 rfl rfl ?_
  refine A_pc (pc' := 22) rfl ?_
  generalize es : sp_score t = R at *
  refine A_if_eq (tgt := 41) d_PM_score_22 (by decide) (fun c10 => ?_) (fun c10 => ?_)
  · rcases R with q | μ
    · exact absurd c10 (by have := hR.1; have := hR.2.1; omega)
    obtain ⟨-, i, HV⟩ := hR
    refine A_aload_n 0 d_PM_score_41 rfl rfl ?_
    refine A_bipush d_PM_score_42 rfl ?_
    refine A_putIv T_ok d_PM_score_44 f_PM_31 (hb_s hb8 sf_0) fin_f (fun h11 e11 => ?_)
    have hb11 := hb_i hb8 e11
    have f11 : fr (fun a k => WY s a k ∨ (a = 0 ∧ (k = 1 ∨ k = 4))) h h11 := fr_i f8 e11 (Or.inr ⟨rfl, Or.inr rfl⟩)
    refine A_aload_n 0 d_PM_score_47 rfl rfl ?_
    refine A_aload_n 0 d_PM_score_48 rfl rfl ?_
    refine A_pc (pc' := 49) rfl ?_
    refine A_getOv (z := some 2) T_ok d_PM_score_49 f_PM_20 (hb_s hb11 sf_0) (hb_r hb11 rff_0_2) ?_
    refine A_aload_n 0 d_PM_score_52 rfl rfl ?_
    refine A_getOv (z := some (97 - s)) T_ok d_PM_score_53 f_PM_27 (hb_s hb11 sf_0) hb11.2.2.1 ?_
    refine A_callV1 m_Reader_swap T_ok d_PM_score_56 l_PM_85 k_Reader_swap (hb_s hb11 sf_2) rfl (by decide +kernel) (by decide) (Nat.le_of_ble_eq_true rfl) (t_Reader_swap hb11) (fun r h15 hq => ?_)
    obtain ⟨rfl, eh15⟩ := hq
    refine A_putRv T_ok d_PM_score_59 f_PM_27 ty_o (by rw [eh15]; exact (hb_s hb11 sf_0)) fin_f (fun h16 eh16 => ?_)
    have hb16 : hb (97 - s) h16 := by rw [eh16, eh15]; exact hb_sw hb11
    have f16 : fr (fun a k => WY s a k ∨ (a = 0 ∧ (k = 1 ∨ k = 4))) h h16 := by rw [eh16, eh15]; exact fr_sw f11
    have i16 : h16.2.1 = h11.2.1 ∧ h16.2.2.1 = h11.2.2.1 := by rw [eh16, eh15]; exact ⟨rfl, rfl⟩
    have K4 : CKn μ s h4 := CKn_of HV
    have K11 : CKn μ s h11 := CKn_f (CKn_f K4 (fr_i (W := fun a k => a = 0) fr_0 e8 rfl) (fun a k w => by omega)) (fr_i (W := fun a k => a = 0) fr_0 e11 rfl) (fun a k w => by omega)
    have K16 : CKn μ s h16 := by rw [eh16, eh15]; exact K11
    have c01 : h16.2.1 0 1 = 0 := by rw [i16.1, mm_i e11 (by omega), mv_i e8]
    have c04 : h16.2.1 0 4 = -2 := by rw [i16.1, mv_i e11]
    have e97 : 97 - (97 - s) = s := by omega
    obtain ⟨s2, es2⟩ : ∃ q, q = 97 - s := ⟨_, rfl⟩
    rw [← es2] at hb16 e97
    refine A_aload_n 0 d_PM_score_62 rfl rfl ?_
    refine A_callV0 m_PM_forgetFindings T_ok d_PM_score_63 l_PM_89 k_PM_forgetFindings (hb_s hb16 sf_0) rfl (by decide +kernel) (by decide) (Nat.le_of_ble_eq_true rfl) (t_PM_forgetFindings hb16) (fun r h18 hq => ?_)
    obtain ⟨rfl, hb18, f18, F18⟩ := hq
    refine A_aload_n 0 d_PM_score_66 rfl rfl ?_
    refine A_getOv (z := some (97 - s2)) T_ok d_PM_score_67 f_PM_27 (hb_s hb18 sf_0) hb18.2.2.1 ?_
    have K18 : CKn μ s h18 := CKn_f K16 f18 (fun a k w => by omega)
    rw [e97]
    refine A_callV0 m_Score_allEvents T_ok d_PM_score_70 l_PM_92 k_Score_allEvents (hs_S hb18 hS) rfl (by decide +kernel) (by decide) (Nat.le_of_ble_eq_true rfl) (t_Score_allEvents hb18 hS K18) (fun r h22 hq => ?_)
    obtain ⟨hb22, rfl, rfl⟩ := hq
    refine A_iret d_PM_score_73 (by decide) rfl ⟨_, s2, rfl, hb22, fr_t (fr_w f16 (fun a k w => by omega)) f18 (fun a k w => by omega), by rw [fr_g f18 (by omega)]; exact c01, t, m, a, b, hA, ?_⟩
    rw [es]
    exact ⟨es2, rfl, by rw [fr_g f18 (by omega)]; exact c04, K18, F18⟩
  · rcases R with q | μ
    case inr => exact absurd hR.1 c10
    obtain ⟨rfl, q0, w6, w7⟩ := hR
    have fbq := fb q rfl
    refine A_aload_n 0 d_PM_score_25 rfl rfl ?_
    refine A_aload_n 0 d_PM_score_26 rfl rfl ?_
    refine A_getOv (z := some 2) T_ok d_PM_score_27 f_PM_20 (hb_s hb8 sf_0) (hb_r hb8 rff_0_2) ?_
    refine A_getIf T_ok d_PM_score_30 f_PM_84 (hb_s hb8 sf_2) (fun x26 ex26 _ _ => ?_)
    refine A_putIv T_ok d_PM_score_33 f_PM_31 (hb_s hb8 sf_0) fin_f (fun h27 e27 => ?_)
    refine A_pc (pc' := 36) rfl ?_
    refine A_bipush d_PM_score_36 rfl ?_
    refine A_iload_n 1 d_PM_score_38 rfl rfl ?_
    refine A_isubv (z := -10 - q.1) d_PM_score_39 (w32_to (by omega) (by unfold i32; omega)) ?_
    refine A_iret d_PM_score_40 (by decide) rfl ⟨_, s, rfl, hb_i hb8 e27, fr_i (fr_w f8 (fun a k w => by omega)) e27 (by decide), by rw [mm_i e27 (by omega), mv_i e8], t, m, a, b, hA, ?_⟩
    rw [es]
    exact ⟨rfl, rfl, q0, by rw [mv_i e27, ex26, mm_i e8 (by omega)]; exact w7, fr_i f8 e27 (Or.inr ⟨rfl, Or.inr rfl⟩)⟩

/-! ===== verification conditions, 510 ===== -/
def B_MD_lay_3 (G : cx_T) (s : Nat) (a1 : Int) (v2 : Int) (h : ah_T) (Q : Option av_T → ah_T → Prop) (X3 : Int → ah_T → Prop) : Prop :=
 ((v2 < 0 → Q none h) ∧ (¬ v2 < 0 → ∀ x2 : Int, x2 = h.2.1 170 1 → -2147483648 ≤ x2 → x2 ≤ 2147483647 → ∀ x3 : Int, x3 = ((Int32.ofInt a1) >>> (Int32.ofInt v2 &&& 31)).toInt → (-2147483648) ≤ x3 → x3 ≤ 2147483647 → ∀ x4 : Int, x4 = ((Int32.ofInt x3) &&& (Int32.ofInt 255)).toInt → (-2147483648) ≤ x4 → x4 ≤ 2147483647 → (0 ≤ x2 ∧ x2 < 2000) ∧ ∀ h6 : ah_T, h6 = st_i h 171 (x2).toNat x4 → ((-2147483648) ≤ (x2 + 1) ∧ (x2 + 1) ≤ 2147483647) ∧ ∀ h10 : ah_T, h10 = st_i h6 170 1 (x2 + 1) → ((-2147483648) ≤ (v2 - 8) ∧ (v2 - 8) ≤ 2147483647) ∧ X3 ((v2 - 8)) h10))
theorem b_MD_lay_3 {G : cx_T} {s : Nat} {a1 : Int} {v2 : Int} {h : ah_T} {Q : Option av_T → ah_T → Prop} {X3 : Int → ah_T → Prop} (hX3 : ∀ (v2 : Int) (h : ah_T), hb s h → X3 v2 h → aw G (rm_R 0 0 0) m_MD_lay 0 0 3 [some (av_R (some 170)), some (av_I a1), some (av_I v2)] [] h Q) (hb0 : hb s h) (H : B_MD_lay_3 G s a1 v2 h Q X3) : aw G (rm_R 0 0 0) m_MD_lay 0 0 3 [some (av_R (some 170)), some (av_I a1), some (av_I v2)] [] h Q := by
  unfold B_MD_lay_3 at H
  have hS : isS s := hb0.2.1
  refine A_iload_n 2 d_MD_lay_3 rfl rfl ?_
  refine A_if_lt (tgt := 39) d_MD_lay_4 (by decide) (fun c => ?_) (fun c => ?_)
  · replace H := H.1 c
    exact A_vret d_MD_lay_39 (by decide) rfl H
  · replace H := H.2 c
    refine A_aload_n 0 d_MD_lay_7 rfl rfl ?_
    refine A_getAv (z := some 171) T_ok d_MD_lay_8 f_MD_7 (hb_s hb0 sf_170) (hb_m hb0 rfm_0) ?_
    refine A_aload_n 0 d_MD_lay_11 rfl rfl ?_
    refine A_getIf T_ok d_MD_lay_12 f_MD_226 (hb_s hb0 sf_170) (fun x2 ex2 lx2 ux2 => ?_)
    replace H := H x2 ex2 lx2 ux2
    refine A_iload_n 1 d_MD_lay_15 rfl rfl ?_
    refine A_pc (pc' := 16) rfl ?_
    refine A_iload_n 2 d_MD_lay_16 rfl rfl ?_
    refine A_ishr d_MD_lay_17 ?_
    refine A_nrI (fun x3 ex3 lx3 ux3 => ?_)
    replace H := H x3 ex3 lx3 ux3
    refine A_sipush d_MD_lay_18 rfl ?_
    refine A_iand d_MD_lay_21 ?_
    refine A_nrI (fun x4 ex4 lx4 ux4 => ?_)
    replace H := H x4 ex4 lx4 ux4
    have g5 := H.1
    replace H := H.2
    refine A_iastoreN d_MD_lay_22 (hb_s hb0 sf_171) g5.1 g5.2 ?_
    refine A_hn (fun h6 eh6 => ?_)
    have hb7 := hb_i hb0 eh6
    replace H := H h6 eh6
    refine A_aload_n 0 d_MD_lay_23 rfl rfl ?_
    refine A_pc (pc' := 24) rfl ?_
    refine A_dupR d_MD_lay_24 ?_
    refine A_getIv (z := x2) T_ok d_MD_lay_25 f_MD_226 (hb_s hb7 sf_170) ((mm_i eh6 (fun q => absurd q.1 (by decide))).trans ex2.symm) ?_
    refine A_iconst d_MD_lay_28 rfl ?_
    have g9 := H.1
    replace H := H.2
    refine A_iaddv (z := (x2 + 1)) d_MD_lay_29 (w32_to (by omega) (by unfold i32; omega)) ?_
    refine A_putI T_ok d_MD_lay_30 f_MD_226 (hb_s hb7 sf_170) fin_f ?_
    refine A_hn (fun h10 eh10 => ?_)
    have hb11 := hb_i hb7 eh10
    replace H := H h10 eh10
    have g12 := H.1
    replace H := H.2
    refine A_iincv (z := (v2 - 8)) (L' := [some (av_R (some 170)), some (av_I a1), some (av_I (v2 - 8))]) d_MD_lay_33 rfl (w32_to (by omega) (by unfold i32; omega)) rfl ?_
    refine A_pc (pc' := 36) rfl ?_
    refine A_goto (tgt := 3) d_MD_lay_36 (by decide) ?_
    refine A_pc (pc' := 3) rfl ?_
    exact hX3 ((v2 - 8)) h10  hb11 H
theorem lp_MD_lay_3 {G : cx_T} {s : Nat} {a1 : Int} {Q : Option av_T → ah_T → Prop} (I : Int → ah_T → Prop) (μ : Int → ah_T → Nat) (hI : ∀ (v2 : Int) (h : ah_T), hb s h → I v2 h → B_MD_lay_3 G s a1 v2 h Q (fun v2' h' => I v2' h' ∧ μ v2' h' < μ v2 h)) : ∀ (v2 : Int) (h : ah_T), hb s h → I v2 h → aw G (rm_R 0 0 0) m_MD_lay 0 0 3 [some (av_R (some 170)), some (av_I a1), some (av_I v2)] [] h Q := by
  have key : ∀ (n : Nat) (v2 : Int) (h : ah_T), hb s h → I v2 h → μ v2 h < n → aw G (rm_R 0 0 0) m_MD_lay 0 0 3 [some (av_R (some 170)), some (av_I a1), some (av_I v2)] [] h Q := by
    intro n
    induction n with
    | zero => intro v2 h  hb0 hi hm; omega
    | succ n ih => intro v2 h  hb0 hi hm; exact b_MD_lay_3  (fun v2' h'  hb' hx => ih v2' h'  hb' hx.1 (by have := hx.2; omega))  hb0 (hI v2 h  hb0 hi)
  exact fun v2 h  hb0 hi => key _ v2 h  hb0 hi (Nat.lt_succ_self _)
def B_MD_lay_0 (G : cx_T) (s : Nat) (a1 : Int) (h : ah_T) (Q : Option av_T → ah_T → Prop) (X3 : Int → ah_T → Prop) : Prop :=
 X3 (24) h
theorem b_MD_lay_0 {G : cx_T} {s : Nat} {a1 : Int} {h : ah_T} {Q : Option av_T → ah_T → Prop} {X3 : Int → ah_T → Prop} (hX3 : ∀ (v2 : Int) (h : ah_T), hb s h → X3 v2 h → aw G (rm_R 0 0 0) m_MD_lay 0 0 3 [some (av_R (some 170)), some (av_I a1), some (av_I v2)] [] h Q) (hb0 : hb s h) (H : B_MD_lay_0 G s a1 h Q X3) : aw G (rm_R 0 0 0) m_MD_lay 0 0 0 [some (av_R (some 170)), some (av_I a1), none] [] h Q := by
  unfold B_MD_lay_0 at H
  have hS : isS s := hb0.2.1
  refine A_bipush d_MD_lay_0 rfl ?_
  refine A_istore_n 2 (L' := [some (av_R (some 170)), some (av_I a1), some (av_I 24)]) d_MD_lay_2 rfl (Nat.le_of_ble_eq_true rfl) rfl ?_
  refine A_pc (pc' := 3) rfl ?_
  exact hX3 (24) h  hb0 H
theorem c_MD_lay {G : cx_T} {s : Nat} {a1 : Int} {h : ah_T} {Q : Option av_T → ah_T → Prop} {X3 : Int → ah_T → Prop} (hX3 : ∀ (v2 : Int) (h : ah_T), hb s h → X3 v2 h → aw G (rm_R 0 0 0) m_MD_lay 0 0 3 [some (av_R (some 170)), some (av_I a1), some (av_I v2)] [] h Q) (hb0 : hb s h) (H : i32 a1 → B_MD_lay_0 G s a1 h Q X3) : con G 0 0 0 m_MD_lay [av_R (some 170), av_I a1] h Q := by
  have hS : isS s := hb0.2.1
  refine con_of (L := [some (av_R (some 170)), some (av_I a1), none]) (by decide +kernel) (Nat.le_of_ble_eq_true rfl) rfl ?_
  refine A_locI 1 rfl (fun ra1 => ?_)
  exact b_MD_lay_0  hX3 hb0 (H ra1)
def B_MD_feed_0 (G : cx_T) (s : Nat) (a1 : Int) (a2 : Int) (a3 : Int) (a4 : Int) (a5 : Int) (h : ah_T) (Q : Option av_T → ah_T → Prop) : Prop :=
 ∀ x1 : Int, x1 = h.2.1 170 1 → -2147483648 ≤ x1 → x1 ≤ 2147483647 → ((-2147483648) ≤ (x1 + 20) ∧ (x1 + 20) ≤ 2147483647) ∧ (((x1 + 20) ≤ 2000 → con G 0 0 0 m_MD_lay [av_R (some 170), av_I a1] h (fun r h3 => r = none ∧ hb s h3 ∧ con G 0 0 0 m_MD_lay [av_R (some 170), av_I a2] h3 (fun r h6 => r = none ∧ hb s h6 ∧ con G 0 0 0 m_MD_lay [av_R (some 170), av_I a3] h6 (fun r h9 => r = none ∧ hb s h9 ∧ con G 0 0 0 m_MD_lay [av_R (some 170), av_I a4] h9 (fun r h12 => r = none ∧ hb s h12 ∧ con G 0 0 0 m_MD_lay [av_R (some 170), av_I a5] h12 (fun r h15 => r = none ∧ hb s h15 ∧ ∀ x18 : Int, x18 = h15.2.1 170 1 → -2147483648 ≤ x18 → x18 ≤ 2147483647 → Q (some (av_I x18)) h15)))))) ∧ (¬ (x1 + 20) ≤ 2000 → Q (some (av_I (-3))) h))
theorem b_MD_feed_0 {G : cx_T} {s : Nat} {a1 : Int} {a2 : Int} {a3 : Int} {a4 : Int} {a5 : Int} {h : ah_T} {Q : Option av_T → ah_T → Prop} (hb0 : hb s h) (H : B_MD_feed_0 G s a1 a2 a3 a4 a5 h Q ) : aw G (rm_R 1 0 0) m_MD_feed 0 0 0 [some (av_R (some 170)), some (av_I a1), some (av_I a2), some (av_I a3), some (av_I a4), some (av_I a5)] [] h Q := by
  unfold B_MD_feed_0 at H
  have hS : isS s := hb0.2.1
  refine A_aload_n 0 d_MD_feed_0 rfl rfl ?_
  refine A_getIf T_ok d_MD_feed_1 f_MD_226 (hb_s hb0 sf_170) (fun x1 ex1 lx1 ux1 => ?_)
  replace H := H x1 ex1 lx1 ux1
  refine A_bipush d_MD_feed_4 rfl ?_
  have g2 := H.1
  replace H := H.2
  refine A_iaddv (z := (x1 + 20)) d_MD_feed_6 (w32_to (by omega) (by unfold i32; omega)) ?_
  refine A_sipush d_MD_feed_7 rfl ?_
  refine A_pc (pc' := 10) rfl ?_
  refine A_icmp_le (tgt := 16) d_MD_feed_10 (by decide) (fun c => ?_) (fun c => ?_)
  · replace H := H.1 c
    refine A_aload_n 0 d_MD_feed_16 rfl rfl ?_
    refine A_iload_n 1 d_MD_feed_17 rfl rfl ?_
    refine A_callV1 m_MD_lay T_ok d_MD_feed_18 l_MD_229 k_MD_lay (hb_s hb0 sf_170) rfl (by decide +kernel) (by decide) (Nat.le_of_ble_eq_true rfl) H (fun r h3 hq => ?_)
    clear H
    obtain ⟨rfl, hb4, H⟩ := hq
    refine A_aload_n 0 d_MD_feed_21 rfl rfl ?_
    refine A_iload_n 2 d_MD_feed_22 rfl rfl ?_
    refine A_callV1 m_MD_lay T_ok d_MD_feed_23 l_MD_229 k_MD_lay (hb_s hb4 sf_170) rfl (by decide +kernel) (by decide) (Nat.le_of_ble_eq_true rfl) H (fun r h6 hq => ?_)
    clear H
    obtain ⟨rfl, hb7, H⟩ := hq
    refine A_aload_n 0 d_MD_feed_26 rfl rfl ?_
    refine A_iload_n 3 d_MD_feed_27 rfl rfl ?_
    refine A_callV1 m_MD_lay T_ok d_MD_feed_28 l_MD_229 k_MD_lay (hb_s hb7 sf_170) rfl (by decide +kernel) (by decide) (Nat.le_of_ble_eq_true rfl) H (fun r h9 hq => ?_)
    clear H
    obtain ⟨rfl, hb10, H⟩ := hq
    refine A_aload_n 0 d_MD_feed_31 rfl rfl ?_
    refine A_iload d_MD_feed_32 rfl ?_
    refine A_callV1 m_MD_lay T_ok d_MD_feed_34 l_MD_229 k_MD_lay (hb_s hb10 sf_170) rfl (by decide +kernel) (by decide) (Nat.le_of_ble_eq_true rfl) H (fun r h12 hq => ?_)
    clear H
    obtain ⟨rfl, hb13, H⟩ := hq
    refine A_aload_n 0 d_MD_feed_37 rfl rfl ?_
    refine A_iload d_MD_feed_38 rfl ?_
    refine A_callV1 m_MD_lay T_ok d_MD_feed_40 l_MD_229 k_MD_lay (hb_s hb13 sf_170) rfl (by decide +kernel) (by decide) (Nat.le_of_ble_eq_true rfl) H (fun r h15 hq => ?_)
    clear H
    obtain ⟨rfl, hb16, H⟩ := hq
    refine A_aload_n 0 d_MD_feed_43 rfl rfl ?_
    refine A_getIf T_ok d_MD_feed_44 f_MD_226 (hb_s hb16 sf_170) (fun x18 ex18 lx18 ux18 => ?_)
    replace H := H x18 ex18 lx18 ux18
    exact A_iret d_MD_feed_47 (by decide) rfl H
  · replace H := H.2 c
    refine A_bipush d_MD_feed_13 rfl ?_
    exact A_iret d_MD_feed_15 (by decide) rfl H
theorem c_MD_feed {G : cx_T} {s : Nat} {a1 : Int} {a2 : Int} {a3 : Int} {a4 : Int} {a5 : Int} {h : ah_T} {Q : Option av_T → ah_T → Prop} (hb0 : hb s h) (H : i32 a1 → i32 a2 → i32 a3 → i32 a4 → i32 a5 → B_MD_feed_0 G s a1 a2 a3 a4 a5 h Q ) : con G 1 0 0 m_MD_feed [av_R (some 170), av_I a1, av_I a2, av_I a3, av_I a4, av_I a5] h Q := by
  have hS : isS s := hb0.2.1
  refine con_of (L := [some (av_R (some 170)), some (av_I a1), some (av_I a2), some (av_I a3), some (av_I a4), some (av_I a5)]) (by decide +kernel) (Nat.le_of_ble_eq_true rfl) rfl ?_
  refine A_locI 1 rfl (fun ra1 => ?_)
  refine A_locI 2 rfl (fun ra2 => ?_)
  refine A_locI 3 rfl (fun ra3 => ?_)
  refine A_locI 4 rfl (fun ra4 => ?_)
  refine A_locI 5 rfl (fun ra5 => ?_)
  exact b_MD_feed_0   hb0 (H ra1 ra2 ra3 ra4 ra5)
def B_MD_cut_12 (G : cx_T) (s : Nat) (a1 : Int) (h : ah_T) (Q : Option av_T → ah_T → Prop) : Prop :=
 Q (some (av_I (-1))) h
theorem b_MD_cut_12 {G : cx_T} {s : Nat} {a1 : Int} {h : ah_T} {Q : Option av_T → ah_T → Prop} (hb0 : hb s h) (H : B_MD_cut_12 G s a1 h Q ) : aw G (rm_R 0 0 0) m_MD_cut 0 0 12 [none, none] [] h Q := by
  unfold B_MD_cut_12 at H
  have hS : isS s := hb0.2.1
  refine A_iconst d_MD_cut_12 rfl ?_
  exact A_iret d_MD_cut_13 (by decide) rfl H
def B_MD_cut_0 (G : cx_T) (s : Nat) (a1 : Int) (h : ah_T) (Q : Option av_T → ah_T → Prop) : Prop :=
 ((a1 < 0 → B_MD_cut_12 G s a1 h Q ) ∧ (¬ a1 < 0 → ∀ x1 : Int, x1 = h.2.1 170 1 → -2147483648 ≤ x1 → x1 ≤ 2147483647 → ((a1 ≤ x1 → ((-2147483648) ≤ (x1 - a1) ∧ (x1 - a1) ≤ 2147483647) ∧ ∀ h4 : ah_T, h4 = st_i h 170 1 (x1 - a1) → Q (some (av_I (x1 - a1))) h4) ∧ (¬ a1 ≤ x1 → B_MD_cut_12 G s a1 h Q ))))
theorem b_MD_cut_0 {G : cx_T} {s : Nat} {a1 : Int} {h : ah_T} {Q : Option av_T → ah_T → Prop} (hb0 : hb s h) (H : B_MD_cut_0 G s a1 h Q ) : aw G (rm_R 0 0 0) m_MD_cut 0 0 0 [some (av_R (some 170)), some (av_I a1)] [] h Q := by
  unfold B_MD_cut_0 at H
  have hS : isS s := hb0.2.1
  refine A_iload_n 1 d_MD_cut_0 rfl rfl ?_
  refine A_if_lt (tgt := 12) d_MD_cut_1 (by decide) (fun c => ?_) (fun c => ?_)
  · replace H := H.1 c
    refine A_pc (pc' := 12) rfl ?_
    refine A_free (L' := [none, none]) trivial ?_
    exact b_MD_cut_12    hb0 H
  · replace H := H.2 c
    refine A_iload_n 1 d_MD_cut_4 rfl rfl ?_
    refine A_aload_n 0 d_MD_cut_5 rfl rfl ?_
    refine A_getIf T_ok d_MD_cut_6 f_MD_226 (hb_s hb0 sf_170) (fun x1 ex1 lx1 ux1 => ?_)
    replace H := H x1 ex1 lx1 ux1
    refine A_icmp_le (tgt := 14) d_MD_cut_9 (by decide) (fun c => ?_) (fun c => ?_)
    · replace H := H.1 c
      refine A_aload_n 0 d_MD_cut_14 rfl rfl ?_
      refine A_dupR d_MD_cut_15 ?_
      refine A_getIv (z := x1) T_ok d_MD_cut_16 f_MD_226 (hb_s hb0 sf_170) ex1.symm ?_
      refine A_iload_n 1 d_MD_cut_19 rfl rfl ?_
      have g3 := H.1
      replace H := H.2
      refine A_isubv (z := (x1 - a1)) d_MD_cut_20 (w32_to (by omega) (by unfold i32; omega)) ?_
      refine A_pc (pc' := 21) rfl ?_
      refine A_putI T_ok d_MD_cut_21 f_MD_226 (hb_s hb0 sf_170) fin_f ?_
      refine A_hn (fun h4 eh4 => ?_)
      have hb5 := hb_i hb0 eh4
      replace H := H h4 eh4
      refine A_aload_n 0 d_MD_cut_24 rfl rfl ?_
      refine A_getIv (z := (x1 - a1)) T_ok d_MD_cut_25 f_MD_226 (hb_s hb5 sf_170) (mv_i eh4) ?_
      exact A_iret d_MD_cut_28 (by decide) rfl H
    · replace H := H.2 c
      refine A_pc (pc' := 12) rfl ?_
      refine A_free (L' := [none, none]) trivial ?_
      exact b_MD_cut_12    hb0 H
theorem c_MD_cut {G : cx_T} {s : Nat} {a1 : Int} {h : ah_T} {Q : Option av_T → ah_T → Prop} (hb0 : hb s h) (H : i32 a1 → B_MD_cut_0 G s a1 h Q ) : con G 0 0 0 m_MD_cut [av_R (some 170), av_I a1] h Q := by
  have hS : isS s := hb0.2.1
  refine con_of (L := [some (av_R (some 170)), some (av_I a1)]) (by decide +kernel) (Nat.le_of_ble_eq_true rfl) rfl ?_
  refine A_locI 1 rfl (fun ra1 => ?_)
  exact b_MD_cut_0   hb0 (H ra1)

/-! ===== the reference: the tape, byte by byte ===== -/
theorem ss_b (A : BitVec 32) (n : Nat) (hn : n ≤ 24) : A.sshiftRight n &&& 255#32 = A >>> n &&& 255#32 := by
  have k : ∀ i, i < 32 → (255#32).getLsbD i = decide (i < 8) := by decide
  apply BitVec.eq_of_getLsbD_eq
  intro i hi
  rw [BitVec.getLsbD_and, BitVec.getLsbD_and, k i hi]
  by_cases c : i < 8
  · rw [BitVec.getLsbD_sshiftRight, BitVec.getLsbD_ushiftRight]
    have h1 : n + i < 32 := by omega
    have h2 : ¬ 32 ≤ i := by omega
    simp [h1, h2]
  · simp [c]
theorem mby (a : Int) (i : Nat) (hi : i < 4) : ((Int32.ofInt (((Int32.ofInt a) >>> (Int32.ofInt (24 - 8 * (i : Int)) &&& 31)).toInt)) &&& (Int32.ofInt 255)).toInt = byt a i := by
  unfold byt an_I us_I
  rw [Int32.ofInt_toInt, Int32.ofInt_toInt]
  generalize Int32.ofInt a = A
  congr 1
  apply Int32.toBitVec_inj.mp
  have e : ∀ n : Nat, n ≤ 24 → A.toBitVec.sshiftRight n &&& 255#32 = A.toBitVec >>> n &&& 255#32 := fun n hn => ss_b _ n hn
  obtain rfl | rfl | rfl | rfl : i = 0 ∨ i = 1 ∨ i = 2 ∨ i = 3 := by omega
  · exact e 24 (by decide)
  · exact e 16 (by decide)
  · exact e 8 (by decide)
  · exact e 0 (by decide)
theorem byt_b (a : Int) (i : Nat) : 0 ≤ byt a i ∧ byt a i ≤ 255 := and_r (m := 255) 8 rfl (by decide) (by decide) (by decide)
theorem fdb_b (a b c d e : Int) (j : Nat) : 0 ≤ fdb a b c d e j ∧ fdb a b c d e j ≤ 255 := by
  unfold fdb
  split
  · exact byt_b _ _
  split
  · exact byt_b _ _
  split
  · exact byt_b _ _
  split
  · exact byt_b _ _
  · exact byt_b _ _
abbrev WLy (k n : Nat) : Nat → Nat → Prop := fun x j => (x = 170 ∧ j = 1) ∨ (x = 171 ∧ k ≤ j ∧ j < k + n)
theorem t_MD_lay {G : cx_T} {s k : Nat} {h : ah_T} {a : Int} (hb0 : hb s h) (hk : h.2.1 170 1 = (k : Int)) (hk2 : k + 4 ≤ 2000) : con G 0 0 0 m_MD_lay [av_R (some 170), av_I a] h (fun r h' => r = none ∧ hb s h' ∧ fr (WLy k 4) h h' ∧ h'.2.1 170 1 = (k : Int) + 4 ∧ ∀ i, i < 4 → h'.2.1 171 (k + i) = byt a i) := by
  refine c_MD_lay (X3 := fun v2 hh => ∃ i : Nat, i ≤ 4 ∧ v2 = 24 - 8 * (i : Int) ∧ hh.2.1 170 1 = (k : Int) + i ∧ fr (WLy k 4) h hh ∧ ∀ j, j < i → hh.2.1 171 (k + j) = byt a j) ?_ hb0 (fun _ => ?_)
  · refine lp_MD_lay_3 (a1 := a) _ (fun v2 _ => (v2 + 8).toNat) ?_
    rintro v2 hh hb1 ⟨i, hi, rfl, hki, hf, hby⟩
    unfold B_MD_lay_3
    refine ⟨fun c => ?_, fun c x2 e2 _ _ x3 e3 _ _ x4 e4 _ _ => ⟨by omega, fun h6 e6 => ⟨⟨by omega, by omega⟩, fun h10 e10 => ⟨⟨by omega, by omega⟩, ⟨i + 1, by omega, by omega, by rw [mv_i e10]; omega, fr_i (fr_i hf e6 (by omega)) e10 (by omega), fun j hj => ?_⟩, by omega⟩⟩⟩⟩
    · have hi4 : i = 4 := by omega
      subst hi4
      exact ⟨rfl, hb1, hf, by rw [hki]; rfl, hby⟩
    · have ek : x2.toNat = k + i := by omega
      rw [ek] at e6
      rw [mm_i e10 (by omega)]
      by_cases c2 : j = i
      · rw [c2, mv_i e6, e4, e3]; exact mby a i (by omega)
      · rw [mm_i e6 (by omega)]; exact hby j (by omega)
  · unfold B_MD_lay_0
    exact ⟨0, by decide, rfl, by rw [hk]; omega, fr_0, fun j hj => by omega⟩
theorem t_MD_feed {G : cx_T} {s k : Nat} {h : ah_T} {a b c d e : Int} (hb0 : hb s h) (hk : h.2.1 170 1 = (k : Int)) (hk2 : k ≤ 2000) : con G 1 0 0 m_MD_feed [av_R (some 170), av_I a, av_I b, av_I c, av_I d, av_I e] h (fun r h' => hb s h' ∧ ((k + 20 ≤ 2000 ∧ r = some (av_I ((k : Int) + 20)) ∧ fr (WLy k 20) h h' ∧ h'.2.1 170 1 = (k : Int) + 20 ∧ ∀ j, j < 20 → h'.2.1 171 (k + j) = fdb a b c d e j) ∨ (¬ k + 20 ≤ 2000 ∧ r = some (av_I (-3)) ∧ h' = h))) := by
  refine c_MD_feed hb0 (fun _ _ _ _ _ => ?_)
  unfold B_MD_feed_0
  intro x1 e1 _ _
  obtain rfl : x1 = (k : Int) := e1.trans hk
  refine ⟨⟨by omega, by omega⟩, fun w => ?_, fun w => ⟨hb0, Or.inr ⟨by omega, rfl, rfl⟩⟩⟩
  refine con_mono (t_MD_lay hb0 hk (by omega)) ?_
  rintro r h3 ⟨rfl, hb3, f3, k3, y3⟩
  refine ⟨rfl, hb3, con_mono (t_MD_lay (k := k + 4) hb3 (by rw [k3]; omega) (by omega)) ?_⟩
  rintro r h6 ⟨rfl, hb6, f6, k6, y6⟩
  refine ⟨rfl, hb6, con_mono (t_MD_lay (k := k + 8) hb6 (by rw [k6]; omega) (by omega)) ?_⟩
  rintro r h9 ⟨rfl, hb9, f9, k9, y9⟩
  refine ⟨rfl, hb9, con_mono (t_MD_lay (k := k + 12) hb9 (by rw [k9]; omega) (by omega)) ?_⟩
  rintro r h12 ⟨rfl, hb12, f12, k12, y12⟩
  refine ⟨rfl, hb12, con_mono (t_MD_lay (k := k + 16) hb12 (by rw [k12]; omega) (by omega)) ?_⟩
  rintro r h15 ⟨rfl, hb15, f15, k15, y15⟩
  refine ⟨rfl, hb15, fun x18 e18 _ _ => ⟨hb15, Or.inl ⟨by omega, ?_, ?_, by rw [k15]; omega, fun j hj => ?_⟩⟩⟩
  · have : x18 = (k : Int) + 20 := by rw [e18, k15]; omega
    rw [this]
  · exact fr_t (fr_t (fr_t (fr_t (fr_w f3 (fun a k w => by unfold WLy at *; omega)) f6 (fun a k w => by unfold WLy at *; omega)) f9 (fun a k w => by unfold WLy at *; omega)) f12 (fun a k w => by unfold WLy at *; omega)) f15 (fun a k w => by unfold WLy at *; omega)
  · unfold fdb
    by_cases c1 : j < 4
    · rw [if_pos c1, fr_g f15 (by omega), fr_g f12 (by omega), fr_g f9 (by omega), fr_g f6 (by omega)]; exact y3 j c1
    rw [if_neg c1]
    by_cases c2 : j < 8
    · rw [if_pos c2, fr_g f15 (by omega), fr_g f12 (by omega), fr_g f9 (by omega)]
      have := y6 (j - 4) (by omega)
      rw [show k + 4 + (j - 4) = k + j by omega] at this; exact this
    rw [if_neg c2]
    by_cases c3 : j < 12
    · rw [if_pos c3, fr_g f15 (by omega), fr_g f12 (by omega)]
      have := y9 (j - 8) (by omega)
      rw [show k + 8 + (j - 8) = k + j by omega] at this; exact this
    rw [if_neg c3]
    by_cases c4 : j < 16
    · rw [if_pos c4, fr_g f15 (by omega)]
      have := y12 (j - 12) (by omega)
      rw [show k + 12 + (j - 12) = k + j by omega] at this; exact this
    rw [if_neg c4]
    have := y15 (j - 16) (by omega)
    rw [show k + 16 + (j - 16) = k + j by omega] at this; exact this
theorem t_MD_cut {G : cx_T} {s k : Nat} {h : ah_T} {a : Int} (hb0 : hb s h) (hk : h.2.1 170 1 = (k : Int)) (hk2 : k ≤ 2000) : con G 0 0 0 m_MD_cut [av_R (some 170), av_I a] h (fun r h' => hb s h' ∧ ((0 ≤ a ∧ a ≤ k ∧ r = some (av_I ((k : Int) - a)) ∧ fr (fun x j => x = 170 ∧ j = 1) h h' ∧ h'.2.1 170 1 = (k : Int) - a) ∨ (¬ (0 ≤ a ∧ a ≤ k) ∧ r = some (av_I (-1)) ∧ h' = h))) := by
  refine c_MD_cut hb0 (fun _ => ?_)
  unfold B_MD_cut_0 B_MD_cut_12
  refine ⟨fun c => ⟨hb0, Or.inr ⟨by omega, rfl, rfl⟩⟩, fun c x1 e1 _ _ => ?_⟩
  obtain rfl : x1 = (k : Int) := e1.trans hk
  exact ⟨fun c1 => ⟨⟨by omega, by omega⟩, fun h4 e4 => ⟨hb_i hb0 e4, Or.inl ⟨by omega, c1, rfl, fr_i fr_0 e4 ⟨rfl, rfl⟩, mv_i e4⟩⟩⟩, fun c1 => ⟨hb0, Or.inr ⟨by omega, rfl, rfl⟩⟩⟩

/-! ===== two heaps that tell one: the cells that are there ===== -/
def isIT (t : FieldType) : Bool := match t with
  | .long => false
  | .object _ => false
  | .array _ => false
  | _ => true
def icb (a k : Nat) : Bool := match sh_L[a]? with
  | some (0, n) => decide (k < n)
  | some (2, n) => decide (k < n)
  | some (c + 4, n) => decide (k < n) && isIT (f_ty c k)
  | _ => false
def lcb (a k : Nat) : Bool := match sh_L[a]? with
  | some (1, n) => decide (k < n)
  | _ => false
def rcb (a k : Nat) : Bool := match sh_L[a]? with
  | some (c + 4, n) => decide (k < n) && (match f_ty c k with
    | .object _ => true
    | _ => false)
  | _ => false
def agI (h1 h2 : ah_T) : Prop := ∀ a k, icb a k = true → h2.2.1 a k = h1.2.1 a k
def agL (h1 h2 : ah_T) : Prop := ∀ a k, lcb a k = true → h2.2.2.1 a k = h1.2.2.1 a k
def agR (h1 h2 : ah_T) : Prop := ∀ a k, rcb a k = true → h2.2.2.2 a k = h1.2.2.2 a k
theorem arrV_eq {c1 c2 : ClassId} {n k : Nat} {f g : Nat → Value} (e : arrV c1 n f = arrV c2 n g) (hk : k < n) : f k = g k := by
  have h1 := arrV_read c1 f hk
  rw [e, arrV_read c2 g hk] at h1
  exact (Option.some.inj h1).symm
theorem ob_eq {o n k : Nat} {cC : ClassId} {iS : Nat → Nat} {H : Heap} {V W : Nat → Value} (h1 : t_OB o cC n iS H V) (h2 : t_OB o cC n iS H W) (hk : k < n) : V k = W k := by
  obtain ⟨c1, e1, -, -, q1⟩ := h1
  obtain ⟨c2, e2, -, -, q2⟩ := h2
  rw [e1] at e2
  obtain rfl := Option.some.inj e2
  have := q1 k hk
  rw [q2 k hk] at this
  exact (Option.some.inj this).symm
theorem fv_i {b : Nat} {t : FieldType} {fi fl : Nat → Int} {fr : Nat → Option Nat} {k : Nat} (h : isIT t = true) : fv_V b t fi fl fr k = .int (Int32.ofInt (fi k)) := by
  unfold isIT at h
  cases t <;> first | rfl | (simp at h; done)
theorem agI_of {G : cx_T} {h1 h2 : ah_T} (e1 : h1.1 = sh_L) (e2 : h2.1 = sh_L) (S : sameH G h1 h2) : agI h1 h2 := by
  obtain ⟨t, ⟨-, C1, -, r1, -⟩, ⟨-, C2, -, r2, -⟩⟩ := S
  intro a k hk
  have fin : (Value.int (Int32.ofInt (h2.2.1 a k))) = .int (Int32.ofInt (h1.2.1 a k)) → h2.2.1 a k = h1.2.1 a k := fun e => (i32_eq (r2 a k) (r1 a k)).mp (by injection e)
  unfold icb at hk
  split at hk
  · rename_i n hs
    have c1 : _ = _ := C1 a 0 n (by rw [e1]; exact hs)
    have c2 : _ = _ := C2 a 0 n (by rw [e2]; exact hs)
    rw [c1] at c2
    exact fin (arrV_eq (Option.some.inj c2) (of_decide_eq_true hk)).symm
  · rename_i n hs
    have c1 := (show _ ∧ _ from C1 a 2 n (by rw [e1]; exact hs)).1
    have c2 := (show _ ∧ _ from C2 a 2 n (by rw [e2]; exact hs)).1
    rw [c1] at c2
    exact fin (arrV_eq (Option.some.inj c2) (of_decide_eq_true hk)).symm
  · rename_i c n hs
    rw [Bool.and_eq_true] at hk
    obtain ⟨_, -, -, c1, -⟩ := (show ∃ r : vw_C, _ from C1 a (c + 4) n (by rw [e1]; exact hs))
    obtain ⟨_, -, -, c2, -⟩ := (show ∃ r : vw_C, _ from C2 a (c + 4) n (by rw [e2]; exact hs))
    have e := ob_eq c2 c1 (of_decide_eq_true hk.1)
    rw [fv_i hk.2, fv_i hk.2] at e
    exact fin e
  · exact absurd hk (by decide)
theorem agL_of {G : cx_T} {h1 h2 : ah_T} (e1 : h1.1 = sh_L) (e2 : h2.1 = sh_L) (S : sameH G h1 h2) : agL h1 h2 := by
  obtain ⟨t, ⟨-, C1, -, -, r1⟩, ⟨-, C2, -, -, r2⟩⟩ := S
  intro a k hk
  have fin : (Value.long (Int64.ofInt (h2.2.2.1 a k))) = .long (Int64.ofInt (h1.2.2.1 a k)) → h2.2.2.1 a k = h1.2.2.1 a k := fun e => (i64_eq (r2 a k) (r1 a k)).mp (by injection e)
  unfold lcb at hk
  split at hk
  · rename_i n hs
    have c1 : _ = _ := C1 a 1 n (by rw [e1]; exact hs)
    have c2 : _ = _ := C2 a 1 n (by rw [e2]; exact hs)
    rw [c1] at c2
    exact fin (arrV_eq (Option.some.inj c2) (of_decide_eq_true hk)).symm
  · exact absurd hk (by decide)
theorem agR_of {G : cx_T} {h1 h2 : ah_T} (e1 : h1.1 = sh_L) (e2 : h2.1 = sh_L) (S : sameH G h1 h2) : agR h1 h2 := by
  obtain ⟨t, ⟨-, C1, -, -, -⟩, ⟨-, C2, -, -, -⟩⟩ := S
  intro a k hk
  unfold rcb at hk
  split at hk
  · rename_i c n hs
    rw [Bool.and_eq_true] at hk
    obtain ⟨_, -, -, c1, -⟩ := (show ∃ r : vw_C, _ from C1 a (c + 4) n (by rw [e1]; exact hs))
    obtain ⟨_, -, -, c2, -⟩ := (show ∃ r : vw_C, _ from C2 a (c + 4) n (by rw [e2]; exact hs))
    have e := ob_eq c2 c1 (of_decide_eq_true hk.1)
    have h2' := hk.2
    split at h2'
    · rename_i t ht
      rw [ht] at e
      unfold fv_V at e
      dsimp only at e
      generalize h2.2.2.2 a k = x at *
      generalize h1.2.2.2 a k = y at *
      cases x <;> cases y <;> simp [va_rf] at e ⊢
      exact e
    · exact absurd h2' (by decide)
  · exact absurd hk (by decide)
theorem ic0 {a n k : Nat} (h : sh_L[a]? = some (0, n)) (hk : k < n) : icb a k = true := by
  unfold icb
  rw [h]
  exact decide_eq_true hk
theorem ic2 {a n k : Nat} (h : sh_L[a]? = some (2, n)) (hk : k < n) : icb a k = true := by
  unfold icb
  rw [h]
  exact decide_eq_true hk
theorem lc1 {a n k : Nat} (h : sh_L[a]? = some (1, n)) (hk : k < n) : lcb a k = true := by
  unfold lcb
  rw [h]
  exact decide_eq_true hk
theorem shV {v : Nat} (hv : isV v) : sh_L[v]? = some (14, 17) ∧ sh_L[v + 1]? = some (0, 300) ∧ sh_L[v + 2]? = some (0, 300) ∧ sh_L[v + 3]? = some (0, 301) ∧ sh_L[v + 4]? = some (0, 300) ∧ sh_L[v + 5]? = some (0, 300) ∧ sh_L[v + 6]? = some (2, 300) ∧ sh_L[v + 7]? = some (0, 300) ∧ sh_L[v + 8]? = some (0, 300) ∧ sh_L[v + 9]? = some (1, 301) ∧ sh_L[v + 10]? = some (1, 301) ∧ sh_L[v + 11]? = some (1, 300) ∧ sh_L[v + 12]? = some (1, 300) ∧ sh_L[v + 13]? = some (0, 102) := by
  rcases hv with rfl | rfl | rfl | rfl | rfl | rfl | rfl | rfl <;> decide +kernel
theorem iV {v : Nat} (hv : isV v) : icb v 14 = true ∧ icb v 16 = true := by
  rcases hv with rfl | rfl | rfl | rfl | rfl | rfl | rfl | rfl <;> decide +kernel
theorem sS {c : Nat} (hc : isS c) : (sh_L[c + 2]? = some (0, 8) ∧ sh_L[c + 3]? = some (0, 24) ∧ sh_L[c + 4]? = some (0, 24) ∧ sh_L[c + 5]? = some (0, 24) ∧ sh_L[c + 6]? = some (0, 12)) ∧ (icb c 1 = true ∧ icb c 2 = true ∧ icb c 3 = true ∧ icb c 6 = true ∧ icb c 10 = true ∧ icb c 12 = true) := by
  rcases hc with rfl | rfl <;> decide +kernel
theorem vS {c n : Nat} (hc : isS c) (hn : n < 4) : isV (c + 7 + 14 * n) := by
  unfold isV; unfold isS at hc; omega
theorem rgV {v b : Nat} (hv : isV v) : (rg (v + 3) b).2 = 300 := by
  rcases hv with rfl | rfl | rfl | rfl | rfl | rfl | rfl | rfl <;> rfl
theorem RVo_ag {μ : pm_T} {n v : Nat} {h h' : ah_T} (hv : isV v) (H : RVo μ n v h) (M : MVo μ n) (A : agI h h') (L : agL h h') (q3 : ∀ b, h'.2.1 (v + 3) b ≤ 300) : RVo μ n v h' := by
  obtain ⟨s0, s1, s2, s3, s4, s5, s6, s7, s8, s9, s10, s11, s12, s13⟩ := shV hv
  obtain ⟨i14, i16⟩ := iV hv
  obtain ⟨⟨h1, h1'⟩, ⟨h2, h2'⟩, h3, h4, h5⟩ := H
  have m1 := M.1
  have m2 := M.2.1
  refine ⟨⟨(A _ _ i14).trans h1, (A _ _ i16).trans h1'⟩, ⟨(L _ _ (lc1 s9 (by omega))).trans h2, (L _ _ (lc1 s10 (by omega))).trans h2'⟩, fun e he => ?_, fun b hb => (A _ _ (ic0 s13 (by omega))).trans (h4 b hb), (A _ _ (ic0 s13 (by omega))).trans h5⟩
  obtain ⟨b, q, y1, y2, y3, ⟨z1, z2, z3, z4⟩, ⟨u1, u2⟩, ⟨w1, w2, w3⟩, y7⟩ := h3 e he
  have a1 := (A _ _ (ic0 (k := b + 1) s3 (by omega))).trans u2
  have a2 := q3 (b + 1)
  refine ⟨b, q, y1, (A _ _ (ic0 s7 (by omega))).trans y2, (A _ _ (ic0 s8 (by omega))).trans y3, ⟨(L _ _ (lc1 s9 (by omega))).trans z1, (L _ _ (lc1 s10 (by omega))).trans z2, (L _ _ (lc1 s11 (by omega))).trans z3, (L _ _ (lc1 s12 (by omega))).trans z4⟩, ⟨(A _ _ (ic0 s3 (by omega))).trans u1, a1⟩, ⟨(A _ _ (ic2 s6 (by omega))).trans w1, (A _ _ (ic0 s4 (by omega))).trans w2, (A _ _ (ic0 s5 (by omega))).trans w3⟩, fun p hp => ?_⟩
  obtain ⟨x1, x2⟩ := y7 p hp
  exact ⟨(A _ _ (ic0 s1 (by omega))).trans x1, (A _ _ (ic0 s2 (by omega))).trans x2⟩
theorem CKn_ag {μ : pm_T} {s c : Nat} {h h' : ah_T} (hc : isS c) (H : CKn μ c h) (A : agI h h') (L : agL h h') (hx : xi s h') : CKn μ c h' := by
  obtain ⟨⟨a1, a2, a3, a4, a5, a6⟩, b, l, ru, ro, V⟩ := H
  obtain ⟨⟨s2, s3, s4, s5, s6⟩, i1, i2, i3, i6, i10, i12⟩ := sS hc
  refine ⟨⟨(A _ _ i1).trans a1, (A _ _ i2).trans a2, (A _ _ i3).trans a3, (A _ _ i6).trans a4, (A _ _ i10).trans a5, (A _ _ i12).trans a6⟩, b, fun j hj => (A _ _ (ic0 s2 (by omega))).trans (l j hj), fun j hj => ?_, fun j hj => (A _ _ (ic0 s6 (by omega))).trans (ro j hj), fun n hn => ?_⟩
  · obtain ⟨x1, x2, x3⟩ := ru j hj
    exact ⟨(A _ _ (ic0 s3 (by omega))).trans x1, (A _ _ (ic0 s4 (by omega))).trans x2, (A _ _ (ic0 s5 (by omega))).trans x3⟩
  · have hv : isV (c + 7 + 14 * n) := vS hc (by omega)
    refine ⟨RVo_ag hv (V n hn).1 (V n hn).2 A L (fun b => ?_), (V n hn).2⟩
    have hl : c + 7 + 14 * n + 3 < 170 := by unfold isV at hv; omega
    have := (hx.2.2.2.2.2.2.1 (c + 7 + 14 * n + 3) b hl).2
    rw [rgV hv] at this
    exact this
theorem KSn_ag {μ : pm_T} {h h' : ah_T} (H : KSn μ h) (A : agI h h') (L : agL h h') : KSn μ h' := by
  obtain ⟨⟨a1, a2, a3, a4⟩, ⟨b3, b4, b5, b7⟩, l, ru, ro, vo⟩ := H
  refine ⟨⟨(A _ _ (by decide +kernel)).trans a1, (A _ _ (by decide +kernel)).trans a2, (A _ _ (by decide +kernel)).trans a3, (A _ _ (by decide +kernel)).trans a4⟩, ⟨b3, b4, b5, b7⟩, fun j hj => (A 176 j (ic0 (n := 16) (by decide +kernel) (by omega))).trans (l j hj), fun j hj => ?_, fun j hj => (A 182 j (ic0 (n := 24) (by decide +kernel) (by omega))).trans (ro j hj), fun n hn => ?_⟩
  · obtain ⟨x1, x2, x3⟩ := ru j hj
    exact ⟨(A 178 j (ic0 (n := 48) (by decide +kernel) (by omega))).trans x1, (A 179 j (ic0 (n := 48) (by decide +kernel) (by omega))).trans x2, (A 180 j (ic0 (n := 48) (by decide +kernel) (by omega))).trans x3⟩
  · obtain ⟨⟨h1, h1'⟩, h2, h3, h4, h5, h6⟩ := vo n hn
    refine ⟨⟨(A 185 n (ic0 (n := 8) (by decide +kernel) (by omega))).trans h1, (A 186 n (ic0 (n := 8) (by decide +kernel) (by omega))).trans h1'⟩, h2, fun e he => ?_, fun b hb => ?_, (L 199 _ (lc1 (n := 816) (by decide +kernel) (by omega))).trans h5, (L 200 _ (lc1 (n := 816) (by decide +kernel) (by omega))).trans h6⟩
    · obtain ⟨⟨y1, y2, y3, y4, y5, y6⟩, ⟨z1, z2, z3, z4⟩, b, k⟩ := h3 e he
      refine ⟨⟨(A 191 _ (ic0 (n := 2400) (by decide +kernel) (by omega))).trans y1, (A 195 _ (ic2 (n := 2400) (by decide +kernel) (by omega))).trans y2, (A 196 _ (ic0 (n := 2400) (by decide +kernel) (by omega))).trans y3, (A 197 _ (ic0 (n := 2400) (by decide +kernel) (by omega))).trans y4, (A 198 _ (ic0 (n := 2400) (by decide +kernel) (by omega))).trans y5, (A 194 _ (ic0 (n := 2400) (by decide +kernel) (by omega))).trans y6⟩, ⟨(L 187 _ (lc1 (n := 2400) (by decide +kernel) (by omega))).trans z1, (L 188 _ (lc1 (n := 2400) (by decide +kernel) (by omega))).trans z2, (L 189 _ (lc1 (n := 2400) (by decide +kernel) (by omega))).trans z3, (L 190 _ (lc1 (n := 2400) (by decide +kernel) (by omega))).trans z4⟩, b, fun p hp => ?_⟩
      obtain ⟨x1, x2⟩ := k p hp
      exact ⟨(A 192 _ (ic0 (n := 9600) (by decide +kernel) (by omega))).trans x1, (A 193 _ (ic0 (n := 9600) (by decide +kernel) (by omega))).trans x2⟩
    · obtain ⟨x1, x2⟩ := h4 b hb
      exact ⟨(L 199 _ (lc1 (n := 816) (by decide +kernel) (by omega))).trans x1, (L 200 _ (lc1 (n := 816) (by decide +kernel) (by omega))).trans x2⟩
theorem hb_xm {s : Nat} {h : ah_T} (hx : xi s h) (hm : mi h) : hb s h := ⟨hx.1, hx.2.1, hx.2.2.1, hx.2.2.2.1, hx.2.2.2.2.1, hx.2.2.2.2.2.1, hm.2.1⟩
theorem s_eq {s s' : Nat} {h h' : ah_T} (hx : xi s h) (hb1 : hb s' h') (R : agR h' h) : s = s' := by
  have h1 := R 0 3 (by decide +kernel)
  rw [hx.2.2.1, hb1.2.2.1] at h1
  have a := hx.2.1
  have b := hb1.2.1
  unfold isS at a b
  have := Option.some.inj h1
  omega

/-! ===== the TIME of a score is good ===== -/
def TMg (μ : pm_T) : Prop := (1 ≤ μ 0 1 ∧ μ 0 1 ≤ 32) ∧ (1 ≤ μ 0 2 ∧ μ 0 2 ≤ 32) ∧ pwb (μ 0 2) = true
theorem TMg_k {μ μ' : pm_T} (h : TMg μ) (e1 : μ' 0 1 = μ 0 1) (e2 : μ' 0 2 = μ 0 2) : TMg μ' := by
  unfold TMg
  rw [e1, e2]
  exact h
theorem tg_bn {β γ : Type} {x : F_T ⊕ β} {f : β → F_T ⊕ γ} {y : γ} (h : bnd x f = .inr y) : ∃ b, x = .inr b ∧ f b = .inr y := by
  cases x with
  | inl q => exact absurd h (by simp [bnd])
  | inr b => exact ⟨b, rfl, h⟩
theorem tg_num {t : tk_T} {i : Nat} {m a : Int} {p : Bool} (h : sp_num t i m p = .inr a) : (1 ≤ a ∧ a ≤ m) ∧ (p = false ∨ pwb a = true) := by
  unfold sp_num at h
  split at h
  · split at h
    · rename_i c
      obtain rfl := Sum.inr.inj h
      exact c
    · exact absurd h (by simp)
  · exact absurd h (by simp)
theorem tg_time {t : tk_T} {i : Nat} {μ : pm_T} {q : Nat × pm_T} (h : sp_time t i μ = .inr q) : TMg q.2 := by
  unfold sp_time at h
  split at h
  · obtain ⟨a, ea, h⟩ := tg_bn h
    obtain ⟨_, -, h⟩ := tg_bn h
    obtain ⟨b, eb, h⟩ := tg_bn h
    obtain ⟨_, -, h⟩ := tg_bn h
    obtain rfl := Sum.inr.inj h
    obtain ⟨a1, -⟩ := tg_num ea
    obtain ⟨b1, b2⟩ := tg_num eb
    have e1 : (up2 (up2 (up2 μ 0 0 1) 0 1 a) 0 2 b) 0 1 = a := by simp [up2]
    have e2 : (up2 (up2 (up2 μ 0 0 1) 0 1 a) 0 2 b) 0 2 = b := by simp [up2]
    show TMg (up2 (up2 (up2 μ 0 0 1) 0 1 a) 0 2 b)
    unfold TMg
    rw [e1, e2]
    exact ⟨a1, b1, b2.elim (fun c => absurd c (by decide)) id⟩
  · exact absurd h (by simp)
theorem tg_pits {t : tk_T} : ∀ (f i : Nat) (μ : pm_T) (q : Nat × pm_T), sp_pits t f i μ = .inr q → TMg μ → TMg q.2
  | 0, _, _, _, h, _ => absurd h (by simp [sp_pits])
  | f + 1, i, μ, q, h, T => by
    have T' : TMg (pit t i μ) := TMg_k T (by simp [pit, up2]) (by simp [pit, up2])
    rw [sp_pits] at h
    split at h
    · split at h
      · exact absurd h (by simp)
      · split at h
        · obtain rfl := Sum.inr.inj h
          exact T'
        · exact tg_pits f _ _ _ h T'
    · exact absurd h (by simp)
theorem tg_name {t : tk_T} {i : Nat} {μ : pm_T} {q : Int × pm_T} (h : sp_name t i μ = .inr q) (T : TMg μ) : TMg q.2 := by
  unfold sp_name at h
  split at h
  · split at h
    · obtain rfl := Sum.inr.inj h
      exact T
    · split at h
      · exact absurd h (by simp)
      · obtain rfl := Sum.inr.inj h
        exact TMg_k T (by simp [up2]) (by simp [up2])
  · exact absurd h (by simp)
theorem tg_rows {t : tk_T} : ∀ (f i : Nat) (μ : pm_T) (q : Nat × pm_T), sp_rows t f i μ = .inr q → TMg μ → TMg q.2
  | 0, _, _, _, h, _ => absurd h (by simp [sp_rows])
  | f + 1, i, μ, q, h, T => by
    rw [sp_rows] at h
    split at h
    · split at h
      · obtain ⟨a, ea, h⟩ := tg_bn h
        have T' : TMg (rowa a.2 a.1) := TMg_k (tg_name ea T) (by simp [rowa, up2]) (by simp [rowa, up2])
        split at h
        · obtain rfl := Sum.inr.inj h
          exact T'
        · exact tg_rows f _ _ _ h T'
      · exact absurd h (by simp)
    · exact absurd h (by simp)
theorem tg_addr {μ : pm_T} {a b c : Int} (T : TMg μ) : TMg (addr μ a b c) := TMg_k T (by simp [addr, up2]) (by simp [addr, up2])
theorem tg_rule {t : tk_T} {i : Nat} {μ : pm_T} {q : Nat × pm_T} (h : sp_rule t i μ = .inr q) (T : TMg μ) : TMg q.2 := by
  unfold sp_rule at h
  split at h
  · obtain ⟨a, ea, h⟩ := tg_bn h
    obtain ⟨_, -, h⟩ := tg_bn h
    obtain ⟨b, eb, h⟩ := tg_bn h
    have Tb := tg_name eb (tg_name ea T)
    split at h
    · obtain ⟨c, ec, h⟩ := tg_bn h
      obtain ⟨_, -, h⟩ := tg_bn h
      obtain rfl := Sum.inr.inj h
      exact tg_addr (tg_name ec Tb)
    · obtain ⟨_, -, h⟩ := tg_bn h
      obtain rfl := Sum.inr.inj h
      exact tg_addr Tb
  · exact absurd h (by simp)
theorem tg_addV {μ π α : pm_T} (T : TMg μ) : TMg (addV μ π α) := by
  refine TMg_k T ?_ ?_ <;> · unfold addV; rw [if_neg (by omega), if_neg (by omega), if_neg (by omega), if_neg (by omega)]
theorem tg_voice {t : tk_T} {i : Nat} {μ : pm_T} {q : Nat × pm_T} (h : sp_voice t i μ = .inr q) (T : TMg μ) : TMg q.2 := by
  unfold sp_voice at h
  split at h
  · obtain ⟨a, ea, h⟩ := tg_bn h
    split at h
    · exact absurd h (by simp)
    · split at h
      · obtain rfl := Sum.inr.inj h
        exact tg_addV T
      · exact absurd h (by simp)
  · exact absurd h (by simp)
theorem tg_items {t : tk_T} : ∀ (f i : Nat) (μ ν : pm_T), sp_items t f i μ = .inr ν → TMg μ → TMg ν
  | 0, _, _, _, h, _ => absurd h (by simp [sp_items])
  | f + 1, i, μ, ν, h, T => by
    rw [sp_items] at h
    split at h
    · obtain rfl := Sum.inr.inj h
      exact T
    · obtain ⟨q, eq, h⟩ := tg_bn h
      refine tg_items f _ _ _ h ?_
      split at eq
      · exact tg_time eq
      · split at eq
        · exact tg_voice eq T
        · split at eq
          · unfold sp_line at eq
            split at eq
            · exact tg_pits _ _ _ _ eq T
            · exact absurd eq (by simp)
          · split at eq
            · exact tg_rule eq T
            · split at eq
              · unfold sp_row at eq
                split at eq
                · exact tg_rows _ _ _ _ eq T
                · exact absurd eq (by simp)
              · exact absurd eq (by simp)
theorem tg_score {t : tk_T} {ν : pm_T} (h : sp_score t = .inr ν) : TMg ν := tg_items _ _ _ _ h (by unfold TMg sco0; refine ⟨⟨?_, ?_⟩, ⟨?_, ?_⟩, ?_⟩ <;> simp [up2, pwb])

/-! ===== what the law carries: both tell one tape, one place, one score ===== -/
def tmo (x : Int) : Int := if x = 0 then 4 else x
def TCt (T : Nat → Int) (n : Nat) (h : ah_T) : Prop := h.2.1 0 1 = (n : Int) ∧ ∀ j, j < n → h.2.1 1 j = T j ∧ 0 ≤ T j ∧ T j ≤ 255
def TRt (T : Nat → Int) (n : Nat) (h : ah_T) : Prop := h.2.1 170 1 = (n : Int) ∧ ∀ j, j < n → h.2.1 171 j = T j
def TPq (h : ah_T) : Prop := ∃ (T : Nat → Int) (n : Nat), n ≤ 2000 ∧ TCt T n h ∧ TRt T n h
/-- a memory that a text gave, or the one of the start -/
def OKm (μ : pm_T) : Prop := (∃ X : tx_T, XA X ∧ sp_score X.2.2.1 = .inr μ) ∨ μ = sco0
def SRq (μ : pm_T) (h : ah_T) : Prop := KSn μ h ∧ tmo (h.2.1 173 0) = μ 0 1 ∧ tmo (h.2.1 174 0) = μ 0 2 ∧ OKm μ ∧ (0 < μ 0 7 → h.2.1 173 0 = μ 0 1 ∧ h.2.1 174 0 = μ 0 2)
theorem OKm_t {μ : pm_T} (H : OKm μ) : TMg μ := by
  rcases H with ⟨X, -, e⟩ | rfl
  · exact tg_score e
  · unfold TMg sco0
    refine ⟨⟨?_, ?_⟩, ⟨?_, ?_⟩, ?_⟩ <;> simp [up2, pwb]
def SCq (s : Nat) (h : ah_T) : Prop := ∃ μ : pm_T, CKn μ (97 - s) h ∧ SRq μ h
def EX (s : Nat) (h : ah_T) : Prop := TPq h ∧ h.2.1 0 4 = h.2.1 170 13 ∧ SCq s h
theorem sm_fr {W : Nat → Prop} {h h' : ah_T} (f : ∀ a, ¬ W a → same3 h h' a) (h3 : ¬ W 3) : fr (fun a _ => W a) h h' :=
  ⟨fun a k q => ⟨congrFun (f a q).1 k, congrFun (f a q).2.1 k⟩, fun e => by rw [(f 3 h3).2.2]; exact e⟩
theorem sh_sym {G : cx_T} {h h' : ah_T} (S : sameH G h h') : sameH G h' h := by
  obtain ⟨t, a, b⟩ := S
  exact ⟨t, b, a⟩
theorem CK_s {s : Nat} {μ : pm_T} {h h' : ah_T} (hs : isS s) (H : CKn μ (97 - s) h) (f : ∀ a, 17 ≤ a → a < 143 → same3 h h' a) : CKn μ (97 - s) h' := by
  have H' : CKn μ (97 - s) (h.1, h.2.1, h.2.2.1, fun _ _ => none) := H
  have f' : fr (fun a _ => ¬ (17 ≤ a ∧ a < 143)) (h.1, h.2.1, h.2.2.1, fun _ _ => none) h' := ⟨fun a k q => by
    have q2 : 17 ≤ a ∧ a < 143 := Decidable.of_not_not q
    exact ⟨congrFun (f a q2.1 q2.2).1 k, congrFun (f a q2.1 q2.2).2.1 k⟩, fun e => by cases e⟩
  refine CKn_f H' f' (fun a k q => ?_)
  unfold isS at hs
  omega
theorem KS_s2 {μ : pm_T} {h h' : ah_T} (H : SRq μ h) (f : ∀ a k, 172 ≤ a → a ≤ 200 → h'.2.1 a k = h.2.1 a k ∧ h'.2.2.1 a k = h.2.2.1 a k) : SRq μ h' := by
  obtain ⟨K, t1, t2, T, t3⟩ := H
  refine ⟨KSn_g K (fun a k q => f a k ?_ ?_), ?_, ?_, T, ?_⟩
  · rcases q with ⟨p1, p2⟩ | ⟨p1, p2⟩ | ⟨p1, p2⟩ | ⟨p1, p2⟩ | ⟨p1, p2⟩ | ⟨p1, p2⟩ | ⟨p1, p2⟩ | ⟨p1, p2⟩ <;> omega
  · rcases q with ⟨p1, p2⟩ | ⟨p1, p2⟩ | ⟨p1, p2⟩ | ⟨p1, p2⟩ | ⟨p1, p2⟩ | ⟨p1, p2⟩ | ⟨p1, p2⟩ | ⟨p1, p2⟩ <;> omega
  · rw [(f 173 0 (by decide) (by decide)).1]; exact t1
  · rw [(f 174 0 (by decide) (by decide)).1]; exact t2
  · rw [(f 173 0 (by decide) (by decide)).1, (f 174 0 (by decide) (by decide)).1]; exact t3
theorem TC_e {T : Nat → Int} {n : Nat} {h h' : ah_T} (H : TCt T n h) (f0 : h'.2.1 0 1 = h.2.1 0 1) (f1 : h'.2.1 1 = h.2.1 1) : TCt T n h' := by
  unfold TCt
  rw [f0, f1]
  exact H
theorem TR_e {T : Nat → Int} {n : Nat} {h h' : ah_T} (H : TRt T n h) (f0 : h'.2.1 170 1 = h.2.1 170 1) (f1 : h'.2.1 171 = h.2.1 171) : TRt T n h' := by
  unfold TRt
  rw [f0, f1]
  exact H
/-- the class's other calls -/
theorem EX_c {s : Nat} {h h' : ah_T} (E : EX s h) (k : kF FC s h h') : EX s h' := by
  obtain ⟨⟨T, n, hn, c, r⟩, p, μ, C, R⟩ := E
  obtain ⟨hx, f⟩ := k
  have g : ∀ a, a < 143 ∨ 170 ≤ a → same3 h h' a := fun a q => f a q
  refine ⟨⟨T, n, hn, TC_e c (congrFun (g 0 (by decide)).1 1) (g 1 (by decide)).1, TR_e r (congrFun (g 170 (by decide)).1 1) (g 171 (by decide)).1⟩, ?_, μ, CK_s hx.2.1 C (fun a q1 q2 => g a (Or.inl q2)), KS_s2 R (fun a k q1 q2 => ⟨congrFun (g a (by omega)).1 k, congrFun (g a (by omega)).2.1 k⟩)⟩
  rw [(g 0 (by decide)).1, (g 170 (by decide)).1]
  exact p
/-- the reference's other calls -/
theorem EX_m {s : Nat} {F A : List Nat} {h h' : ah_T} (E : EX s h) (hs : isS s) (kn : kM (pm F A) h h') (hA : A.all (fun x => decide (200 < x)) = true) (hF : F.contains 1 = false) (hF2 : F.contains 13 = false) : EX s h' := by
  obtain ⟨⟨T, n, hn, c, r⟩, p, μ, C, R⟩ := E
  obtain ⟨-, f, k1, k2⟩ := kn
  have hP : ∀ a k, 171 ≤ a → a ≤ 200 → pm F A a k = false := by
    intro a k q1 q2
    have n1 : (a == 170) = false := by simp; omega
    have n2 : A.contains a = false := by
      cases c : A.contains a with
      | false => rfl
      | true =>
        have := of_decide_eq_true (List.all_eq_true.mp hA a (by simpa using c))
        omega
    unfold pm
    rw [n1, n2]
    rfl
  have nA : A.contains 170 = false := by
    cases c : A.contains 170 with
    | false => rfl
    | true =>
      have := of_decide_eq_true (List.all_eq_true.mp hA 170 (by simpa using c))
      omega
  have h1 : pm F A 170 1 = false := by
    unfold pm
    rw [hF, nA]
    rfl
  have h13 : pm F A 170 13 = false := by
    unfold pm
    rw [hF2, nA]
    rfl
  refine ⟨⟨T, n, hn, TC_e c (congrFun (f 0 (by decide)).1 1) (f 1 (by decide)).1, TR_e r (k1 170 1 h1) (funext fun j => k1 171 j (hP 171 j (by decide) (by decide)))⟩, ?_, μ, CK_s hs C (fun a q1 q2 => f a (by omega)), KS_s2 R (fun a k q1 q2 => ⟨k1 a k (hP a k (by omega) q2), k2 a k (hP a k (by omega) q2)⟩)⟩
  rw [(f 0 (by decide)).1, k1 170 13 h13]
  exact p
/-- between the two feeds -/
def FDq (s : Nat) (a b c d e : Int) (h : ah_T) : Prop := (∃ (T : Nat → Int) (n : Nat), n ≤ 2000 ∧ TRt T n h ∧ ((n + 20 ≤ 2000 ∧ TCt T (n + 20) h ∧ ∀ j, j < 20 → T (n + j) = fdb a b c d e j) ∨ (¬ n + 20 ≤ 2000 ∧ TCt T n h))) ∧ h.2.1 0 4 = h.2.1 170 13 ∧ SCq s h
theorem TC_ag {T : Nat → Int} {n : Nat} {h h' : ah_T} (hn : n ≤ 2000) (H : TCt T n h) (A : agI h h') : TCt T n h' :=
  ⟨(A 0 1 (by decide +kernel)).trans H.1, fun j hj => ⟨(A 1 j (ic0 (n := 2000) (by decide +kernel) (by omega))).trans (H.2 j hj).1, (H.2 j hj).2⟩⟩
theorem TR_ag {T : Nat → Int} {n : Nat} {h h' : ah_T} (hn : n ≤ 2000) (H : TRt T n h) (A : agI h h') : TRt T n h' :=
  ⟨(A 170 1 (by decide +kernel)).trans H.1, fun j hj => (A 171 j (ic0 (n := 2000) (by decide +kernel) (by omega))).trans (H.2 j hj)⟩
theorem e_PM_feed {G : cx_T} {s : Nat} {h : ah_T} {a b c d e : Int} (hx : xi s h) (hm : mi h) (E : EX s h) : con G 1 0 0 m_PM_feed [av_R (some 0), av_I a, av_I b, av_I c, av_I d, av_I e] h (fun r h' => ∃ z, r = some (av_I z) ∧ ((-3) ≤ z ∧ z ≤ 2000) ∧ ((h.2.1 0 1 ≤ 1980 → z = h.2.1 0 1 + 20 ∧ h'.2.1 0 1 = h.2.1 0 1 + 20) ∧ (1980 < h.2.1 0 1 → z = -3 ∧ h'.2.1 0 1 = h.2.1 0 1)) ∧ kF FA s h h' ∧ FDq s a b c d e h') := by
  obtain ⟨⟨T, n, hn, tc, tr⟩, p, μ, C, R⟩ := E
  have hb0 := hb_xm hx hm
  refine con_mono (con_conj (h2 := h) (s_PM_feed hx) (t_PM_feed hb0 tc.1 hn)) ?_
  rintro r h' ⟨⟨z, q1, q2, q3, kf⟩, r2, h2, ⟨hb2, q⟩, -, S⟩
  refine ⟨z, q1, q2, q3, kf, ?_, ?_, μ, CK_s hx.2.1 C (fun a q1 q2 => kf.2 a (Or.inl ⟨q1, q2⟩)), KS_s2 R (fun a k q1 q2 => ⟨congrFun (kf.2 a (Or.inr (by omega))).1 k, congrFun (kf.2 a (Or.inr (by omega))).2.1 k⟩)⟩
  all_goals have A : agI h2 h' := agI_of hb2.1 kf.1.1 (sh_sym S)
  · have tr' : TRt T n h' := TR_e tr (congrFun (kf.2 170 (Or.inr (by decide))).1 1) (kf.2 171 (Or.inr (by decide))).1
    rcases q with ⟨w1, -, w3, w4, w5⟩ | ⟨w1, -, rfl⟩
    · refine ⟨fun j => if j < n then T j else fdb a b c d e (j - n), n, hn, ⟨tr'.1, fun j hj => ?_⟩, Or.inl ⟨w1, TC_ag w1 ⟨by rw [w4]; omega, fun j hj => ?_⟩ A, fun j hj => ?_⟩⟩
      · dsimp only
        rw [if_pos hj]
        exact tr'.2 j hj
      · dsimp only
        by_cases c : j < n
        · rw [if_pos c, fr_g w3 (by omega)]
          exact tc.2 j c
        · have := w5 (j - n) (by omega)
          rw [show n + (j - n) = j by omega] at this
          rw [if_neg c]
          exact ⟨this, fdb_b _ _ _ _ _ _⟩
      · dsimp only
        rw [if_neg (by omega), show n + j - n = j by omega]
    · exact ⟨T, n, hn, tr', Or.inr ⟨w1, TC_ag hn tc A⟩⟩
  · rw [A 0 4 (by decide +kernel), (kf.2 170 (Or.inr (by decide))).1, ← p]
    rcases q with ⟨w1, -, w3, w4, w5⟩ | ⟨w1, -, rfl⟩
    · exact fr_g w3 (by omega)
    · rfl

/-! ===== feed, cut and score of both, one after the other ===== -/
theorem e_MD_feed {G : cx_T} {s : Nat} {h : ah_T} {a b c d e : Int} (hx : xi s h) (hm : mi h) (E : FDq s a b c d e h) : con G 1 0 0 m_MD_feed [av_R (some 170), av_I a, av_I b, av_I c, av_I d, av_I e] h (fun r h' => ∃ z, r = some (av_I z) ∧ ((-3) ≤ z ∧ z ≤ 2000) ∧ ((h.2.1 170 1 ≤ 1980 → z = h.2.1 170 1 + 20 ∧ h'.2.1 170 1 = h.2.1 170 1 + 20) ∧ (1980 < h.2.1 170 1 → z = -3 ∧ h'.2.1 170 1 = h.2.1 170 1)) ∧ kM (pm [1] [171]) h h' ∧ EX s h') := by
  obtain ⟨⟨T, n, hn, tr, tc⟩, p, μ, C, R⟩ := E
  have hb0 := hb_xm hx hm
  refine con_mono (con_conj (h2 := h) (s_MD_feed hm) (t_MD_feed hb0 tr.1 hn)) ?_
  rintro r h' ⟨⟨z, q1, q2, q3, kn⟩, r2, h2, ⟨hb2, q⟩, -, S⟩
  have A : agI h2 h' := agI_of hb2.1 kn.1.1 (sh_sym S)
  have kn' := kn
  obtain ⟨-, f, k1, k2⟩ := kn'
  have hP : ∀ a k, 172 ≤ a → pm [1] [171] a k = false := by
    intro a k q1
    have n1 : (a == 170) = false := by simp; omega
    have n2 : [171].contains a = false := by simp; omega
    unfold pm
    rw [n1, n2]
    rfl
  refine ⟨z, q1, q2, q3, kn, ?_, ?_, μ, CK_s hx.2.1 C (fun a q1 q2 => f a (by omega)), KS_s2 R (fun a k q1 q2 => ⟨k1 a k (hP a k q1), k2 a k (hP a k q1)⟩)⟩
  · have tc' : ∀ {m : Nat}, TCt T m h → TCt T m h' := fun H => TC_e H (congrFun (f 0 (by decide)).1 1) (f 1 (by decide)).1
    rcases q with ⟨w1, -, w3, w4, w5⟩ | ⟨w1, -, rfl⟩
    · rcases tc with ⟨v1, v2, v3⟩ | ⟨v1, v2⟩
      · refine ⟨T, n + 20, v1, tc' v2, TR_ag v1 ⟨by rw [w4]; omega, fun j hj => ?_⟩ A⟩
        by_cases c : j < n
        · rw [fr_g w3 (by omega)]
          exact tr.2 j c
        · have e1 := w5 (j - n) (by omega)
          have e2 := v3 (j - n) (by omega)
          rw [show n + (j - n) = j by omega] at e1 e2
          rw [e1, e2]
      · exact absurd w1 v1
    · rcases tc with ⟨v1, v2, v3⟩ | ⟨v1, v2⟩
      · exact absurd v1 w1
      · exact ⟨T, n, hn, tc' v2, TR_ag hn tr A⟩
  · rw [(f 0 (by decide)).1, k1 170 13 rfl]
    exact p
/-- between the two cuts -/
def CTq (s : Nat) (a : Int) (h : ah_T) : Prop := (∃ (T : Nat → Int) (n m : Nat), n ≤ 2000 ∧ m ≤ n ∧ TRt T n h ∧ TCt T m h ∧ ((0 ≤ a ∧ a ≤ n ∧ (m : Int) = n - a) ∨ (¬ (0 ≤ a ∧ a ≤ n) ∧ m = n))) ∧ h.2.1 0 4 = h.2.1 170 13 ∧ SCq s h
theorem e_PM_cut {G : cx_T} {s : Nat} {h : ah_T} {a : Int} (hx : xi s h) (hm : mi h) (E : EX s h) : con G 0 0 0 m_PM_cut [av_R (some 0), av_I a] h (fun r h' => ∃ z, r = some (av_I z) ∧ ((-1) ≤ z ∧ z ≤ 2000) ∧ ((a < 0 ∨ h.2.1 0 1 < a → z = -1 ∧ h'.2.1 0 1 = h.2.1 0 1) ∧ (0 ≤ a → a ≤ h.2.1 0 1 → z = h.2.1 0 1 - a ∧ h'.2.1 0 1 = h.2.1 0 1 - a)) ∧ kF FA s h h' ∧ CTq s a h') := by
  obtain ⟨⟨T, n, hn, tc, tr⟩, p, μ, C, R⟩ := E
  have hb0 := hb_xm hx hm
  refine con_mono (con_conj (h2 := h) (s_PM_cut hx) (t_PM_cut hb0 tc.1 hn)) ?_
  rintro r h' ⟨⟨z, q1, q2, q3, kf⟩, r2, h2, ⟨hb2, q⟩, -, S⟩
  have A : agI h2 h' := agI_of hb2.1 kf.1.1 (sh_sym S)
  refine ⟨z, q1, q2, q3, kf, ?_, ?_, μ, CK_s hx.2.1 C (fun a q1 q2 => kf.2 a (Or.inl ⟨q1, q2⟩)), KS_s2 R (fun a k q1 q2 => ⟨congrFun (kf.2 a (Or.inr (by omega))).1 k, congrFun (kf.2 a (Or.inr (by omega))).2.1 k⟩)⟩
  · have tr' : TRt T n h' := TR_e tr (congrFun (kf.2 170 (Or.inr (by decide))).1 1) (kf.2 171 (Or.inr (by decide))).1
    rcases q with ⟨w1, w2, -, w3, w4⟩ | ⟨w1, -, rfl⟩
    · refine ⟨T, n, (n - a).toNat, hn, by omega, tr', TC_ag (by omega) ⟨by rw [w4]; omega, fun j hj => ?_⟩ A, Or.inl ⟨w1, w2, by omega⟩⟩
      rw [fr_g w3 (by omega)]
      exact tc.2 j (by omega)
    · exact ⟨T, n, n, hn, Nat.le_refl _, tr', TC_ag hn tc A, Or.inr ⟨w1, rfl⟩⟩
  · rw [A 0 4 (by decide +kernel), (kf.2 170 (Or.inr (by decide))).1, ← p]
    rcases q with ⟨w1, w2, -, w3, w4⟩ | ⟨w1, -, rfl⟩
    · exact fr_g w3 (by omega)
    · rfl
theorem e_MD_cut {G : cx_T} {s : Nat} {h : ah_T} {a : Int} (hx : xi s h) (hm : mi h) (E : CTq s a h) : con G 0 0 0 m_MD_cut [av_R (some 170), av_I a] h (fun r h' => ∃ z, r = some (av_I z) ∧ ((-1) ≤ z ∧ z ≤ 2000) ∧ ((a < 0 ∨ h.2.1 170 1 < a → z = -1 ∧ h'.2.1 170 1 = h.2.1 170 1) ∧ (0 ≤ a → a ≤ h.2.1 170 1 → z = h.2.1 170 1 - a ∧ h'.2.1 170 1 = h.2.1 170 1 - a)) ∧ kM (pm [1] []) h h' ∧ EX s h') := by
  obtain ⟨⟨T, n, m, hn, hmn, tr, tc, ca⟩, p, μ, C, R⟩ := E
  have hb0 := hb_xm hx hm
  refine con_mono (con_conj (h2 := h) (s_MD_cut hm) (t_MD_cut hb0 tr.1 hn)) ?_
  rintro r h' ⟨⟨z, q1, q2, q3, kn⟩, r2, h2, ⟨hb2, q⟩, -, S⟩
  have A : agI h2 h' := agI_of hb2.1 kn.1.1 (sh_sym S)
  have kn' := kn
  obtain ⟨-, f, k1, k2⟩ := kn'
  have hP : ∀ a k, 171 ≤ a → pm [1] [] a k = false := by
    intro a k q1
    have n1 : (a == 170) = false := by simp; omega
    unfold pm
    rw [n1]
    rfl
  refine ⟨z, q1, q2, q3, kn, ?_, ?_, μ, CK_s hx.2.1 C (fun a q1 q2 => f a (by omega)), KS_s2 R (fun a k q1 q2 => ⟨k1 a k (hP a k (by omega)), k2 a k (hP a k (by omega))⟩)⟩
  · have tc' : TCt T m h' := TC_e tc (congrFun (f 0 (by decide)).1 1) (f 1 (by decide)).1
    refine ⟨T, m, by omega, tc', TR_ag (by omega) ⟨?_, fun j hj => ?_⟩ A⟩
    · rcases q with ⟨w1, w2, -, w3, w4⟩ | ⟨w1, -, rfl⟩
      · rw [w4]; omega
      · rw [tr.1]; omega
    · rcases q with ⟨w1, w2, -, w3, w4⟩ | ⟨w1, -, rfl⟩
      · rw [fr_g w3 (by omega)]
        exact tr.2 j (by omega)
      · exact tr.2 j (by omega)
  · rw [(f 0 (by decide)).1, k1 170 13 rfl]
    exact p
/-- between the two scores -/
def SRr (s : Nat) (R : F_T ⊕ pm_T) (z : Int) (h : ah_T) : Prop := match R with
  | .inl q => Int32.ofInt z = Int32.ofInt (-10 - q.1) ∧ h.2.1 0 4 = q.2 ∧ SCq s h
  | .inr μ => Int32.ofInt z = Int32.ofInt (evs μ (μ 0 7).toNat) ∧ h.2.1 0 4 = -2 ∧ CKn μ (97 - s) h
def SDq (s : Nat) (z : Int) (h : ah_T) : Prop := h.2.1 0 1 = 0 ∧ ∃ (T : Nat → Int) (n : Nat), n ≤ 2000 ∧ TRt T n h ∧ (∀ j, j < n → 0 ≤ T j ∧ T j ≤ 255) ∧ ∃ (t : tk_T) (m : Nat) (a b : Nat → Nat), TkA T n t m a b ∧ SRr s (sp_score t) z h
theorem cv_I {G : cx_T} {z w : Int} {r : Option av_T} (e : r.map (cv G) = (some (av_I z)).map (cv G)) (hr : r = some (av_I w)) : Int32.ofInt z = Int32.ofInt w := by
  subst hr
  have e1 : some (Value.int (Int32.ofInt w)) = some (Value.int (Int32.ofInt z)) := e
  injection e1 with e2
  injection e2 with e3
  exact e3.symm
theorem e_PM_score {G : cx_T} {s : Nat} {h : ah_T} (hx : xi s h) (hm : mi h) (E : EX s h) : con G 24 0 0 m_PM_score [av_R (some 0)] h (fun r h' => ∃ z, r = some (av_I z) ∧ ((-2147483648) ≤ z ∧ z ≤ 2147483647) ∧ ∃ s', xi s' h' ∧ h'.2.1 0 1 = 0 ∧ (∀ a, 170 ≤ a → same3 h h' a) ∧ SDq s' z h') := by
  obtain ⟨⟨T, n, hn, tc, tr⟩, p, μ, C, R⟩ := E
  have hb0 := hb_xm hx hm
  refine con_mono (con_conj (h2 := h) (s_PM_score hx) (t_PM_score hb0 tc.1 hn tc.2)) ?_
  rintro r h' ⟨⟨z, q1, q2, s', hx', q3, f⟩, r2, h2, ⟨z2, s2, q4, hb2, -, q5, t, m, a, b, TK, PS⟩, er, S⟩
  have A : agI h2 h' := agI_of hb2.1 hx'.1 (sh_sym S)
  have L : agL h2 h' := agL_of hb2.1 hx'.1 (sh_sym S)
  obtain rfl : s' = s2 := s_eq hx' hb2 (agR_of hb2.1 hx'.1 (sh_sym S))
  subst q1
  have ez := cv_I er q4
  refine ⟨z, rfl, q2, s', hx', q3, f, q3, T, n, hn, TR_e tr (congrFun (f 170 (by decide)).1 1) (f 171 (by decide)).1, fun j hj => (tc.2 j hj).2, t, m, a, b, TK, ?_⟩
  have R' : SRq μ h' := KS_s2 R (fun a k q1 q2 => ⟨congrFun (f a (by omega)).1 k, congrFun (f a (by omega)).2.1 k⟩)
  revert PS
  generalize sp_score t = Y
  intro PS
  have h04 : h'.2.1 0 4 = h2.2.1 0 4 := A 0 4 (by decide +kernel)
  have hs := hx.2.1
  cases Y with
  | inl q =>
    obtain ⟨rfl, rfl, -, e4, fw⟩ := PS
    refine ⟨ez, h04.trans e4, μ, ?_, R'⟩
    refine CKn_ag (by unfold isS at *; omega) (CKn_f C fw (fun a k w => ?_)) A L hx'
    unfold isS at hs
    rcases w with (w | w) | w <;> omega
  | inr ν =>
    obtain ⟨e1, rfl, e4, K, -⟩ := PS
    refine ⟨ez, h04.trans e4, ?_⟩
    have : 97 - s' = s := by unfold isS at hs; omega
    rw [this]
    exact CKn_ag hs K A L hx'
theorem e_MD_score {G : cx_T} {s : Nat} {z : Int} {h : ah_T} (hx : xi s h) (hm : mi h) (hp : PX h) (hz : (-2147483648) ≤ z ∧ z ≤ 2147483647) (E : SDq s z h) : con G 8 0 0 m_MD_score [av_R (some 170)] h (fun r h' => ∃ w, r = some (av_I w) ∧ ((-2147483648) ≤ w ∧ w ≤ 2147483647) ∧ (h'.2.1 170 1 = 0 ∧ PX h') ∧ kM (pm [1, 2, 3, 4, 5, 6, 7, 8, 9, 10, 11, 12, 13, 43, 59, 60, 61, 63, 64, 65, 66, 70, 71, 72, 73, 74, 75, 76, 77, 78, 80, 85, 89, 91, 98, 104, 105] [172, 173, 174, 175, 176, 177, 178, 179, 180, 181, 182, 183, 184, 185, 186, 187, 188, 189, 190, 191, 192, 193, 194, 195, 196, 197, 198, 199, 200, 201, 202, 203, 204, 205, 206, 207, 208, 209, 210, 211, 212, 213, 214, 215, 216, 217, 218, 219, 220]) h h' ∧ z = w ∧ EX s h') := by
  obtain ⟨q0, T, n, hn, tr, hT, t, m, a, b, TK, SR⟩ := E
  have hb0 := hb_xm hx hm
  refine con_mono (con_conj (h2 := h) (s_MD_score hm hp) (t_MD_score (X := (T, n, t, m, a, b)) hb0 TK tr.1 hn (fun j hj => ⟨tr.2 j hj, hT j hj⟩))) ?_
  rintro r h' ⟨⟨w, q1, q2, q3, kn⟩, r2, h2, ⟨z2, q4, hb2, -, q5, PS⟩, er, S⟩
  have A : agI h2 h' := agI_of hb2.1 kn.1.1 (sh_sym S)
  have L : agL h2 h' := agL_of hb2.1 kn.1.1 (sh_sym S)
  have f := kn.2.1
  subst q1
  have ez := cv_I er q4
  have tq : TPq h' := ⟨fun _ => 0, 0, by decide, ⟨by rw [(f 0 (by decide)).1]; exact q0, fun j hj => by omega⟩, ⟨q3.1, fun j hj => by omega⟩⟩
  have h13 : h'.2.1 170 13 = h2.2.1 170 13 := A 170 13 (by decide +kernel)
  have h04 : h'.2.1 0 4 = h.2.1 0 4 := by rw [(f 0 (by decide)).1]
  have fin : ∀ v, Int32.ofInt z = Int32.ofInt v → v = z2 → z = w := by
    rintro v e rfl
    rw [← ez] at e
    exact (i32_eq (by unfold i32; omega) (by unfold i32; omega)).mp e
  replace PS : PSm (sp_score t) z2 h h2 := PS
  have TMs : ∀ ν, sp_score t = .inr ν → OKm ν := fun ν e => Or.inl ⟨(T, n, t, m, a, b), TK, e⟩
  revert SR PS TMs
  generalize sp_score t = Y
  intro SR PS TMs
  cases Y with
  | inl q =>
    obtain ⟨e1, e2, μ, C, R⟩ := SR
    obtain ⟨p1, p2, p3, fw⟩ := PS
    refine ⟨w, rfl, q2, q3, kn, fin _ e1 p1.symm, tq, ?_, μ, CK_s hx.2.1 C (fun a q1 q2 => f a (by omega)), ?_⟩
    · rw [h04, h13, e2, p3]
    · obtain ⟨K, t1, t2, TT, t3⟩ := R
      have e73 : h'.2.1 173 0 = h.2.1 173 0 := (A 173 0 (by decide +kernel)).trans (fr_g fw (WSf_k 173 0 (by omega)))
      have e74 : h'.2.1 174 0 = h.2.1 174 0 := (A 174 0 (by decide +kernel)).trans (fr_g fw (WSf_k 174 0 (by omega)))
      refine ⟨KSn_ag (KSn_g K (fun a k q => ⟨fr_g fw (WSf_k a k q), fr_gl fw (WSf_k a k q)⟩)) A L, by rw [e73]; exact t1, by rw [e74]; exact t2, TT, by rw [e73, e74]; exact t3⟩
  | inr ν =>
    obtain ⟨e1, e2, C⟩ := SR
    obtain ⟨p1, p2, K, p73, p74, -⟩ := PS
    have OO := TMs ν rfl
    have TT := OKm_t OO
    have e73 : h'.2.1 173 0 = ν 0 1 := (A 173 0 (by decide +kernel)).trans p73
    have e74 : h'.2.1 174 0 = ν 0 2 := (A 174 0 (by decide +kernel)).trans p74
    refine ⟨w, rfl, q2, q3, kn, fin _ e1 p1.symm, tq, ?_, ν, CK_s hx.2.1 C (fun a q1 q2 => f a (by omega)), KSn_ag K A L, ?_, ?_, OO, fun _ => ⟨e73, e74⟩⟩
    · rw [h04, h13, e2, p2]
    · rw [e73]
      unfold tmo
      have := TT.1
      rw [if_neg (by omega)]
    · rw [e74]
      unfold tmo
      have := TT.2.1
      rw [if_neg (by omega)]

/-! ===== the askers of both: event ===== -/
def evv (μ : pm_T) (v e w : Int) : Int :=
  if (0 ≤ v ∧ v < μ 0 7) ∧ (0 ≤ e ∧ e < μ (10 + v.toNat) 0) then
    (if 0 ≤ w ∧ w ≤ 8 then μ (100 + 40 * v.toNat + w.toNat) e.toNat
     else if 10 ≤ w ∧ w < 10 + μ (100 + 40 * v.toNat + 4) e.toNat then μ (100 + 40 * v.toNat + w.toNat) e.toNat
     else if 20 ≤ w ∧ w < 20 + μ (100 + 40 * v.toNat + 4) e.toNat then μ (100 + 40 * v.toNat + w.toNat) e.toNat else 10000)
  else 10000
/-- an event in a voice's cells, with its ranges -/
def Evc (μ : pm_T) (R w e : Nat) (h : ah_T) : Prop := isV w ∧ e < 300 ∧ RVe μ R w e h ∧ MVe μ R e ∧ ∀ b, h.2.1 (w + 3) b ≤ 300
theorem Evc_q {μ : pm_T} {R w e : Nat} {h : ah_T} (H : Evc μ R w e h) : ∃ b q : Nat, b < 300 ∧ (q : Int) + μ (R + 4) e ≤ 300 ∧ h.2.1 (w + 7) e = b ∧ h.2.1 (w + 3) b = q ∧ h.2.1 (w + 3) (b + 1) = q + μ (R + 4) e ∧ (h.2.1 (w + 6) b = μ (R + 5) e ∧ h.2.1 (w + 4) b = μ (R + 7) e ∧ h.2.1 (w + 5) b = μ (R + 8) e) ∧ ∀ p : Nat, (p : Int) < μ (R + 4) e → h.2.1 (w + 1) (q + p) = μ (R + (10 + p)) e ∧ h.2.1 (w + 2) (q + p) = μ (R + (20 + p)) e := by
  obtain ⟨-, -, ⟨b, q, y1, y2, y3, -, ⟨u1, u2⟩, w1, k⟩, -, q3⟩ := H
  exact ⟨b, q, y1, by have := q3 (b + 1); omega, y2, u1, u2, w1, k⟩
theorem t_Voice_pitchesOf {G : cx_T} {s w e R : Nat} {h : ah_T} {μ : pm_T} (hb0 : hb s h) (H : Evc μ R w e h) : con G 0 0 0 m_Voice_pitchesOf [av_R (some w), av_I (e : Int)] h (fun r h' => hb s h' ∧ h' = h ∧ r = some (av_I (μ (R + 4) e))) := by
  obtain ⟨b, q, y1, yq, y2, u1, u2, -, -⟩ := Evc_q H
  have hM := H.2.2.2.1.1
  have he := H.2.1
  refine c_Voice_pitchesOf H.1 hb0 (fun _ => ?_)
  unfold B_Voice_pitchesOf_0
  refine ⟨by omega, ?_⟩
  rw [tn_c]
  intro x2 e2 _ _
  obtain rfl : x2 = (b : Int) := e2.trans y2
  refine ⟨⟨by omega, by omega⟩, by omega, ?_⟩
  rw [show ((b : Int) + 1).toNat = b + 1 by omega]
  intro x6 e6 _ _
  refine ⟨by omega, ?_⟩
  rw [tn_c]
  intro x9 e9 _ _
  have : x6 - x9 = μ (R + 4) e := by rw [e6, e9, u1, u2]; omega
  rw [this]
  exact ⟨⟨by omega, by omega⟩, hb0, rfl, rfl⟩
theorem t_Voice_keyOf {G : cx_T} {s w e R p : Nat} {h : ah_T} {μ : pm_T} (hb0 : hb s h) (H : Evc μ R w e h) (hp : (p : Int) < μ (R + 4) e) : con G 0 0 0 m_Voice_keyOf [av_R (some w), av_I (e : Int), av_I (p : Int)] h (fun r h' => hb s h' ∧ h' = h ∧ r = some (av_I (μ (R + (10 + p)) e))) := by
  obtain ⟨b, q, y1, yq, y2, u1, u2, -, k⟩ := Evc_q H
  have he := H.2.1
  refine c_Voice_keyOf H.1 hb0 (fun _ _ => ?_)
  unfold B_Voice_keyOf_0 B_Voice_keyOf_36 B_Voice_keyOf_37
  refine ⟨by omega, ?_⟩
  rw [tn_c]
  intro x3 e3 _ _
  obtain rfl : x3 = (b : Int) := e3.trans y2
  refine ⟨by omega, ?_⟩
  rw [tn_c]
  intro x5 e5 _ _
  obtain rfl : x5 = (q : Int) := e5.trans u1
  refine ⟨⟨by omega, by omega⟩, fun c => by omega, fun c => ⟨fun c1 => by omega, fun c1 => ⟨by omega, fun x10 e10 _ _ => ?_⟩⟩⟩
  rw [show ((q : Int) + (p : Int)).toNat = q + p by omega] at e10
  rw [e10, (k p hp).1]
  exact ⟨hb0, rfl, rfl⟩
theorem t_Voice_stepOf {G : cx_T} {s w e R p : Nat} {h : ah_T} {μ : pm_T} (hb0 : hb s h) (H : Evc μ R w e h) (hp : (p : Int) < μ (R + 4) e) : con G 0 0 0 m_Voice_stepOf [av_R (some w), av_I (e : Int), av_I (p : Int)] h (fun r h' => hb s h' ∧ h' = h ∧ r = some (av_I (μ (R + (20 + p)) e))) := by
  obtain ⟨b, q, y1, yq, y2, u1, u2, -, k⟩ := Evc_q H
  have he := H.2.1
  refine c_Voice_stepOf H.1 hb0 (fun _ _ => ?_)
  unfold B_Voice_stepOf_0 B_Voice_stepOf_36 B_Voice_stepOf_37
  refine ⟨by omega, ?_⟩
  rw [tn_c]
  intro x3 e3 _ _
  obtain rfl : x3 = (b : Int) := e3.trans y2
  refine ⟨by omega, ?_⟩
  rw [tn_c]
  intro x5 e5 _ _
  obtain rfl : x5 = (q : Int) := e5.trans u1
  refine ⟨⟨by omega, by omega⟩, fun c => by omega, fun c => ⟨fun c1 => by omega, fun c1 => ⟨by omega, fun x10 e10 _ _ => ?_⟩⟩⟩
  rw [show ((q : Int) + (p : Int)).toNat = q + p by omega] at e10
  rw [e10, (k p hp).2]
  exact ⟨hb0, rfl, rfl⟩
theorem t_Voice_numberOf {G : cx_T} {s w e R : Nat} {h : ah_T} {μ : pm_T} (hb0 : hb s h) (H : Evc μ R w e h) : con G 0 0 0 m_Voice_numberOf [av_R (some w), av_I (e : Int)] h (fun r h' => hb s h' ∧ h' = h ∧ r = some (av_I (μ (R + 7) e))) := by
  obtain ⟨b, q, y1, yq, y2, u1, u2, ⟨w1, w2, w3⟩, k⟩ := Evc_q H
  have he := H.2.1
  refine c_Voice_numberOf H.1 hb0 (fun _ => ?_)
  unfold B_Voice_numberOf_0
  refine ⟨by omega, ?_⟩
  rw [tn_c]
  intro x3 e3 _ _
  obtain rfl : x3 = (b : Int) := e3.trans y2
  refine ⟨by omega, ?_⟩
  rw [tn_c]
  intro x5 e5 _ _
  rw [e5, w2]
  exact ⟨hb0, rfl, rfl⟩
theorem t_Voice_isTied {G : cx_T} {s w e R : Nat} {h : ah_T} {μ : pm_T} (hb0 : hb s h) (H : Evc μ R w e h) : con G 0 0 0 m_Voice_isTied [av_R (some w), av_I (e : Int)] h (fun r h' => hb s h' ∧ h' = h ∧ r = some (av_I (μ (R + 5) e))) := by
  obtain ⟨b, q, y1, yq, y2, u1, u2, ⟨w1, w2, w3⟩, k⟩ := Evc_q H
  have he := H.2.1
  refine c_Voice_isTied H.1 hb0 (fun _ => ?_)
  unfold B_Voice_isTied_0
  refine ⟨by omega, ?_⟩
  rw [tn_c]
  intro x3 e3 _ _
  obtain rfl : x3 = (b : Int) := e3.trans y2
  refine ⟨by omega, ?_⟩
  rw [tn_c]
  intro x5 e5 h5
  refine ⟨h5, ?_⟩
  rw [e5, w1]
  exact ⟨hb0, rfl, rfl⟩
theorem t_Voice_timeOf {G : cx_T} {s w e R p : Nat} {h : ah_T} {μ : pm_T} (hb0 : hb s h) (H : Evc μ R w e h) (hp : p < 4) : con G 0 0 0 m_Voice_timeOf [av_R (some w), av_I (e : Int), av_I (p : Int)] h (fun r h' => hb s h' ∧ h' = h ∧ r = some (av_L (μ (R + p) e))) := by
  have he := H.2.1
  obtain ⟨b, q, y1, y2, y3, ⟨z1, z2, z3, z4⟩, -⟩ := H.2.2.1
  refine c_Voice_timeOf H.1 hb0 (fun _ _ => ?_)
  unfold B_Voice_timeOf_0
  rw [tn_c]
  refine ⟨fun c => ⟨by omega, fun x ex _ _ => ?_⟩, fun c => ⟨by omega, fun x ex _ _ => ?_⟩, fun c => ⟨by omega, fun x ex _ _ => ?_⟩, fun c => ⟨by omega, fun x ex _ _ => ?_⟩⟩
  · obtain rfl : p = 0 := by omega
    rw [ex, z1]; exact ⟨hb0, rfl, rfl⟩
  · obtain rfl : p = 1 := by omega
    rw [ex, z2]; exact ⟨hb0, rfl, rfl⟩
  · obtain rfl : p = 2 := by omega
    rw [ex, z3]; exact ⟨hb0, rfl, rfl⟩
  · obtain rfl : p = 3 := by omega
    rw [ex, z4]; exact ⟨hb0, rfl, rfl⟩
theorem t_Voice_writingOf {G : cx_T} {s w e R p : Nat} {h : ah_T} {μ : pm_T} (hb0 : hb s h) (H : Evc μ R w e h) (hp : 4 ≤ p ∧ p ≤ 8) : con G 1 0 0 m_Voice_writingOf [av_R (some w), av_I (e : Int), av_I (p : Int)] h (fun r h' => hb s h' ∧ h' = h ∧ r = some (av_I (μ (R + p) e))) := by
  have he := H.2.1
  have hM := H.2.2.2.1.2.1
  obtain ⟨b, q, y1, yq, y2, u1, u2, ⟨w1, w2, w3⟩, k⟩ := Evc_q H
  obtain ⟨-, -, -, -, y3, -⟩ := H.2.2.1
  refine c_Voice_writingOf H.1 hb0 (fun _ _ => ?_)
  unfold B_Voice_writingOf_0 B_Voice_writingOf_51
  rw [tn_c]
  refine ⟨fun c => ?_, fun c => ?_, fun c => ⟨by omega, fun x ex _ _ => ?_⟩, fun c => ?_, fun c => ⟨by omega, fun x ex _ _ => ?_⟩⟩
  · obtain rfl : p = 4 := by omega
    refine con_mono (t_Voice_pitchesOf hb0 H) ?_
    rintro r h2 ⟨hb2, rfl, rfl⟩
    exact ⟨_, rfl, hb2, hb2, rfl, rfl⟩
  · obtain rfl : p = 5 := by omega
    refine con_mono (t_Voice_isTied hb0 H) ?_
    rintro r h2 ⟨hb2, rfl, rfl⟩
    refine ⟨_, rfl, hb2, fun c => ?_, fun c => ?_⟩
    · rw [c]; exact ⟨hb2, rfl, rfl⟩
    · have : μ (R + 5) e = 1 := by omega
      rw [this]; exact ⟨hb2, rfl, rfl⟩
  · obtain rfl : p = 6 := by omega
    rw [ex, y3]; exact ⟨hb0, rfl, rfl⟩
  · obtain rfl : p = 7 := by omega
    refine con_mono (t_Voice_numberOf hb0 H) ?_
    rintro r h2 ⟨hb2, rfl, rfl⟩
    exact ⟨_, rfl, hb2, hb2, rfl, rfl⟩
  · obtain rfl : p = 8 := by omega
    obtain rfl : x = (b : Int) := ex.trans y2
    refine ⟨by omega, ?_⟩
    rw [tn_c]
    intro x17 e17 _ _
    rw [e17, w3]; exact ⟨hb0, rfl, rfl⟩

/-! ===== what a WALK gives: STARTS one behind another, BARS and their events ===== -/
theorem wk_ind {π : pm_T} {P : pm_T → Prop} (hs : ∀ α, P α → P (wk_st α)) (hl : ∀ α, P α → P (wk_ln α)) (he : ∀ j sT sB α, P α → P (wk_ev π j sT sB α)) : ∀ (f : Nat) (b : Bool) (x y : Nat) (sT sB : Int) (α : pm_T), P α → P (wk π f b x y sT sB α)
  | 0, _, _, _, _, _, _, h => by rw [wk]; exact h
  | f + 1, true, x, y, sT, sB, α, h => by
    have ih := fun b x y sT sB α h => wk_ind hs hl he f b x y sT sB α h
    rw [wk]
    split
    · exact h
    split
    · refine ih _ _ _ _ _ _ ?_
      split
      · exact ih _ _ _ _ _ _ (hs _ h)
      · exact ih _ _ _ _ _ _ (hs _ (ih _ _ _ _ _ _ (hs _ (hs _ h))))
    split
    · exact ih _ _ _ _ _ _ (ih _ _ _ _ _ _ (hs _ h))
    split
    · exact ih _ _ _ _ _ _ (hl _ (hs _ h))
    split
    · exact ih _ _ _ _ _ _ (he _ _ _ _ (hs _ h))
    · exact ih _ _ _ _ _ _ (hs _ h)
  | f + 1, false, x, y, sT, sB, α, h => by
    have ih := fun b x y sT sB α h => wk_ind hs hl he f b x y sT sB α h
    rw [wk]
    split
    · exact ih _ _ _ _ _ _ (ih _ _ _ _ _ _ (ih _ _ _ _ _ _ (hs _ h)))
    · exact h
def nxT (α : pm_T) (e : Nat) : Int := if (e : Int) + 1 < α 0 1 then α 3 (e + 1) else α 0 4
def nxB (α : pm_T) (e : Nat) : Int := if (e : Int) + 1 < α 0 1 then α 4 (e + 1) else α 0 5
def WGa (α : pm_T) : Prop := ∀ e : Nat, (e : Int) < α 0 1 → nxT α e = rdT (α 3 e * α 6 e + α 5 e * α 4 e) (α 4 e * α 6 e) ∧ nxB α e = rdB (α 3 e * α 6 e + α 5 e * α 4 e) (α 4 e * α 6 e)
def WGb (α : pm_T) : Prop := α 7 0 = 0 ∧ (∀ b : Nat, (b : Int) ≤ α 0 2 → 0 ≤ α 7 b ∧ α 7 b ≤ α 0 1) ∧ ∀ e : Nat, (e : Int) < α 0 1 → (0 ≤ α 2 e ∧ α 2 e ≤ α 0 2) ∧ ∀ b : Nat, (b : Int) ≤ α 0 2 → (α 7 b ≤ e ↔ (b : Int) ≤ α 2 e)
def WGs (α : pm_T) : Prop := (0 ≤ α 0 1 ∧ 0 ≤ α 0 2) ∧ (α 0 3 = 0 → α 0 1 ≤ 300 → WGa α ∧ (α 0 2 ≤ 100 → WGb α))
theorem WG_st {α : pm_T} (H : WGs α) : WGs (wk_st α) := by
  have e : ∀ a k, ¬ (a = 0 ∧ k = 0) → wk_st α a k = α a k := fun a k q => up2_o q
  obtain ⟨h0, h1⟩ := H
  unfold WGs WGa WGb nxT nxB
  simp only [e 0 1 (by decide), e 0 2 (by decide), e 0 3 (by decide), e 0 4 (by decide), e 0 5 (by decide), e 2 _ (fun w => absurd w.1 (by decide)), e 3 _ (fun w => absurd w.1 (by decide)), e 4 _ (fun w => absurd w.1 (by decide)), e 5 _ (fun w => absurd w.1 (by decide)), e 6 _ (fun w => absurd w.1 (by decide)), e 7 _ (fun w => absurd w.1 (by decide))]
  exact ⟨h0, h1⟩
theorem WG_ln {α : pm_T} (H : WGs α) : WGs (wk_ln α) := by
  obtain ⟨⟨h0, h2⟩, h1⟩ := H
  have e2 : wk_ln α 0 2 = α 0 2 + 1 := by unfold wk_ln; rw [up2_at]
  have e : ∀ a k, ¬ (a = 0 ∧ k = 2) → ¬ (a = 7 ∧ k = (α 0 2).toNat + 1) → wk_ln α a k = α a k := fun a k q q2 => by
    unfold wk_ln
    rw [up2_o q]
    split
    · rw [up2_o q2]
    · rfl
  have e7 : α 0 2 < 100 → wk_ln α 7 ((α 0 2).toNat + 1) = α 0 1 := fun c => by
    unfold wk_ln
    rw [up2_o (by omega), if_pos c, up2_at]
  have n7 : ∀ a k, a ≠ 7 → ¬ (a = 7 ∧ k = (α 0 2).toNat + 1) := fun a k q w => q w.1
  have r : ∀ a k, a ≠ 0 → a ≠ 7 → wk_ln α a k = α a k := fun a k q q2 => e a k (fun w => q w.1) (n7 a k q2)
  have r0 : ∀ k, k ≠ 2 → wk_ln α 0 k = α 0 k := fun k q => e 0 k (fun w => q w.2) (by omega)
  refine ⟨⟨by rw [r0 1 (by decide)]; exact h0, by omega⟩, fun c3 c1 => ?_⟩
  rw [r0 3 (by decide)] at c3
  rw [r0 1 (by decide)] at c1
  obtain ⟨ha, hb⟩ := h1 c3 c1
  refine ⟨fun k hk => ?_, fun c2 => ?_⟩
  · unfold nxT nxB
    rw [r0 1 (by decide)] at hk ⊢
    rw [r0 4 (by decide), r0 5 (by decide), r 3 _ (by decide) (by decide), r 3 _ (by decide) (by decide), r 4 _ (by decide) (by decide), r 4 _ (by decide) (by decide), r 5 _ (by decide) (by decide), r 6 _ (by decide) (by decide)]
    exact ha k hk
  · rw [e2] at c2
    obtain ⟨b0, b1, b2⟩ := hb (by omega)
    have e7' := e7 (by omega)
    have o7 : ∀ b : Nat, (b : Int) ≤ α 0 2 → wk_ln α 7 b = α 7 b := fun b q => e 7 b (by omega) (by omega)
    unfold WGb
    rw [e2, r0 1 (by decide)]
    refine ⟨by rw [o7 0 (by omega)]; exact b0, fun b q => ?_, fun k hk => ?_⟩
    · by_cases c : (b : Int) ≤ α 0 2
      · rw [o7 b c]; exact b1 b c
      · obtain rfl : b = (α 0 2).toNat + 1 := by omega
        rw [e7']; omega
    · obtain ⟨x1, x2⟩ := b2 k hk
      rw [r 2 _ (by decide) (by decide)]
      refine ⟨⟨x1.1, by omega⟩, fun b q => ?_⟩
      by_cases c : (b : Int) ≤ α 0 2
      · rw [o7 b c]; exact x2 b c
      · obtain rfl : b = (α 0 2).toNat + 1 := by omega
        rw [e7']; omega
theorem gc_e (x y : Int) : x = (Int.gcd x y : Int) * rdT x y ∧ y = (Int.gcd x y : Int) * rdB x y := by
  unfold rdT rdB
  exact ⟨(Int.mul_ediv_cancel' (Int.gcd_dvd_left x y)).symm, (Int.mul_ediv_cancel' (Int.gcd_dvd_right x y)).symm⟩
theorem WG_ev {π : pm_T} {j : Nat} {sT sB : Int} {α : pm_T} (H : WGs α) : WGs (wk_ev π j sT sB α) := by
  obtain ⟨⟨h0, h2⟩, h1⟩ := H
  unfold wk_ev
  dsimp only
  split
  · rename_i cc
    obtain ⟨ha, hb⟩ := h1 cc.1 (by omega)
    generalize rdT (lnT π j sT) (lnB π j sB) = lT
    generalize rdB (lnT π j sT) (lnB π j sB) = lB
    split
    · refine ⟨⟨?_, ?_⟩, fun c3 => ?_⟩
      · simp [up2]; omega
      · simp [up2]; omega
      · simp [up2] at c3
    · generalize hT : rdT (α 0 4 * lB + lT * α 0 5) (α 0 5 * lB) = nT at *
      generalize hB : rdB (α 0 4 * lB + lT * α 0 5) (α 0 5 * lB) = nB at *
      generalize (if isFr nT nB = true then (1 : Int) else 0) = fz
      obtain ⟨N, hN⟩ : ∃ N : Nat, α 0 1 = N := ⟨(α 0 1).toNat, by omega⟩
      have tN : (α 0 1).toNat = N := by omega
      rw [tN]
      generalize eβ : up2 (up2 (up2 (up2 (up2 (up2 (up2 (up2 (up2 (up2 α 0 1 (α 0 1 + 1)) 1 N (j : Int)) 2 N (α 0 2)) 3 N (α 0 4)) 4 N (α 0 5)) 5 N lT) 6 N lB) 0 4 nT) 0 5 nB) 0 3 fz = β
      have o : ∀ a k, a ≠ 0 → k ≠ N → β a k = α a k := fun a k q1 q2 => by
        rw [← eβ, up2_o (by omega), up2_o (by omega), up2_o (by omega), up2_o (by omega), up2_o (by omega), up2_o (by omega), up2_o (by omega), up2_o (by omega), up2_o (by omega), up2_o (by omega)]
      have v1 : β 0 1 = α 0 1 + 1 := by rw [← eβ]; simp [up2]
      have v2 : β 0 2 = α 0 2 := by rw [← eβ]; simp [up2]
      have v4 : β 0 4 = nT := by rw [← eβ]; simp [up2]
      have v5 : β 0 5 = nB := by rw [← eβ]; simp [up2]
      have n2 : β 2 N = α 0 2 := by rw [← eβ]; simp [up2]
      have n3 : β 3 N = α 0 4 := by rw [← eβ]; simp [up2]
      have n4 : β 4 N = α 0 5 := by rw [← eβ]; simp [up2]
      have n5 : β 5 N = lT := by rw [← eβ]; simp [up2]
      have n6 : β 6 N = lB := by rw [← eβ]; simp [up2]
      have o7 : ∀ k, β 7 k = α 7 k := fun k => by
        rw [← eβ, up2_o (by omega), up2_o (by omega), up2_o (by omega), up2_o (by omega), up2_o (by omega), up2_o (by omega), up2_o (by omega), up2_o (by omega), up2_o (by omega), up2_o (by omega)]
      refine ⟨⟨by omega, by omega⟩, fun _ _ => ⟨fun k hk => ?_, fun c2 => ?_⟩⟩
      · unfold nxT nxB
        rw [v1] at hk ⊢
        by_cases c : k = N
        · subst c
          rw [if_neg (by omega), if_neg (by omega), n3, n4, n5, n6, v4, v5]
          exact ⟨hT.symm, hB.symm⟩
        · obtain ⟨x1, x2⟩ := ha k (by omega)
          unfold nxT at x1
          unfold nxB at x2
          rw [if_pos (show (k : Int) + 1 < α 0 1 + 1 by omega), if_pos (show (k : Int) + 1 < α 0 1 + 1 by omega), o 3 k (by decide) c, o 6 k (by decide) c, o 5 k (by decide) c, o 4 k (by decide) c]
          by_cases c' : k + 1 = N
          · rw [if_neg (show ¬ (k : Int) + 1 < α 0 1 by omega)] at x1 x2
            rw [c', n3, n4]
            exact ⟨x1, x2⟩
          · rw [if_pos (show (k : Int) + 1 < α 0 1 by omega)] at x1 x2
            rw [o 3 (k + 1) (by decide) c', o 4 (k + 1) (by decide) c']
            exact ⟨x1, x2⟩
      · rw [v2] at c2
        obtain ⟨b0, b1, b2⟩ := hb c2
        unfold WGb
        rw [v1, v2, o7]
        refine ⟨b0, fun b q => ?_, fun k hk => ?_⟩
        · rw [o7]
          have := b1 b q
          omega
        · by_cases c : k = N
          · subst c
            rw [n2]
            refine ⟨by omega, fun b q => ?_⟩
            rw [o7]
            have := b1 b q
            omega
          · rw [o 2 k (by decide) c]
            refine ⟨(b2 k (by omega)).1, fun b q => ?_⟩
            rw [o7]
            exact (b2 k (by omega)).2 b q
  · rename_i cc
    have v1 : up2 α 0 1 (α 0 1 + 1) 0 1 = α 0 1 + 1 := up2_at
    have v : ∀ k, k ≠ 1 → up2 α 0 1 (α 0 1 + 1) 0 k = α 0 k := fun k q => up2_o (by omega)
    refine ⟨⟨by omega, by rw [v 2 (by decide)]; exact h2⟩, fun c3 c1 => ?_⟩
    rw [v 3 (by decide)] at c3
    omega
theorem WG_walk {π : pm_T} : WGs (walk π) := by
  refine wk_ind (fun α h => WG_st h) (fun α h => WG_ln h) (fun j sT sB α h => WG_ev h) _ _ _ _ _ _ _ ?_
  have v : ∀ a k, ¬ (a = 0 ∧ k = 5) → wk0 a k = 0 := fun a k q => up2_o q
  refine ⟨⟨by rw [v _ _ (by decide)]; decide, by rw [v _ _ (by decide)]; decide⟩, fun _ _ => ⟨fun e he => ?_, fun _ => ⟨v _ _ (by decide), fun b hb => ?_, fun e he => ?_⟩⟩⟩
  · rw [v _ _ (by decide)] at he; omega
  · rw [v 7 b (by omega), v 0 1 (by decide)]; decide
  · rw [v _ _ (by decide)] at he; omega

/-! ===== what a score's memory tells of its voices ===== -/
def VGo (μ : pm_T) (n : Nat) : Prop :=
  (∀ e : Nat, (e : Int) < μ (10 + n) 0 → smT μ n (e + 1) = rdT (smT μ n e * μ (100 + 40 * n + 3) e + μ (100 + 40 * n + 2) e * smB μ n e) (smB μ n e * μ (100 + 40 * n + 3) e) ∧ smB μ n (e + 1) = rdB (smT μ n e * μ (100 + 40 * n + 3) e + μ (100 + 40 * n + 2) e * smB μ n e) (smB μ n e * μ (100 + 40 * n + 3) e)) ∧
  μ (100 + 40 * n + 30) 0 = 0 ∧ (∀ b : Nat, (b : Int) < μ (10 + n) 1 → 0 ≤ μ (100 + 40 * n + 30) b ∧ μ (100 + 40 * n + 30) b ≤ μ (10 + n) 0) ∧
  ∀ e : Nat, (e : Int) < μ (10 + n) 0 → (0 ≤ μ (100 + 40 * n + 6) e ∧ μ (100 + 40 * n + 6) e < μ (10 + n) 1) ∧ ∀ b : Nat, (b : Int) < μ (10 + n) 1 → (μ (100 + 40 * n + 30) b ≤ e ↔ (b : Int) ≤ μ (100 + 40 * n + 6) e)
def VGm (μ : pm_T) : Prop := (0 ≤ μ 0 7 ∧ μ 0 7 ≤ 4) ∧ ∀ n : Nat, (n : Int) < μ 0 7 → VGo μ n
theorem VGo_c {μ μ' : pm_T} {n : Nat} (H : VGo μ n) (e : ∀ a k, vrow n a → μ' a k = μ a k) : VGo μ' n := by
  have e1 : ∀ k, μ' (10 + n) k = μ (10 + n) k := fun k => e _ k (Or.inl rfl)
  have e2 : ∀ w k, w < 40 → μ' (100 + 40 * n + w) k = μ (100 + 40 * n + w) k := fun w k hw => e _ k (Or.inr ⟨by omega, by omega⟩)
  have eT : ∀ k, smT μ' n k = smT μ n k := fun k => by
    unfold smT
    rw [e1, e2 0 _ (by decide), e2 31 _ (by decide)]
  have eB : ∀ k, smB μ' n k = smB μ n k := fun k => by
    unfold smB
    rw [e1, e2 1 _ (by decide), e2 31 _ (by decide)]
  unfold VGo
  simp only [e1, eT, eB, e2 2 _ (by decide), e2 3 _ (by decide), e2 30 _ (by decide), e2 6 _ (by decide)]
  exact H
theorem VGm_k {μ μ' : pm_T} (H : VGm μ) (k : kr μ μ') : VGm μ' := by
  refine ⟨by rw [k.1]; exact H.1, fun n hn => VGo_c (H.2 n (by rw [← k.1]; exact hn)) (fun a j w => k.2.1 a j ?_)⟩
  unfold vrow at w
  omega
theorem VGo_new {μ π : pm_T} {n : Nat} (hn : n = (μ 0 7).toNat) (h : ¬ (2000 < walk π 0 0 ∨ 300 < walk π 0 1 ∨ 100 < walk π 0 2)) (h3 : walk π 0 3 = 0) : VGo (addV μ π (walk π)) n := by
  obtain ⟨⟨w0, w2⟩, w⟩ := WG_walk (π := π)
  obtain ⟨ha, hb⟩ := w h3 (by omega)
  obtain ⟨b0, b1, b2⟩ := hb (by omega)
  clear w hb
  generalize walk π = α at *
  obtain ⟨n0, n1⟩ := addV_n (π := π) (α := α) hn
  have r : ∀ {w k : Nat}, w < 40 → addV μ π α (100 + 40 * n + w) k = _ := fun {w k} hw => addV_i (π := π) (α := α) (k := k) hn hw
  have r31 : ∀ k, addV μ π α (100 + 40 * n + 31) k = α 0 (4 + k) := fun k => (r (by decide)).trans rfl
  have r30 : ∀ k, addV μ π α (100 + 40 * n + 30) k = α 7 k := fun k => (r (by decide)).trans rfl
  have r0 : ∀ k, addV μ π α (100 + 40 * n + 0) k = α 3 k := fun k => (r (by decide)).trans rfl
  have r1 : ∀ k, addV μ π α (100 + 40 * n + 1) k = α 4 k := fun k => (r (by decide)).trans rfl
  have r2 : ∀ k, addV μ π α (100 + 40 * n + 2) k = α 5 k := fun k => (r (by decide)).trans rfl
  have r3 : ∀ k, addV μ π α (100 + 40 * n + 3) k = α 6 k := fun k => (r (by decide)).trans rfl
  have r6 : ∀ k, addV μ π α (100 + 40 * n + 6) k = α 2 k := fun k => (r (by decide)).trans rfl
  have eT : ∀ k : Nat, smT (addV μ π α) n k = if (k : Int) < α 0 1 then α 3 k else α 0 4 := fun k => by
    unfold smT
    rw [n0, r0, r31]
  have eB : ∀ k : Nat, smB (addV μ π α) n k = if (k : Int) < α 0 1 then α 4 k else α 0 5 := fun k => by
    unfold smB
    rw [n0, r1, r31]
  unfold VGo
  rw [n0, n1]
  refine ⟨fun e he => ?_, by rw [r30]; exact b0, fun b hb => by rw [r30]; exact b1 b (by omega), fun e he => ?_⟩
  · obtain ⟨x1, x2⟩ := ha e he
    rw [eT, eT, eB, eB, r2, r3, if_pos he, if_pos he, ← x1, ← x2]
    exact ⟨rfl, rfl⟩
  · obtain ⟨x1, x2⟩ := b2 e he
    rw [r6]
    exact ⟨⟨x1.1, by omega⟩, fun b hb => by rw [r30]; exact x2 b (by omega)⟩
theorem vg_items {t : tk_T} : ∀ (f i : Nat) (μ ν : pm_T), sp_items t f i μ = .inr ν → VGm μ → VGm ν
  | 0, _, _, _, h, _ => by rw [sp_items] at h; cases h
  | f + 1, i, μ, ν, h, H => by
    rw [sp_items] at h
    split at h
    · cases h; exact H
    · obtain ⟨q, eq, h⟩ := bnd_r h
      refine vg_items f _ _ _ h ?_
      split at eq
      · exact VGm_k H (time_k eq)
      · split at eq
        · unfold sp_voice at eq
          split at eq
          · rename_i c4
            obtain ⟨a, ea, eq⟩ := bnd_r eq
            split at eq
            · cases eq
            · rename_i c
              split at eq
              · rename_i c3
                obtain rfl := Sum.inr.inj eq
                have e7 : addV μ a.2 (walk a.2) 0 7 = μ 0 7 + 1 := by unfold addV; rw [if_pos ⟨rfl, rfl⟩]
                obtain ⟨h1, h2⟩ := H
                refine ⟨?_, fun n hn => ?_⟩
                · show 0 ≤ addV μ a.2 (walk a.2) 0 7 ∧ addV μ a.2 (walk a.2) 0 7 ≤ 4
                  rw [e7]; omega
                · have hn' : (n : Int) < addV μ a.2 (walk a.2) 0 7 := hn
                  rw [e7] at hn'
                  show VGo (addV μ a.2 (walk a.2)) n
                  by_cases cn : n = (μ 0 7).toNat
                  · exact VGo_new cn c c3
                  · exact VGo_c (h2 n (by omega)) (fun x k w => addV_b (n := n) (by omega) w (by omega))
              · cases eq
          · cases eq
        · split at eq
          · exact VGm_k H (line_k eq)
          · split at eq
            · exact VGm_k H (rule_k eq)
            · split at eq
              · exact VGm_k H (row_k eq)
              · cases eq
theorem VGm_of {μ : pm_T} (H : OKm μ) : VGm μ := by
  have h0 : VGm sco0 := by
    have e : sco0 0 7 = 0 := by unfold sco0; simp [up2]
    exact ⟨by rw [e]; decide, fun n hn => by rw [e] at hn; omega⟩
  rcases H with ⟨X, -, e⟩ | rfl
  · exact vg_items _ _ _ _ e h0
  · exact h0

/-! ===== the order of STARTS ===== -/
theorem fr_ll {a b c d e f : Int} (hd : 1 ≤ d) (hb : 1 ≤ b) (hf : 1 ≤ f) (h1 : a * d < c * b) (h2 : c * f ≤ e * d) : a * f < e * b := by
  have x1 : (a * d) * f < (c * b) * f := Int.mul_lt_mul_of_pos_right h1 (by omega)
  have x2 : (c * f) * b ≤ (e * d) * b := Int.mul_le_mul_of_nonneg_right h2 (by omega)
  have x3 : (a * f) * d < (e * b) * d := by
    have e1 : (a * d) * f = (a * f) * d := by rw [Int.mul_assoc, Int.mul_comm d f, ← Int.mul_assoc]
    have e2 : (c * b) * f = (c * f) * b := by rw [Int.mul_assoc, Int.mul_comm b f, ← Int.mul_assoc]
    have e3 : (e * d) * b = (e * b) * d := by rw [Int.mul_assoc, Int.mul_comm d b, ← Int.mul_assoc]
    omega
  exact Int.lt_of_mul_lt_mul_right x3 (by omega)
theorem fr_le {a b c d e f : Int} (hd : 1 ≤ d) (hb : 1 ≤ b) (hf : 1 ≤ f) (h1 : a * d ≤ c * b) (h2 : c * f < e * d) : a * f < e * b := by
  have x1 : (a * d) * f ≤ (c * b) * f := Int.mul_le_mul_of_nonneg_right h1 (by omega)
  have x2 : (c * f) * b < (e * d) * b := Int.mul_lt_mul_of_pos_right h2 (by omega)
  have x3 : (a * f) * d < (e * b) * d := by
    have e1 : (a * d) * f = (a * f) * d := by rw [Int.mul_assoc, Int.mul_comm d f, ← Int.mul_assoc]
    have e2 : (c * b) * f = (c * f) * b := by rw [Int.mul_assoc, Int.mul_comm b f, ← Int.mul_assoc]
    have e3 : (e * d) * b = (e * b) * d := by rw [Int.mul_assoc, Int.mul_comm d b, ← Int.mul_assoc]
    omega
  exact Int.lt_of_mul_lt_mul_right x3 (by omega)
theorem fr_tt {a b c d e f : Int} (hd : 1 ≤ d) (hb : 1 ≤ b) (hf : 1 ≤ f) (h1 : a * d ≤ c * b) (h2 : c * f ≤ e * d) : a * f ≤ e * b := by
  have x1 : (a * d) * f ≤ (c * b) * f := Int.mul_le_mul_of_nonneg_right h1 (by omega)
  have x2 : (c * f) * b ≤ (e * d) * b := Int.mul_le_mul_of_nonneg_right h2 (by omega)
  have x3 : (a * f) * d ≤ (e * b) * d := by
    have e1 : (a * d) * f = (a * f) * d := by rw [Int.mul_assoc, Int.mul_comm d f, ← Int.mul_assoc]
    have e2 : (c * b) * f = (c * f) * b := by rw [Int.mul_assoc, Int.mul_comm b f, ← Int.mul_assoc]
    have e3 : (e * d) * b = (e * b) * d := by rw [Int.mul_assoc, Int.mul_comm d b, ← Int.mul_assoc]
    omega
  exact Int.le_of_mul_le_mul_right x3 (by omega)
/-- START i of voice o is ahead of (not behind) START e of voice n -/
def SL (μ : pm_T) (o i n e : Nat) : Prop := smT μ o i * smB μ n e < smT μ n e * smB μ o i
def SE (μ : pm_T) (o i n e : Nat) : Prop := smT μ o i * smB μ n e ≤ smT μ n e * smB μ o i
/-- a good score's memory -/
def GM (μ : pm_T) : Prop := VGm μ ∧ TMg μ ∧ ∀ n : Nat, (n : Int) < μ 0 7 → MVo μ n
theorem GM_b {μ : pm_T} (G : GM μ) {n : Nat} (hn : (n : Int) < μ 0 7) (e : Nat) : (0 ≤ smT μ n e ∧ smT μ n e ≤ 1000 * smB μ n e) ∧ 1 ≤ smB μ n e ∧ smB μ n e ≤ 1000000 := by
  have M := G.2.2 n hn
  unfold smT smB
  split
  · rename_i c
    have := (M.2.2.2.1 e c).2.2.2.2.1
    exact ⟨⟨this.1, this.2.1⟩, this.2.2.1, this.2.2.2⟩
  · have := M.2.2.1
    exact ⟨⟨this.1, this.2.1⟩, this.2.2.1, this.2.2.2⟩
theorem GM_s {μ : pm_T} (G : GM μ) {n e : Nat} (hn : (n : Int) < μ 0 7) (he : (e : Int) < μ (10 + n) 0) : SL μ n e n (e + 1) := by
  obtain ⟨g, x1, x2⟩ : ∃ g : Int, smT μ n e * μ (100 + 40 * n + 3) e + μ (100 + 40 * n + 2) e * smB μ n e = g * smT μ n (e + 1) ∧ smB μ n e * μ (100 + 40 * n + 3) e = g * smB μ n (e + 1) := by
    obtain ⟨y1, y2⟩ := (G.1.2 n hn).1 e he
    obtain ⟨z1, z2⟩ := gc_e (smT μ n e * μ (100 + 40 * n + 3) e + μ (100 + 40 * n + 2) e * smB μ n e) (smB μ n e * μ (100 + 40 * n + 3) e)
    rw [y1, y2]
    exact ⟨_, z1, z2⟩
  have ⟨b0, b1, b2⟩ := GM_b G hn e
  have ⟨c0, c1, c2⟩ := GM_b G hn (e + 1)
  have l := ((G.2.2 n hn).2.2.2.1 e he).2.2.2.2.2.1
  unfold SL
  generalize smT μ n e = T at *
  generalize smB μ n e = B at *
  generalize smT μ n (e + 1) = T' at *
  generalize smB μ n (e + 1) = B' at *
  generalize μ (100 + 40 * n + 3) e = lB at *
  generalize μ (100 + 40 * n + 2) e = lT at *
  have hg : 1 ≤ g := by
    by_cases c : 1 ≤ g
    · exact c
    · have p : 1 ≤ B * lB := by
        have := Int.mul_le_mul b1 l.2.2.1 (by omega) (by omega)
        omega
      have : g * B' ≤ 0 := Int.mul_nonpos_of_nonpos_of_nonneg (by omega) (by omega)
      omega
  have q : T * B' * g < T' * B * g := by
    have e1 : T * B' * g = T * (B * lB) := by rw [x2, Int.mul_comm g B', ← Int.mul_assoc]
    have e2 : T' * B * g = (T * lB + lT * B) * B := by rw [x1, Int.mul_comm g T', Int.mul_assoc, Int.mul_assoc, Int.mul_comm g B]
    have e3 : (T * lB + lT * B) * B = T * (B * lB) + lT * (B * B) := by rw [Int.add_mul, Int.mul_assoc, Int.mul_comm lB B, Int.mul_assoc]
    have p : 1 ≤ lT * (B * B) := by
      have h1 := Int.mul_le_mul b1 b1 (by omega) (by omega)
      have h2 := Int.mul_le_mul l.1 h1 (by omega) (by omega)
      omega
    omega
  exact Int.lt_of_mul_lt_mul_right q (by omega)
theorem SL_n {μ : pm_T} {o i n e : Nat} : ¬ SL μ o i n e ↔ SE μ n e o i := by
  unfold SL SE; omega
theorem SE_n {μ : pm_T} {o i n e : Nat} : ¬ SE μ o i n e ↔ SL μ n e o i := by
  unfold SL SE; omega
theorem SL_e {μ : pm_T} {o i n e : Nat} (h : SL μ o i n e) : SE μ o i n e := by
  unfold SL SE at *; omega
theorem SL_le {μ : pm_T} (G : GM μ) {o i n e m f : Nat} (ho : (o : Int) < μ 0 7) (hn : (n : Int) < μ 0 7) (hm : (m : Int) < μ 0 7) (h1 : SL μ o i n e) (h2 : SE μ n e m f) : SL μ o i m f :=
  fr_ll (GM_b G hn e).2.1 (GM_b G ho i).2.1 (GM_b G hm f).2.1 h1 h2
theorem SE_lt {μ : pm_T} (G : GM μ) {o i n e m f : Nat} (ho : (o : Int) < μ 0 7) (hn : (n : Int) < μ 0 7) (hm : (m : Int) < μ 0 7) (h1 : SE μ o i n e) (h2 : SL μ n e m f) : SL μ o i m f :=
  fr_le (GM_b G hn e).2.1 (GM_b G ho i).2.1 (GM_b G hm f).2.1 h1 h2
theorem SE_le {μ : pm_T} (G : GM μ) {o i n e m f : Nat} (ho : (o : Int) < μ 0 7) (hn : (n : Int) < μ 0 7) (hm : (m : Int) < μ 0 7) (h1 : SE μ o i n e) (h2 : SE μ n e m f) : SE μ o i m f :=
  fr_tt (GM_b G hn e).2.1 (GM_b G ho i).2.1 (GM_b G hm f).2.1 h1 h2
theorem SE_r {μ : pm_T} {n e : Nat} : SE μ n e n e := Int.le_refl _
theorem GM_m {μ : pm_T} (G : GM μ) {n : Nat} (hn : (n : Int) < μ 0 7) {i : Nat} : ∀ j : Nat, i ≤ j → (j : Int) ≤ μ (10 + n) 0 → SE μ n i n j
  | 0, h, _ => by
    have : i = 0 := by omega
    subst this
    exact SE_r
  | j + 1, h, h2 => by
    by_cases c : i = j + 1
    · subst c; exact SE_r
    · exact SE_le G hn hn hn (GM_m G hn j (by omega) (by omega)) (SL_e (GM_s G hn (by omega)))
theorem GM_l {μ : pm_T} (G : GM μ) {n i j : Nat} (hn : (n : Int) < μ 0 7) (h : i < j) (h2 : (j : Int) ≤ μ (10 + n) 0) : SL μ n i n j :=
  SL_le G hn hn hn (GM_s G hn (by omega)) (GM_m G hn j (by omega) h2)
/-- the events ahead of bar b, behind the last all -/
def brE (μ : pm_T) (n b : Nat) : Nat := if (b : Int) < μ (10 + n) 1 then (μ (100 + 40 * n + 30) b).toNat else (μ (10 + n) 0).toNat
theorem brE_b {μ : pm_T} (G : GM μ) {n b : Nat} (hn : (n : Int) < μ 0 7) : (brE μ n b : Int) ≤ μ (10 + n) 0 := by
  have h := (G.1.2 n hn).2.2.1 b
  have := (G.2.2 n hn).1
  unfold brE
  split
  · rename_i c
    have := h c
    omega
  · omega
theorem brE_m {μ : pm_T} (G : GM μ) {n b : Nat} (hn : (n : Int) < μ 0 7) : brE μ n b ≤ brE μ n (b + 1) := by
  have H := G.1.2 n hn
  have M := (G.2.2 n hn).1
  have B := brE_b G (b := b) hn
  have c0 := H.2.2.1 b
  have c1 := H.2.2.1 (b + 1)
  unfold brE at *
  split
  · rename_i h
    rw [if_pos h] at B
    have c0 := c0 h
    split
    · rename_i h2
      have c1 := c1 h2
      by_cases c : μ (100 + 40 * n + 30) (b + 1) < μ (10 + n) 0
      · obtain ⟨e, he⟩ : ∃ e : Nat, μ (100 + 40 * n + 30) (b + 1) = e := ⟨(μ (100 + 40 * n + 30) (b + 1)).toNat, by omega⟩
        have x := (H.2.2.2 e (by omega)).2
        have x1 := (x (b + 1) h2).mp (by omega)
        have x2 := (x b h).mpr (by omega)
        omega
      · omega
    · omega
  · split <;> omega
