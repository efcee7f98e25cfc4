/-! ===== the reference: a voice, an item ===== -/
theorem WM_Jb : ∀ a k, WM a k → WJb a k := fun a k q => Or.inl (WM_J a k q)
theorem WV_Jc : ∀ a k, WVm a k → a ≤ 184 ∨ 201 ≤ a := fun a k w => by omega
theorem t_MD_voiceItem {G : cx_T} {s : Nat} {h : ah_T} {X : tx_T} {i : Nat} {μ : pm_T} (hb0 : hb s h) (hA : XA X) (H : RMs X i μ h) (hR : RH μ h) (HV : RVw μ h) (hk : tK X.2.2.1 i = 262) :
    con G 6 0 0 m_MD_voiceItem [av_R (some 170)] h (QIm s X (sp_voice X.2.2.1 i μ) h) := by
  have b7 := H.2.1.2.1.2.2.2.2
  have h172 := H.2.1.1.2.2.2.2.2.2
  obtain ⟨n, hn⟩ : ∃ n : Nat, μ 0 7 = (n : Int) := ⟨(μ 0 7).toNat, by omega⟩
  have en : (μ 0 7).toNat = n := by omega
  generalize et : X.2.2.1 = t at *
  have e3 : sp_voice t i μ = if μ 0 7 < 4 then bnd (sp_parts t 3000 (i + 1) par0) (fun q => if 2000 < walk q.2 0 0 ∨ 300 < walk q.2 0 1 ∨ 100 < walk q.2 0 2 then .inl (3, tP t i) else if walk q.2 0 3 = 0 then .inr (q.1 + 1, addV μ q.2 (walk q.2)) else .inl (6, tP t i)) else .inl (3, tP t i) := rfl
  generalize sp_voice t i μ = RR at e3 ⊢
  generalize ep : sp_parts t 3000 (i + 1) par0 = Rp at e3
  refine c_MD_voiceItem (X45 := fun v1 hh => v1 = tP t i ∧ μ 0 7 < 4 ∧ fr WJb h hh ∧ RH μ hh ∧ RVw μ hh ∧ ∃ (j f : Nat) (π : pm_T), VEm X j μ π hh ∧ (f : Int) + π 0 0 = 2999 ∧ Rp = sp_parts t (f + 1) j π) ?_ hb0 ?_
  · refine lp_MD_voiceItem_45 _ (fun _ hh => (2100 - hh.2.1 170 43).toNat) ?_
    rintro v1 hh hb1 ⟨rfl, h4, hf, hR1, HV1, j, f, π, V, hfu, er⟩
    rw [if_pos h4] at e3
    obtain ⟨Hj, Rj, Pj, Wj, Mj, hpj⟩ := id V
    have hj2 := RMs_i hA Hj
    have p0 := Pj.1.1
    have p1 := Pj.1.2.1
    have k61 : ¬ (tK t j = 59 ∧ π 0 1 ≤ 0) → B_MD_voiceItem_61 G s (tP t i) hh (QIm s X RR h) (fun v1' h' => (v1' = tP t i ∧ μ 0 7 < 4 ∧ fr WJb h h' ∧ RH μ h' ∧ RVw μ h' ∧ ∃ (j f : Nat) (π : pm_T), VEm X j μ π h' ∧ (f : Int) + π 0 0 = 2999 ∧ Rp = sp_parts t (f + 1) j π) ∧ (2100 - h'.2.1 170 43).toNat < (2100 - hh.2.1 170 43).toNat) := by
      intro hc
      rw [sp_parts_e hc] at er
      unfold B_MD_voiceItem_61
      refine con_mono (t_MD_voicePart hb1 hA V) ?_
      rw [et]
      rintro r h1 ⟨z, rfl, hb2, f2, z01, p⟩
      have ff : fr WJb h h1 := fr_t hf f2 WV_J
      refine ⟨z, rfl, hb2, fun z0 => ?_, fun z1 => ?_⟩
      · rcases e : sp_part t j π with q | q
        · rw [e] at p er
          refine ⟨0, rfl, hb2, ff, Or.inl rfl, ?_⟩
          rw [e3, er]; exact ⟨rfl, p.2⟩
        · rw [e] at p; exact absurd p.1 (by omega)
      · rcases e : sp_part t j π with q | q
        · rw [e] at p; exact absurd p.1 z1
        · rw [e] at p er
          obtain ⟨-, V'⟩ := p
          have k0 := sp_part_0 Pj e
          obtain ⟨f', rfl⟩ : ∃ f', f = f' + 1 := ⟨f - 1, by omega⟩
          refine ⟨⟨rfl, h4, ff, RH_f hR1 f2 (fun k h1 h2 w => by omega), RVw_V HV1 f2 WV_Jc, q.1, f', q.2, V', by omega, er⟩, ?_⟩
          have := V'.2.1.1
          rw [this, Rj.1, k0]; omega
    unfold B_MD_voiceItem_45
    intro x1 e1 _ _
    have ex1 : x1 = π 0 1 := e1.trans Rj.2.1.1
    refine ⟨fun c => k61 (fun w => by omega), fun c => ?_⟩
    refine con_mono (t_MD_isSign hb1 hA Hj (k := 59) (by unfold isSg; omega)) ?_
    rw [et]
    rintro r h2 ⟨z4, rfl, hb2, rfl, -, z02⟩
    refine ⟨z4, rfl, hb2, fun cz => k61 (fun w => z02.mp cz w.1), fun cz => ?_⟩
    have y59 : tK t j = 59 := Classical.not_not.mp (fun w => cz (z02.mpr w))
    have ed : sp_parts t (f + 1) j π = .inr (j, π) := by rw [sp_parts, if_pos ⟨y59, by omega⟩]
    rw [ed] at er
    have hG := (sp_parts_RG (ep.trans er)).1
    rw [er] at e3
    simp only [bnd] at e3
    refine con_mono (t_MD_walk (n := n) (v := n + 4) hb2 (by rw [Hj.2.1.1.2.2.2.2.2.2, hn]) (by omega) rfl Pj (by omega) Rj hG Mj (by unfold dp; omega) Hj.2.2) ?_
    rintro r h5 ⟨z7, rfl, hb5, f5, q⟩
    have f5J : fr WJb h2 h5 := fr_w f5 (WWf_J (by omega))
    rcases q with ⟨kz, rfl, h11, T⟩ | ⟨kz, rfl, w1, w2⟩
    · refine ⟨1, rfl, hb5, fun d => absurd d (by decide), fun _ x9 e9 _ _ => ?_⟩
      have hw : ¬ (2000 < walk π 0 0 ∨ 300 < walk π 0 1 ∨ 100 < walk π 0 2) ∧ walk π 0 3 = 0 := by
        unfold wkF at kz
        split at kz
        · cases kz
        · rename_i q
          split at kz
          · rename_i q2; exact ⟨q, q2⟩
          · cases kz
      rw [if_neg hw.1, if_pos hw.2] at e3
      have ex9 : x9 = μ 0 7 := by
        rw [e9, fr_g f5 (by omega)]; exact Hj.2.1.1.2.2.2.2.2.2
      refine ⟨⟨by omega, by omega⟩, fun h11' e11 => ?_⟩
      have f11 : fr (fun a k => a = 172 ∧ k = 1) h5 h11' := fr_i fr_0 e11 ⟨rfl, rfl⟩
      have HS : RSn (up2 μ 0 7 (μ 0 7 + 1)) h11' := by
        obtain ⟨⟨a1, a2, a3, a4, a5, a6, a7⟩, ⟨b1, b2, b3, b4, b5⟩, l, ru, ro, na⟩ := RSn_f (W := fun a k => WWf (n + 4) a k) Hj.2.1 f5 (fun a k w => by omega)
        have g : ∀ a k, ¬ (a = 172 ∧ k = 1) → h11'.2.1 a k = h5.2.1 a k := fun a k q => fr_g f11 q
        have o : ∀ a k, ¬ (a = 0 ∧ k = 7) → up2 μ 0 7 (μ 0 7 + 1) a k = μ a k := fun a k q => up2_o q
        refine ⟨⟨?_, ?_, ?_, ?_, ?_, ?_, ?_⟩, ⟨b1, b2, b3, b4, ⟨?_, ?_⟩⟩, fun j hj => ?_, fun j hj => ?_, fun j hj => ?_, fun j hj => ?_⟩
        · rw [g _ _ (by omega), o _ _ (by omega)]; exact a1
        · rw [g _ _ (by omega), o _ _ (by omega)]; exact a2
        · rw [g _ _ (by omega), o _ _ (by omega)]; exact a3
        · rw [g _ _ (by omega), o _ _ (by omega)]; exact a4
        · rw [g _ _ (by omega), o _ _ (by omega)]; exact a5
        · rw [g _ _ (by omega), o _ _ (by omega)]; exact a6
        · rw [mv_i e11, up2_at, ex9]
        · rw [up2_at]; omega
        · rw [up2_at]; omega
        · rw [g _ _ (by omega), o _ _ (by omega)]; exact l j hj
        · rw [g _ _ (by omega), g _ _ (by omega), g _ _ (by omega), o _ _ (by omega), o _ _ (by omega), o _ _ (by omega)]; exact ru j hj
        · rw [g _ _ (by omega), o _ _ (by omega)]; exact ro j hj
        · rw [fr_gl f11 (by omega), o _ _ (by omega)]; exact na j hj
      have HM : RMs X j (addV μ π (walk π)) h11' := ⟨RMt_f (RMt_f Hj.1 f5 (fun a k w => by omega)) f11 (fun a k w => by omega), RSn_v HS, by rw [fr_g f11 (by omega)]; exact h11⟩
      refine con_mono (t_MD_step (hb_i hb5 e11) hA HM (by rw [et, y59]; exact ⟨by decide, by decide⟩)) ?_
      rintro r h13 ⟨z, rfl, hb13, f13, H13, rfl⟩
      have fJ : fr WJb h2 h13 := fr_t (fr_t f5J f11 (fun a k w => Or.inl (Or.inr (Or.inl ⟨by omega, w.2⟩)))) f13 WM_Jb
      refine ⟨1, rfl, hb13, Or.inr rfl, 1, rfl, hb13, fr_t hf fJ (fun _ _ w => w), Or.inr rfl, ?_⟩
      rw [e3]
      refine ⟨rfl, H13, ?_, fun m hm => ?_⟩
      · have r5 := RH_f hR1 f5 (fun k h1 h2 w => by omega)
        have r11 := RH_f r5 f11 (fun k h1 h2 w => by omega)
        have r13 := RH_f r11 f13 (fun k h1 h2 w => by omega)
        have goal : RH (addV μ π (walk π)) h13 := by
          unfold RH at r13 ⊢
          rw [addV_o (by decide) (by omega), addV_o (by decide) (by omega), addV_o (by decide) (by omega)]
          exact r13
        exact goal
      · have e7 : addV μ π (walk π) 0 7 = μ 0 7 + 1 := addV_7
        by_cases c : m = n
        · subst c
          have T13 := RVm_w (μ := μ) en.symm T Pj
          have : 4 + m = m + 4 := by omega
          rw [this]
          exact RVm_g T13 (fun a k q => by unfold vcel at q; exact ⟨by rw [fr_g f13 (by omega), fr_g f11 (by omega)], by rw [fr_gl f13 (by omega), fr_gl f11 (by omega)]⟩)
        · have hm2 : (m : Int) < μ 0 7 := by
            have hm' : (m : Int) < addV μ π (walk π) 0 7 := hm
            omega
          have V5 := RVm_g (HV1 m hm2) (h' := h5) (fun a k q => by
            have nn : ¬ WWf (n + 4) a k := fun w => WWf_c (v := n + 4) (w := 4 + m) (by omega) w q
            exact ⟨fr_g f5 nn, fr_gl f5 nn⟩)
          have V13 := RVm_g V5 (h' := h13) (fun a k q => by unfold vcel at q; exact ⟨by rw [fr_g f13 (by omega), fr_g f11 (by omega)], by rw [fr_gl f13 (by omega), fr_gl f11 (by omega)]⟩)
          exact RVm_m V13 (fun a k q => addV_b (n := m) (by omega) q (by omega))
    · refine ⟨0, rfl, hb5, fun _ => ⟨0, rfl, hb5, fr_t hf f5J (fun _ _ w => w), Or.inl rfl, ?_⟩, fun d => absurd rfl d⟩
      have : RR = .inl (wkF π, tP t i) := by
        rw [e3]
        unfold wkF
        split
        · rfl
        · rename_i q
          split
          · rename_i q2
            exfalso; apply kz; unfold wkF; rw [if_neg q, if_pos q2]
          · rfl
      rw [this]
      exact ⟨rfl, w1, w2⟩
  · unfold B_MD_voiceItem_0
    intro x1 e1 _ _ x3 e3' _ _
    have ex1 : x1 = tP t i := by rw [e1, H.1.2.2.1, et]
    have ex3 : x3 = μ 0 7 := e3'.trans h172
    subst ex1
    refine ⟨fun c => ?_, fun c => ?_⟩
    · rw [if_neg (by omega)] at e3
      refine con_mono (t_MD_wrong hb0 H.2.2) ?_
      rintro r h' ⟨z, rfl, hb2, f2, rfl, w1, w2⟩
      exact ⟨0, rfl, hb2, Or.inl rfl, 0, rfl, hb2, fr_w f2 WJ_b, Or.inl rfl, by rw [e3]; exact ⟨rfl, w1, w2⟩⟩
    · refine con_mono (t_MD_step hb0 hA H (by rw [et, hk]; exact ⟨by decide, by decide⟩)) ?_
      rintro r h4 ⟨z, rfl, hb4, f4, H4, rfl⟩
      refine ⟨1, rfl, hb4, fun h7 e7 h9 e9 h11 e11 => ?_⟩
      have f11 : fr (fun a k => a = 170 ∧ (k = 43 ∨ k = 63 ∨ k = 64)) h4 h11 := fr_i (fr_i (fr_i fr_0 e7 (by omega)) e9 (by omega)) e11 (by omega)
      have fJ : fr WJb h h11 := fr_t (fr_w f4 WM_Jb) f11 (fun a k w => Or.inl (Or.inl ⟨w.1, Or.inr (by omega)⟩))
      refine ⟨rfl, by omega, fJ, RH_f (RH_M hR f4) f11 (fun k h1 h2 w => by omega), RVw_V (RVw_V HV f4 (fun a k w => by omega)) f11 (fun a k w => by omega), i + 1, 2999, par0, ⟨RMs_V H4 f11 (fun a k w => by omega), ⟨?_, ⟨?_, ?_⟩, fun d hd => absurd hd (by show ¬ (d : Int) < 0; omega), fun j hj => absurd hj (by show ¬ (j : Int) < 0; omega)⟩, PW_0, WC_0, MKm_0, by show (0 : Int) + 1 ≤ ((i + 1 : Nat) : Int); omega⟩, by decide, ep.symm⟩
      · rw [mm_i e11 (by omega), mm_i e9 (by omega), mv_i e7]; rfl
      · rw [mm_i e11 (by omega), mv_i e9]; rfl
      · rw [mv_i e11]; rfl

/-! ===== the reference: a text read ===== -/
theorem TkA_s {T : Nat → Int} {n : Nat} {t : tk_T} {m : Nat} {a b : Nat → Nat} (H : TkA T n t m a b) {i : Nat} : ∀ j, i < j → j < m → a i < a j
  | 0, h, _ => absurd h (Nat.not_lt_zero _)
  | j + 1, h, hm => by
    obtain ⟨g, s⟩ := H.2.2.1 j hm
    obtain ⟨h1, h2, h3, h4⟩ := H.2.1 j (by omega)
    have hs := s.1.1
    have key : a j < a (j + 1) := by
      rcases Nat.lt_or_ge (a j) n with w | w
      · have := (Tok_lt (h4 w).1 w g.2).1; omega
      · exact absurd (h3 (by omega)).1 g.1
    by_cases c : i = j
    · subst c; exact key
    · have := TkA_s (i := i) H j (by omega) (by omega); omega
def PRm (X : tx_T) (R : F_T ⊕ pm_T) (z : Int) (h' : ah_T) : Prop := match R with
  | .inl q => z = 0 ∧ q.1 ≠ 0 ∧ h'.2.1 170 11 = q.1 ∧ h'.2.1 170 12 = q.2
  | .inr μ => z = 1 ∧ ∃ i, RMs X i μ h' ∧ RVw μ h'
theorem PIm_of {s : Nat} {X : tx_T} {μ : pm_T} {R : F_T ⊕ (Nat × pm_T)} {z : Int} {h h' : ah_T} (HV : RVw μ h) (f : fr WJ h h') (k : ∀ q, R = .inr q → kr μ q.2) (p : PBm X R z h') : PIm X R z h' := by
  rcases R with q | q
  · exact p
  · obtain ⟨e, H, Hr⟩ := p
    have kk := k q rfl
    have HV' := RVw_V HV f WJ_c
    exact ⟨e, H, Hr, fun n hn => RVm_m (HV' n (by have := kk.1; omega)) (fun a j w => kk.2.1 a j (by unfold vrow at w; omega))⟩
theorem t_MD_parse {G : cx_T} {s : Nat} {h : ah_T} {X : tx_T} (hb0 : hb s h) (hA : XA X) (hM : MT X.1 X.2.1 h) (h3 : h.2.1 170 3 = 0) (h11 : h.2.1 170 11 = 0) :
    con G 7 0 0 m_MD_parse [av_R (some 170)] h (fun r h' => ∃ z, r = some (av_I z) ∧ hb s h' ∧ fr WJb h h' ∧ (z = 0 ∨ z = 1) ∧ PRm X (sp_score X.2.2.1) z h') := by
  have hn := hM.2.1
  have hm0 := hA.2.2.2.2
  generalize es : sp_score X.2.2.1 = R
  refine c_MD_parse (X69 := fun hh => fr WJb h hh ∧ ∃ (j f : Nat) (μ : pm_T), RMs X j μ hh ∧ RH μ hh ∧ RVw μ hh ∧ 2999 ≤ f + j ∧ R = sp_items X.2.2.1 (f + 1) j μ) ?_ hb0 ?_
  · refine lp_MD_parse_69 _ (fun hh => (2001 - hh.2.1 170 5).toNat) ?_
    rintro hh hb1 ⟨hf, j, f, μ, Hj, Hr, HV, hfu, er⟩
    have hj2 := RMs_i hA Hj
    have jm := Hj.1.2.1
    have e5 : hh.2.1 170 5 = (X.2.2.2.2.1 j : Int) := Hj.1.2.2.1.trans (hA.2.1 j jm).1
    have a5 := (TkA_a hA j jm).2
    generalize et : X.2.2.1 = t at *
    unfold B_MD_parse_69
    intro x1 e1 _ _
    have k0 : x1 = 0 ↔ tK t j = 256 := by rw [e1, Hj.1.2.2.2.1, et]; exact ek_0
    refine ⟨fun c => ?_, fun c => ?_⟩
    · rw [sp_items, if_pos (k0.mp c)] at er
      exact ⟨1, rfl, hb1, hf, Or.inr rfl, by rw [er]; exact ⟨rfl, j, Hj, HV⟩⟩
    have n256 : ¬ tK t j = 256 := fun w => c (k0.mpr w)
    rw [sp_items_e n256] at er
    obtain ⟨f', rfl⟩ : ∃ f', f = f' + 1 := ⟨f - 1, by omega⟩
    -- behind an item
    have nx : ∀ (h1 : ah_T) (z : Int), hb s h1 → fr WJb hh h1 → (z = 0 ∨ z = 1) → PIm X (sp_item t j μ) z h1 → B_MD_parse_161 G s z h1 (fun r h' => ∃ z, r = some (av_I z) ∧ hb s h' ∧ fr WJb h h' ∧ (z = 0 ∨ z = 1) ∧ PRm X R z h') (fun h' => (fr WJb h h' ∧ ∃ (j f : Nat) (μ : pm_T), RMs X j μ h' ∧ RH μ h' ∧ RVw μ h' ∧ 2999 ≤ f + j ∧ R = sp_items t (f + 1) j μ) ∧ (2001 - h'.2.1 170 5).toNat < (2001 - hh.2.1 170 5).toNat) := by
      intro h1 z hb2 f1 z01 p
      have ff := fr_t hf f1 (fun _ _ w => w)
      unfold B_MD_parse_161
      rcases e : sp_item t j μ with q | q
      · rw [e] at p er
        obtain ⟨rfl, w1, w2⟩ := p
        refine ⟨fun _ => ⟨0, rfl, hb2, ff, Or.inl rfl, ?_⟩, fun d => absurd rfl d⟩
        rw [er]
        exact ⟨rfl, NF_item q e, w1, w2⟩
      · rw [e] at p er
        obtain ⟨rfl, H1, Hr1, HV1⟩ := p
        have ii := item_i e
        have q5 : h1.2.1 170 5 = (X.2.2.2.2.1 q.1 : Int) := H1.1.2.2.1.trans (hA.2.1 q.1 H1.1.2.1).1
        have lt := TkA_s hA (i := j) q.1 (by omega) H1.1.2.1
        refine ⟨fun d => absurd d (by decide), fun _ => ⟨⟨ff, q.1, f', q.2, H1, Hr1, HV1, by omega, er⟩, ?_⟩⟩
        rw [q5, e5]; omega
    have gkj : ∀ k : Int, 261 ≤ k → tK t j = k → gk (tK t j) := fun k hk w => ⟨by omega, by omega⟩
    refine con_mono (t_MD_isWord hb1 Hj (k := 0) (by omega)) ?_
    rw [et]
    rintro r h2 ⟨z4, rfl, hb2, rfl, -, z02⟩
    refine ⟨z4, rfl, hb2, fun c0 => ?_, fun c0 => ?_⟩
    case refine_2 =>
      have y : tK t j = 261 := by have := Classical.not_not.mp (fun w => c0 (z02.mpr w)); omega
      have ei : sp_item t j μ = sp_time t j μ := by unfold sp_item; rw [if_pos y]
      refine con_mono (t_MD_timeItem hb2 hA Hj Hr (by rw [et]; exact gkj 261 (by omega) y)) ?_
      rw [et]
      rintro r h3 ⟨z, rfl, hb3, f3, z01, p3⟩
      exact ⟨z, rfl, hb3, nx h3 z hb3 (fr_w f3 WJ_b) z01 (by rw [ei]; exact PIm_of (s := s) HV f3 (fun q e => time_k e) p3)⟩
    have n261 : ¬ tK t j = 261 := by have := z02.mp c0; omega
    refine con_mono (t_MD_isWord hb2 Hj (k := 1) (by omega)) ?_
    rw [et]
    rintro r h5 ⟨z7, rfl, hb5, rfl, -, z03⟩
    refine ⟨z7, rfl, hb5, fun c1 => ?_, fun c1 => ?_⟩
    case refine_2 =>
      have y : tK t j = 262 := by have := Classical.not_not.mp (fun w => c1 (z03.mpr w)); omega
      have ei : sp_item t j μ = sp_voice t j μ := by unfold sp_item; rw [if_neg n261, if_pos y]
      refine con_mono (t_MD_voiceItem hb5 hA Hj Hr HV (by rw [et]; exact y)) ?_
      rw [et]
      rintro r h3 ⟨z, rfl, hb3, f3, z01, p3⟩
      exact ⟨z, rfl, hb3, nx h3 z hb3 f3 z01 (by rw [ei]; exact p3)⟩
    have n262 : ¬ tK t j = 262 := by have := z03.mp c1; omega
    refine con_mono (t_MD_isWord hb5 Hj (k := 2) (by omega)) ?_
    rw [et]
    rintro r h8 ⟨z10, rfl, hb8, rfl, -, z04⟩
    refine ⟨z10, rfl, hb8, fun c2 => ?_, fun c2 => ?_⟩
    case refine_2 =>
      have y : tK t j = 263 := by have := Classical.not_not.mp (fun w => c2 (z04.mpr w)); omega
      have ei : sp_item t j μ = sp_line t j μ := by unfold sp_item; rw [if_neg n261, if_neg n262, if_pos y]
      refine con_mono (t_MD_lineItem hb8 hA Hj Hr (by rw [et]; exact gkj 263 (by omega) y)) ?_
      rw [et]
      rintro r h3 ⟨z, rfl, hb3, f3, z01, p3⟩
      exact ⟨z, rfl, hb3, nx h3 z hb3 (fr_w f3 WJ_b) z01 (by rw [ei]; exact PIm_of (s := s) HV f3 (fun q e => line_k e) p3)⟩
    have n263 : ¬ tK t j = 263 := by have := z04.mp c2; omega
    refine con_mono (t_MD_isWord hb8 Hj (k := 3) (by omega)) ?_
    rw [et]
    rintro r h11' ⟨z13, rfl, hb11, rfl, -, z05⟩
    refine ⟨z13, rfl, hb11, fun c3 => ?_, fun c3 => ?_⟩
    case refine_2 =>
      have y : tK t j = 264 := by have := Classical.not_not.mp (fun w => c3 (z05.mpr w)); omega
      have ei : sp_item t j μ = sp_rule t j μ := by unfold sp_item; rw [if_neg n261, if_neg n262, if_neg n263, if_pos y]
      refine con_mono (t_MD_ruleItem hb11 hA Hj Hr (by rw [et]; exact gkj 264 (by omega) y)) ?_
      rw [et]
      rintro r h3 ⟨z, rfl, hb3, f3, z01, p3⟩
      exact ⟨z, rfl, hb3, nx h3 z hb3 (fr_w f3 WJ_b) z01 (by rw [ei]; exact PIm_of (s := s) HV f3 (fun q e => rule_k e) p3)⟩
    have n264 : ¬ tK t j = 264 := by have := z05.mp c3; omega
    refine con_mono (t_MD_isWord hb11 Hj (k := 4) (by omega)) ?_
    rw [et]
    rintro r h14 ⟨z16, rfl, hb14, rfl, -, z06⟩
    refine ⟨z16, rfl, hb14, fun c4 => ?_, fun c4 => ?_⟩
    case refine_2 =>
      have y : tK t j = 265 := by have := Classical.not_not.mp (fun w => c4 (z06.mpr w)); omega
      have ei : sp_item t j μ = sp_row t j μ := by unfold sp_item; rw [if_neg n261, if_neg n262, if_neg n263, if_neg n264, if_pos y]
      refine con_mono (t_MD_rowItem hb14 hA Hj Hr (by rw [et]; exact gkj 265 (by omega) y)) ?_
      rw [et]
      rintro r h3 ⟨z, rfl, hb3, f3, z01, p3⟩
      exact ⟨z, rfl, hb3, nx h3 z hb3 (fr_w f3 WJ_b) z01 (by rw [ei]; exact PIm_of (s := s) HV f3 (fun q e => row_k e) p3)⟩
    have n265 : ¬ tK t j = 265 := by have := z06.mp c4; omega
    have ei : sp_item t j μ = .inl (cn t j) := by unfold sp_item; rw [if_neg n261, if_neg n262, if_neg n263, if_neg n264, if_neg n265]
    refine con_mono (t_MD_cantk hb14 Hj) ?_
    rw [et]
    rintro r h3 ⟨z, rfl, hb3, f3, rfl, q1, q2⟩
    exact ⟨0, rfl, hb3, nx h3 0 hb3 (fr_w f3 (fun a k w => WJ_b a k (WK_J a k w))) (Or.inl rfl) (by rw [ei]; exact ⟨rfl, q1, q2⟩)⟩
  · unfold B_MD_parse_0
    intro h2 e2 h5 e5 h8 e8 h11' e11 h14 e14 h17 e17 h20 e20 h22 e22 h24 e24 h26 e26
    have w17 : ∀ a, (a = 172 ∨ a = 173 ∨ a = 174 ∨ a = 175 ∨ a = 177 ∨ a = 181 ∨ a = 183) → WJ a 1 := fun a q => Or.inr (Or.inl ⟨q, rfl⟩)
    have w170 : ∀ k, 59 ≤ k → k ≤ 61 → WJ 170 k := fun k q1 q2 => Or.inl ⟨rfl, Or.inr (by omega)⟩
    have f26 : fr WJ h h26 := fr_i (fr_i (fr_i (fr_i (fr_i (fr_i (fr_i (fr_i (fr_i (fr_i fr_0 e2 (w17 _ (by omega))) e5 (w17 _ (by omega))) e8 (w17 _ (by omega))) e11 (w17 _ (by omega))) e14 (w17 _ (by omega))) e17 (w17 _ (by omega))) e20 (w17 _ (by omega))) e22 (w170 _ (by omega) (by omega))) e24 (w170 _ (by omega) (by omega))) e26 (w170 _ (by omega) (by omega))
    have fs : fr (fun a k => (172 ≤ a ∧ a ≤ 183 ∧ k = 1) ∨ (a = 170 ∧ 59 ≤ k ∧ k ≤ 61)) h h26 := fr_i (fr_i (fr_i (fr_i (fr_i (fr_i (fr_i (fr_i (fr_i (fr_i fr_0 e2 (by omega)) e5 (by omega)) e8 (by omega)) e11 (by omega)) e14 (by omega)) e17 (by omega)) e20 (by omega)) e22 (by omega)) e24 (by omega)) e26 (by omega)
    have hb26 : hb s h26 := hb_i (hb_i (hb_i (hb_i (hb_i (hb_i (hb_i (hb_i (hb_i (hb_i hb0 e2) e5) e8) e11) e14) e17) e20) e22) e24) e26
    have M26 : MT X.1 X.2.1 h26 := MT_f hM fs (by omega) (fun j => by omega)
    refine con_mono (t_MD_next0 (p0 := 0) hb26 M26 (by rw [fr_g fs (by omega)]; exact h3) hA hm0 hA.1) ?_
    rintro r h28 ⟨z, rfl, hb28, f28, R28, rfl⟩
    have g : ∀ a k, ¬ (a = 170 ∧ 3 ≤ k ∧ k ≤ 10) → h28.2.1 a k = h26.2.1 a k := fun a k q => fr_g f28 q
    refine ⟨1, rfl, hb28, fr_t (fr_w f26 WJ_b) f28 (fun a k w => WJ_b a k (WM_J a k w)), 0, 2999, sco0, ⟨R28, ⟨⟨?_, ?_, ?_, ?_, ?_, ?_, ?_⟩, ⟨⟨by decide, by decide⟩, ⟨by decide, by decide⟩, ⟨by decide, by decide⟩, ⟨by decide, by decide⟩, by decide, by decide⟩, fun j hj => absurd hj (by show ¬ (j : Int) < 0; omega), fun j hj => absurd hj (by show ¬ (j : Int) < 0; omega), fun j hj => absurd hj (by show ¬ (j : Int) < 0; omega), fun j hj => absurd hj (by show ¬ (j : Int) < 0; omega)⟩, ?_⟩, ⟨?_, ?_, ?_⟩, fun n hn => absurd hn (by show ¬ (n : Int) < 0; omega), by omega, es.symm⟩
    · rw [g _ _ (by omega), mm_i e26 (by omega), mm_i e24 (by omega), mm_i e22 (by omega), mm_i e20 (by omega), mm_i e17 (by omega), mm_i e14 (by omega), mm_i e11 (by omega), mm_i e8 (by omega), mv_i e5]; rfl
    · rw [g _ _ (by omega), mm_i e26 (by omega), mm_i e24 (by omega), mm_i e22 (by omega), mm_i e20 (by omega), mm_i e17 (by omega), mm_i e14 (by omega), mm_i e11 (by omega), mv_i e8]; rfl
    · rw [g _ _ (by omega), mm_i e26 (by omega), mm_i e24 (by omega), mm_i e22 (by omega), mm_i e20 (by omega), mm_i e17 (by omega), mm_i e14 (by omega), mv_i e11]; rfl
    · rw [g _ _ (by omega), mm_i e26 (by omega), mm_i e24 (by omega), mm_i e22 (by omega), mm_i e20 (by omega), mm_i e17 (by omega), mv_i e14]; rfl
    · rw [g _ _ (by omega), mm_i e26 (by omega), mm_i e24 (by omega), mm_i e22 (by omega), mm_i e20 (by omega), mv_i e17]; rfl
    · rw [g _ _ (by omega), mm_i e26 (by omega), mm_i e24 (by omega), mm_i e22 (by omega), mv_i e20]; rfl
    · rw [g _ _ (by omega), mm_i e26 (by omega), mm_i e24 (by omega), mm_i e22 (by omega), mm_i e20 (by omega), mm_i e17 (by omega), mm_i e14 (by omega), mm_i e11 (by omega), mm_i e8 (by omega), mm_i e5 (by omega), mv_i e2]; rfl
    · rw [g _ _ (by omega), fr_g fs (by omega)]; exact h11
    · rw [g _ _ (by omega), mm_i e26 (by omega), mm_i e24 (by omega), mv_i e22]; rfl
    · rw [g _ _ (by omega), mm_i e26 (by omega), mv_i e24]; exact ⟨fun _ => by decide, fun _ => rfl⟩
    · rw [g _ _ (by omega), mv_i e26]; exact ⟨fun _ => by decide, fun _ => rfl⟩

/-! ===== the reference: what is read is kept ===== -/
abbrev WEk (q : Nat) : Nat → Nat → Prop := fun a k => (((187 ≤ a ∧ a ≤ 191) ∨ (194 ≤ a ∧ a ≤ 198)) ∧ k = q) ∨ ((a = 192 ∨ a = 193) ∧ 4 * q ≤ k ∧ k < 4 * q + 4)
theorem t_MD_keepEvent {G : cx_T} {s a b : Nat} {h : ah_T} (hb0 : hb s h) (ha : a < 1200) (eb : b = a + 1200) : con G 0 0 0 m_MD_keepEvent [av_R (some 170), av_I (a : Int), av_I (b : Int)] h (fun r h' => r = none ∧ hb s h' ∧ fr (WEk a) h h' ∧ (h'.2.2.1 187 a = h.2.2.1 187 b ∧ h'.2.2.1 188 a = h.2.2.1 188 b ∧ h'.2.2.1 189 a = h.2.2.1 189 b ∧ h'.2.2.1 190 a = h.2.2.1 190 b) ∧ (h'.2.1 191 a = h.2.1 191 b ∧ h'.2.1 194 a = h.2.1 194 b ∧ h'.2.1 195 a = h.2.1 195 b ∧ h'.2.1 196 a = h.2.1 196 b ∧ h'.2.1 197 a = h.2.1 197 b ∧ h'.2.1 198 a = h.2.1 198 b) ∧ ∀ p : Nat, p < 4 → h'.2.1 192 (4 * a + p) = h.2.1 192 (4 * b + p) ∧ h'.2.1 193 (4 * a + p) = h.2.1 193 (4 * b + p)) := by
  refine c_MD_keepEvent (X62 := fun v3 hh => ∃ p : Nat, v3 = (p : Int) ∧ p ≤ 4 ∧ fr (fun x k => ((187 ≤ x ∧ x ≤ 191) ∧ k = a) ∨ ((x = 192 ∨ x = 193) ∧ 4 * a ≤ k ∧ k < 4 * a + 4)) h hh ∧ (hh.2.2.1 187 a = h.2.2.1 187 b ∧ hh.2.2.1 188 a = h.2.2.1 188 b ∧ hh.2.2.1 189 a = h.2.2.1 189 b ∧ hh.2.2.1 190 a = h.2.2.1 190 b) ∧ hh.2.1 191 a = h.2.1 191 b ∧ ∀ j : Nat, j < p → hh.2.1 192 (4 * a + j) = h.2.1 192 (4 * b + j) ∧ hh.2.1 193 (4 * a + j) = h.2.1 193 (4 * b + j)) ?_ hb0 (fun _ _ => ?_)
  · refine lp_MD_keepEvent_62 (a1 := (a : Int)) (a2 := (b : Int)) _ (fun v3 _ => (4 - v3).toNat) ?_
    rintro v3 hh hb1 ⟨p, rfl, hp4, f, c1, c2, c3⟩
    unfold B_MD_keepEvent_62
    rw [tn_c, tn_c]
    have g : ∀ x k, (194 ≤ x ∧ x ≤ 198) → hh.2.1 x k = h.2.1 x k := fun x k q => fr_g f (by omega)
    refine ⟨fun c => ⟨⟨by omega, by omega⟩, fun x3 e3 _ _ => ⟨⟨by omega, by omega⟩, fun h6 e6 x10 e10 hx => ?_⟩⟩, fun c => ⟨⟨by omega, by omega⟩, ⟨by omega, by omega⟩, ⟨by omega, by omega⟩, ⟨by omega, by omega⟩, ⟨by omega, by omega⟩, ?_⟩⟩
    · have ep : p = 4 := by omega
      subst ep
      have E10 : x10 = h.2.1 195 b := by rw [e10, mm_i e6 (by omega), g _ _ (by omega)]
      refine ⟨hx, fun h11 e11 x15 e15 _ _ h16 e16 x20 e20 _ _ h21 e21 x25 e25 _ _ h26 e26 => ?_⟩
      have f26 : fr (fun x k => (194 ≤ x ∧ x ≤ 198) ∧ k = a) hh h26 := fr_i (fr_i (fr_i (fr_i (fr_i fr_0 e6 (by omega)) e11 (by omega)) e16 (by omega)) e21 (by omega)) e26 (by omega)
      refine ⟨rfl, hb_i (hb_i (hb_i (hb_i (hb_i hb1 e6) e11) e16) e21) e26, fr_t (fr_w f (fun x k w => by omega)) f26 (fun x k w => by omega), ?_, ⟨?_, ?_, ?_, ?_, ?_, ?_⟩, fun j hj => ?_⟩
      · rw [fr_gl f26 (by omega), fr_gl f26 (by omega), fr_gl f26 (by omega), fr_gl f26 (by omega)]; exact c1
      · rw [fr_g f26 (by omega)]; exact c2
      · rw [mm_i e26 (by omega), mm_i e21 (by omega), mm_i e16 (by omega), mm_i e11 (by omega), mv_i e6, e3, g _ _ (by omega)]
      · rw [mm_i e26 (by omega), mm_i e21 (by omega), mm_i e16 (by omega), mv_i e11, E10]
      · rw [mm_i e26 (by omega), mm_i e21 (by omega), mv_i e16, e15, mm_i e11 (by omega), mm_i e6 (by omega), g _ _ (by omega)]
      · rw [mm_i e26 (by omega), mv_i e21, e20, mm_i e16 (by omega), mm_i e11 (by omega), mm_i e6 (by omega), g _ _ (by omega)]
      · rw [mv_i e26, e25, mm_i e21 (by omega), mm_i e16 (by omega), mm_i e11 (by omega), mm_i e6 (by omega), g _ _ (by omega)]
      · rw [fr_g f26 (by omega), fr_g f26 (by omega)]; exact c3 j hj
    · have ek : (4 * (b : Int) + (p : Int)).toNat = 4 * b + p := by omega
      have ek2 : (4 * (a : Int) + (p : Int)).toNat = 4 * a + p := by omega
      rw [ek, ek2]
      intro x34 e34 _ _
      refine ⟨⟨by omega, by omega⟩, fun h37 e37 x41 e41 _ _ h42 e42 => ⟨⟨by omega, by omega⟩, ⟨p + 1, by omega, by omega, fr_i (fr_i f e37 (by omega)) e42 (by omega), ?_, ?_, fun j hj => ?_⟩, by omega⟩⟩
      · rw [show h42.2.2.1 = hh.2.2.1 by rw [e42, e37]; rfl]; exact c1
      · rw [mm_i e42 (by omega), mm_i e37 (by omega)]; exact c2
      · by_cases cj : j = p
        · subst cj
          rw [mm_i e42 (by omega), mv_i e37, mv_i e42, e34, e41, mm_i e37 (by omega), fr_g f (by omega), fr_g f (by omega)]
          exact ⟨rfl, rfl⟩
        · rw [mm_i e42 (by omega), mm_i e37 (by omega), mm_i e42 (by omega), mm_i e37 (by omega)]
          exact c3 j (by omega)
  · unfold B_MD_keepEvent_0
    rw [tn_c, tn_c]
    refine ⟨⟨by omega, by omega⟩, fun x3 e3 _ _ => ⟨⟨by omega, by omega⟩, fun h6 e6 x10 e10 _ _ h11 e11 x15 e15 _ _ h16 e16 x20 e20 _ _ h21 e21 x25 e25 _ _ h26 e26 => ⟨0, rfl, by decide, fr_i (fr_l (fr_l (fr_l (fr_l fr_0 e6 (by omega)) e11 (by omega)) e16 (by omega)) e21 (by omega)) e26 (by omega), ⟨?_, ?_, ?_, ?_⟩, ?_, fun j hj => absurd hj (Nat.not_lt_zero j)⟩⟩⟩
    · rw [mm_io e26, mm_l e21 (by omega), mm_l e16 (by omega), mm_l e11 (by omega), mv_l e6, e3]
    · rw [mm_io e26, mm_l e21 (by omega), mm_l e16 (by omega), mv_l e11, e10, mm_l e6 (by omega)]
    · rw [mm_io e26, mm_l e21 (by omega), mv_l e16, e15, mm_l e11 (by omega), mm_l e6 (by omega)]
    · rw [mm_io e26, mv_l e21, e20, mm_l e16 (by omega), mm_l e11 (by omega), mm_l e6 (by omega)]
    · rw [mv_i e26, e25, mm_lo e21, mm_lo e16, mm_lo e11, mm_lo e6]
/-- the score that is kept, in the first half of the rows -/
def KSn (μ : pm_T) (h : ah_T) : Prop := (h.2.1 172 0 = μ 0 7 ∧ h.2.1 175 0 = μ 0 3 ∧ h.2.1 177 0 = μ 0 4 ∧ h.2.1 181 0 = μ 0 5) ∧
  ((0 ≤ μ 0 3 ∧ μ 0 3 ≤ 8) ∧ (0 ≤ μ 0 4 ∧ μ 0 4 ≤ 24) ∧ (0 ≤ μ 0 5 ∧ μ 0 5 ≤ 12) ∧ (0 ≤ μ 0 7 ∧ μ 0 7 ≤ 4)) ∧
  (∀ j : Nat, (j : Int) < μ 0 3 → h.2.1 176 j = μ 1 j) ∧ (∀ j : Nat, (j : Int) < μ 0 4 → h.2.1 178 j = μ 2 j ∧ h.2.1 179 j = μ 3 j ∧ h.2.1 180 j = nz (μ 4 j)) ∧ (∀ j : Nat, (j : Int) < μ 0 5 → h.2.1 182 j = μ 5 j) ∧ ∀ n : Nat, (n : Int) < μ 0 7 → RVm μ n n h
abbrev WKk : Nat → Nat → Prop := fun a k => ((a = 172 ∨ a = 173 ∨ a = 174 ∨ a = 175 ∨ a = 177 ∨ a = 181 ∨ a = 183) ∧ k = 0) ∨ (a = 176 ∧ k < 8) ∨ ((178 ≤ a ∧ a ≤ 180) ∧ k < 24) ∨ (a = 182 ∧ k < 12) ∨ ((a = 185 ∨ a = 186) ∧ k < 4) ∨ (((187 ≤ a ∧ a ≤ 191) ∨ (194 ≤ a ∧ a ≤ 198)) ∧ k < 1200) ∨ ((a = 192 ∨ a = 193) ∧ k < 4800) ∨ ((a = 199 ∨ a = 200) ∧ k < 408)
/-- a voice, as far as it is copied: the counts, nb bars, ne events -/
def VCp (μ : pm_T) (w nb ne : Nat) (h : ah_T) : Prop := (h.2.1 185 w = μ (10 + w) 0 ∧ h.2.1 186 w = μ (10 + w) 1) ∧ (∀ e : Nat, e < ne → RVd μ (100 + 40 * w) (300 * w + e) e h) ∧
  (∀ b : Nat, (b : Int) < μ (10 + w) 1 → b < nb → h.2.2.1 199 (102 * w + b) = smT μ w (μ (100 + 40 * w + 30) b).toNat ∧ h.2.2.1 200 (102 * w + b) = smB μ w (μ (100 + 40 * w + 30) b).toNat) ∧ ((μ (10 + w) 1).toNat < nb → h.2.2.1 199 (102 * w + (μ (10 + w) 1).toNat) = μ (100 + 40 * w + 31) 0 ∧ h.2.2.1 200 (102 * w + (μ (10 + w) 1).toNat) = μ (100 + 40 * w + 31) 1)
theorem RVd_g {μ : pm_T} {R q e : Nat} {h h' : ah_T} (H : RVd μ R q e h) (g : ∀ a, 187 ≤ a → a ≤ 198 → h'.2.1 a q = h.2.1 a q ∧ h'.2.2.1 a q = h.2.2.1 a q) (g2 : ∀ a k, (a = 192 ∨ a = 193) → 4 * q ≤ k → k < 4 * q + 4 → h'.2.1 a k = h.2.1 a k) : RVd μ R q e h' := by
  obtain ⟨y1, y2, y3, y4⟩ := H
  unfold RVd
  rw [(g 191 (by decide) (by decide)).1, (g 195 (by decide) (by decide)).1, (g 196 (by decide) (by decide)).1, (g 197 (by decide) (by decide)).1, (g 198 (by decide) (by decide)).1, (g 194 (by decide) (by decide)).1, (g 187 (by decide) (by decide)).2, (g 188 (by decide) (by decide)).2, (g 189 (by decide) (by decide)).2, (g 190 (by decide) (by decide)).2]
  refine ⟨y1, y2, y3, fun p hp => ?_⟩
  rw [g2 192 _ (Or.inl rfl) (by omega) (by omega), g2 193 _ (Or.inr rfl) (by omega) (by omega)]
  exact y4 p hp
theorem VCp_end {μ : pm_T} {w : Nat} {h : ah_T} (H : VCp μ w 102 (μ (10 + w) 0).toNat h) (b : (0 ≤ μ (10 + w) 0 ∧ μ (10 + w) 0 ≤ 300) ∧ 1 ≤ μ (10 + w) 1 ∧ μ (10 + w) 1 ≤ 101) : RVm μ w w h :=
  ⟨H.1, b, fun e he => H.2.1 e (by omega), fun x hx => H.2.2.1 x hx (by omega), H.2.2.2 (by omega)⟩
