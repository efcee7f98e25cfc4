/-! ===== the reference: a voice, an item ===== -/
theorem WM_Jb : ∀ a k, WM a k → WJb a k := fun a k q => Or.inl (WM_J a k q)
theorem WV_Jc : ∀ a k, WVm a k → a ≤ 184 ∨ 201 ≤ a := fun a k w => by omega
theorem t_MD_voiceItem {G : cx_T} {s : Nat} {h : ah_T} {X : tx_T} {i : Nat} {μ : pm_T} (hb0 : hb s h) (hA : XA X) (H : RMs X i μ h) (hR : RH μ h) (HV : RVw μ h) (hk : tK X.2.2.1 i = 262) :
    con G 6 0 0 m_MD_voiceItem [av_R (some 170)] h (QIm s X (sp_voice X.2.2.1 i μ) h) := by
  have b7 := H.2.1.2.1.2.2.2.2
  have h172 := H.2.1.1.2.2.2.2.2.2
  obtain ⟨n, hn⟩ : ∃ n : Nat, μ 0 7 = (n : Int) := ⟨(μ 0 7).toNat, by omega⟩
  have en : (μ 0 7).toNat = n := by omega
  generalize et : X.2.2.1 = t at *
  have e3 : sp_voice t i μ = if μ 0 7 < 4 then bnd (sp_parts t 3000 (i + 1) par0) (fun q => if 2000 < walk q.2 0 0 ∨ 300 < walk q.2 0 1 ∨ 100 < walk q.2 0 2 then .inl (3, tP t i) else if walk q.2 0 3 = 0 then .inr (q.1 + 1, addV μ q.2 (walk q.2)) else .inl (6, tP t i)) else .inl (3, tP t i) := rfl
  generalize sp_voice t i μ = RR at e3 ⊢
  generalize ep : sp_parts t 3000 (i + 1) par0 = Rp at e3
  refine c_MD_voiceItem (X45 := fun v1 hh => v1 = tP t i ∧ μ 0 7 < 4 ∧ fr WJb h hh ∧ RH μ hh ∧ RVw μ hh ∧ ∃ (j f : Nat) (π : pm_T), VEm X j μ π hh ∧ (f : Int) + π 0 0 = 2999 ∧ Rp = sp_parts t (f + 1) j π) ?_ hb0 ?_
  · refine lp_MD_voiceItem_45 _ (fun _ hh => (2100 - hh.2.1 170 43).toNat) ?_
    rintro v1 hh hb1 ⟨rfl, h4, hf, hR1, HV1, j, f, π, V, hfu, er⟩
    rw [if_pos h4] at e3
    obtain ⟨Hj, Rj, Pj, Wj, Mj, hpj⟩ := id V
    have hj2 := RMs_i hA Hj
    have p0 := Pj.1.1
    have p1 := Pj.1.2.1
    have k61 : ¬ (tK t j = 59 ∧ π 0 1 ≤ 0) → B_MD_voiceItem_61 G s (tP t i) hh (QIm s X RR h) (fun v1' h' => (v1' = tP t i ∧ μ 0 7 < 4 ∧ fr WJb h h' ∧ RH μ h' ∧ RVw μ h' ∧ ∃ (j f : Nat) (π : pm_T), VEm X j μ π h' ∧ (f : Int) + π 0 0 = 2999 ∧ Rp = sp_parts t (f + 1) j π) ∧ (2100 - h'.2.1 170 43).toNat < (2100 - hh.2.1 170 43).toNat) := by
      intro hc
      rw [sp_parts_e hc] at er
      unfold B_MD_voiceItem_61
      refine con_mono (t_MD_voicePart hb1 hA V) ?_
      rw [et]
      rintro r h1 ⟨z, rfl, hb2, f2, z01, p⟩
      have ff : fr WJb h h1 := fr_t hf f2 WV_J
      refine ⟨z, rfl, hb2, fun z0 => ?_, fun z1 => ?_⟩
      · rcases e : sp_part t j π with q | q
        · rw [e] at p er
          refine ⟨0, rfl, hb2, ff, Or.inl rfl, ?_⟩
          rw [e3, er]; exact ⟨rfl, p.2⟩
        · rw [e] at p; exact absurd p.1 (by omega)
      · rcases e : sp_part t j π with q | q
        · rw [e] at p; exact absurd p.1 z1
        · rw [e] at p er
          obtain ⟨-, V'⟩ := p
          have k0 := sp_part_0 Pj e
          obtain ⟨f', rfl⟩ : ∃ f', f = f' + 1 := ⟨f - 1, by omega⟩
          refine ⟨⟨rfl, h4, ff, RH_f hR1 f2 (fun k h1 h2 w => by omega), RVw_V HV1 f2 WV_Jc, q.1, f', q.2, V', by omega, er⟩, ?_⟩
          have := V'.2.1.1
          rw [this, Rj.1, k0]; omega
    unfold B_MD_voiceItem_45
    intro x1 e1 _ _
    have ex1 : x1 = π 0 1 := e1.trans Rj.2.1.1
    refine ⟨fun c => k61 (fun w => by omega), fun c => ?_⟩
    refine con_mono (t_MD_isSign hb1 hA Hj (k := 59) (by unfold isSg; omega)) ?_
    rw [et]
    rintro r h2 ⟨z4, rfl, hb2, rfl, -, z02⟩
    refine ⟨z4, rfl, hb2, fun cz => k61 (fun w => z02.mp cz w.1), fun cz => ?_⟩
    have y59 : tK t j = 59 := Classical.not_not.mp (fun w => cz (z02.mpr w))
    have ed : sp_parts t (f + 1) j π = .inr (j, π) := by rw [sp_parts, if_pos ⟨y59, by omega⟩]
    rw [ed] at er
    have hG := (sp_parts_RG (ep.trans er)).1
    rw [er] at e3
    simp only [bnd] at e3
    refine con_mono (t_MD_walk (n := n) (v := n + 4) hb2 (by rw [Hj.2.1.1.2.2.2.2.2.2, hn]) (by omega) rfl Pj (by omega) Rj hG Mj (by unfold dp; omega) Hj.2.2) ?_
    rintro r h5 ⟨z7, rfl, hb5, f5, q⟩
    have f5J : fr WJb h2 h5 := fr_w f5 (WWf_J (by omega))
    rcases q with ⟨kz, rfl, h11, T⟩ | ⟨kz, rfl, w1, w2⟩
    · refine ⟨1, rfl, hb5, fun d => absurd d (by decide), fun _ x9 e9 _ _ => ?_⟩
      have hw : ¬ (2000 < walk π 0 0 ∨ 300 < walk π 0 1 ∨ 100 < walk π 0 2) ∧ walk π 0 3 = 0 := by
        unfold wkF at kz
        split at kz
        · cases kz
        · rename_i q
          split at kz
          · rename_i q2; exact ⟨q, q2⟩
          · cases kz
      rw [if_neg hw.1, if_pos hw.2] at e3
      have ex9 : x9 = μ 0 7 := by
        rw [e9, fr_g f5 (by omega)]; exact Hj.2.1.1.2.2.2.2.2.2
      refine ⟨⟨by omega, by omega⟩, fun h11' e11 => ?_⟩
      have f11 : fr (fun a k => a = 172 ∧ k = 1) h5 h11' := fr_i fr_0 e11 ⟨rfl, rfl⟩
      have HS : RSn (up2 μ 0 7 (μ 0 7 + 1)) h11' := by
        obtain ⟨⟨a1, a2, a3, a4, a5, a6, a7⟩, ⟨b1, b2, b3, b4, b5⟩, l, ru, ro, na⟩ := RSn_f (W := fun a k => WWf (n + 4) a k) Hj.2.1 f5 (fun a k w => by omega)
        have g : ∀ a k, ¬ (a = 172 ∧ k = 1) → h11'.2.1 a k = h5.2.1 a k := fun a k q => fr_g f11 q
        have o : ∀ a k, ¬ (a = 0 ∧ k = 7) → up2 μ 0 7 (μ 0 7 + 1) a k = μ a k := fun a k q => up2_o q
        refine ⟨⟨?_, ?_, ?_, ?_, ?_, ?_, ?_⟩, ⟨b1, b2, b3, b4, ⟨?_, ?_⟩⟩, fun j hj => ?_, fun j hj => ?_, fun j hj => ?_, fun j hj => ?_⟩
        · rw [g _ _ (by omega), o _ _ (by omega)]; exact a1
        · rw [g _ _ (by omega), o _ _ (by omega)]; exact a2
        · rw [g _ _ (by omega), o _ _ (by omega)]; exact a3
        · rw [g _ _ (by omega), o _ _ (by omega)]; exact a4
        · rw [g _ _ (by omega), o _ _ (by omega)]; exact a5
        · rw [g _ _ (by omega), o _ _ (by omega)]; exact a6
        · rw [mv_i e11, up2_at, ex9]
        · rw [up2_at]; omega
        · rw [up2_at]; omega
        · rw [g _ _ (by omega), o _ _ (by omega)]; exact l j hj
        · rw [g _ _ (by omega), g _ _ (by omega), g _ _ (by omega), o _ _ (by omega), o _ _ (by omega), o _ _ (by omega)]; exact ru j hj
        · rw [g _ _ (by omega), o _ _ (by omega)]; exact ro j hj
        · rw [fr_gl f11 (by omega), o _ _ (by omega)]; exact na j hj
      have HM : RMs X j (addV μ π (walk π)) h11' := ⟨RMt_f (RMt_f Hj.1 f5 (fun a k w => by omega)) f11 (fun a k w => by omega), RSn_v HS, by rw [fr_g f11 (by omega)]; exact h11⟩
      refine con_mono (t_MD_step (hb_i hb5 e11) hA HM (by rw [et, y59]; exact ⟨by decide, by decide⟩)) ?_
      rintro r h13 ⟨z, rfl, hb13, f13, H13, rfl⟩
      have fJ : fr WJb h2 h13 := fr_t (fr_t f5J f11 (fun a k w => Or.inl (Or.inr (Or.inl ⟨by omega, w.2⟩)))) f13 WM_Jb
      refine ⟨1, rfl, hb13, Or.inr rfl, 1, rfl, hb13, fr_t hf fJ (fun _ _ w => w), Or.inr rfl, ?_⟩
      rw [e3]
      refine ⟨rfl, H13, ?_, fun m hm => ?_⟩
      · have r5 := RH_f hR1 f5 (fun k h1 h2 w => by omega)
        have r11 := RH_f r5 f11 (fun k h1 h2 w => by omega)
        have r13 := RH_f r11 f13 (fun k h1 h2 w => by omega)
        have goal : RH (addV μ π (walk π)) h13 := by
          unfold RH at r13 ⊢
          rw [addV_o (by decide) (by omega), addV_o (by decide) (by omega), addV_o (by decide) (by omega)]
          exact r13
        exact goal
      · have e7 : addV μ π (walk π) 0 7 = μ 0 7 + 1 := addV_7
        by_cases c : m = n
        · subst c
          have T13 := RVm_w (μ := μ) en.symm T Pj
          have : 4 + m = m + 4 := by omega
          rw [this]
          exact RVm_g T13 (fun a k q => by unfold vcel at q; exact ⟨by rw [fr_g f13 (by omega), fr_g f11 (by omega)], by rw [fr_gl f13 (by omega), fr_gl f11 (by omega)]⟩)
        · have hm2 : (m : Int) < μ 0 7 := by
            have hm' : (m : Int) < addV μ π (walk π) 0 7 := hm
            omega
          have V5 := RVm_g (HV1 m hm2) (h' := h5) (fun a k q => by
            have nn : ¬ WWf (n + 4) a k := fun w => WWf_c (v := n + 4) (w := 4 + m) (by omega) w q
            exact ⟨fr_g f5 nn, fr_gl f5 nn⟩)
          have V13 := RVm_g V5 (h' := h13) (fun a k q => by unfold vcel at q; exact ⟨by rw [fr_g f13 (by omega), fr_g f11 (by omega)], by rw [fr_gl f13 (by omega), fr_gl f11 (by omega)]⟩)
          exact RVm_m V13 (fun a k q => addV_b (n := m) (by omega) q (by omega))
    · refine ⟨0, rfl, hb5, fun _ => ⟨0, rfl, hb5, fr_t hf f5J (fun _ _ w => w), Or.inl rfl, ?_⟩, fun d => absurd rfl d⟩
      have : RR = .inl (wkF π, tP t i) := by
        rw [e3]
        unfold wkF
        split
        · rfl
        · rename_i q
          split
          · rename_i q2
            exfalso; apply kz; unfold wkF; rw [if_neg q, if_pos q2]
          · rfl
      rw [this]
      exact ⟨rfl, w1, w2⟩
  · unfold B_MD_voiceItem_0
    intro x1 e1 _ _ x3 e3' _ _
    have ex1 : x1 = tP t i := by rw [e1, H.1.2.2.1, et]
    have ex3 : x3 = μ 0 7 := e3'.trans h172
    subst ex1
    refine ⟨fun c => ?_, fun c => ?_⟩
    · rw [if_neg (by omega)] at e3
      refine con_mono (t_MD_wrong hb0 H.2.2) ?_
      rintro r h' ⟨z, rfl, hb2, f2, rfl, w1, w2⟩
      exact ⟨0, rfl, hb2, Or.inl rfl, 0, rfl, hb2, fr_w f2 WJ_b, Or.inl rfl, by rw [e3]; exact ⟨rfl, w1, w2⟩⟩
    · refine con_mono (t_MD_step hb0 hA H (by rw [et, hk]; exact ⟨by decide, by decide⟩)) ?_
      rintro r h4 ⟨z, rfl, hb4, f4, H4, rfl⟩
      refine ⟨1, rfl, hb4, fun h7 e7 h9 e9 h11 e11 => ?_⟩
      have f11 : fr (fun a k => a = 170 ∧ (k = 43 ∨ k = 63 ∨ k = 64)) h4 h11 := fr_i (fr_i (fr_i fr_0 e7 (by omega)) e9 (by omega)) e11 (by omega)
      have fJ : fr WJb h h11 := fr_t (fr_w f4 WM_Jb) f11 (fun a k w => Or.inl (Or.inl ⟨w.1, Or.inr (by omega)⟩))
      refine ⟨rfl, by omega, fJ, RH_f (RH_M hR f4) f11 (fun k h1 h2 w => by omega), RVw_V (RVw_V HV f4 (fun a k w => by omega)) f11 (fun a k w => by omega), i + 1, 2999, par0, ⟨RMs_V H4 f11 (fun a k w => by omega), ⟨?_, ⟨?_, ?_⟩, fun d hd => absurd hd (by show ¬ (d : Int) < 0; omega), fun j hj => absurd hj (by show ¬ (j : Int) < 0; omega)⟩, PW_0, WC_0, MKm_0, by show (0 : Int) + 1 ≤ ((i + 1 : Nat) : Int); omega⟩, by decide, ep.symm⟩
      · rw [mm_i e11 (by omega), mm_i e9 (by omega), mv_i e7]; rfl
      · rw [mm_i e11 (by omega), mv_i e9]; rfl
      · rw [mv_i e11]; rfl

/-! ===== the reference: a text read ===== -/
theorem TkA_s {T : Nat → Int} {n : Nat} {t : tk_T} {m : Nat} {a b : Nat → Nat} (H : TkA T n t m a b) {i : Nat} : ∀ j, i < j → j < m → a i < a j
  | 0, h, _ => absurd h (Nat.not_lt_zero _)
  | j + 1, h, hm => by
    obtain ⟨g, s⟩ := H.2.2.1 j hm
    obtain ⟨h1, h2, h3, h4⟩ := H.2.1 j (by omega)
    have hs := s.1.1
    have key : a j < a (j + 1) := by
      rcases Nat.lt_or_ge (a j) n with w | w
      · have := (Tok_lt (h4 w).1 w g.2).1; omega
      · exact absurd (h3 (by omega)).1 g.1
    by_cases c : i = j
    · subst c; exact key
    · have := TkA_s (i := i) H j (by omega) (by omega); omega
def PRm (X : tx_T) (R : F_T ⊕ pm_T) (z : Int) (h' : ah_T) : Prop := match R with
  | .inl q => z = 0 ∧ q.1 ≠ 0 ∧ h'.2.1 170 11 = q.1 ∧ h'.2.1 170 12 = q.2
  | .inr μ => z = 1 ∧ ∃ i, RMs X i μ h' ∧ RVw μ h'
theorem PIm_of {s : Nat} {X : tx_T} {μ : pm_T} {R : F_T ⊕ (Nat × pm_T)} {z : Int} {h h' : ah_T} (HV : RVw μ h) (f : fr WJ h h') (k : ∀ q, R = .inr q → kr μ q.2) (p : PBm X R z h') : PIm X R z h' := by
  rcases R with q | q
  · exact p
  · obtain ⟨e, H, Hr⟩ := p
    have kk := k q rfl
    have HV' := RVw_V HV f WJ_c
    exact ⟨e, H, Hr, fun n hn => RVm_m (HV' n (by have := kk.1; omega)) (fun a j w => kk.2.1 a j (by unfold vrow at w; omega))⟩
theorem t_MD_parse {G : cx_T} {s : Nat} {h : ah_T} {X : tx_T} (hb0 : hb s h) (hA : XA X) (hM : MT X.1 X.2.1 h) (h3 : h.2.1 170 3 = 0) (h11 : h.2.1 170 11 = 0) :
    con G 7 0 0 m_MD_parse [av_R (some 170)] h (fun r h' => ∃ z, r = some (av_I z) ∧ hb s h' ∧ fr WJb h h' ∧ (z = 0 ∨ z = 1) ∧ PRm X (sp_score X.2.2.1) z h') := by
  have hn := hM.2.1
  have hm0 := hA.2.2.2.2
  generalize es : sp_score X.2.2.1 = R
  refine c_MD_parse (X69 := fun hh => fr WJb h hh ∧ ∃ (j f : Nat) (μ : pm_T), RMs X j μ hh ∧ RH μ hh ∧ RVw μ hh ∧ 2999 ≤ f + j ∧ R = sp_items X.2.2.1 (f + 1) j μ) ?_ hb0 ?_
  · refine lp_MD_parse_69 _ (fun hh => (2001 - hh.2.1 170 5).toNat) ?_
    rintro hh hb1 ⟨hf, j, f, μ, Hj, Hr, HV, hfu, er⟩
    have hj2 := RMs_i hA Hj
    have jm := Hj.1.2.1
    have e5 : hh.2.1 170 5 = (X.2.2.2.2.1 j : Int) := Hj.1.2.2.1.trans (hA.2.1 j jm).1
    have a5 := (TkA_a hA j jm).2
    generalize et : X.2.2.1 = t at *
    unfold B_MD_parse_69
    intro x1 e1 _ _
    have k0 : x1 = 0 ↔ tK t j = 256 := by rw [e1, Hj.1.2.2.2.1, et]; exact ek_0
    refine ⟨fun c => ?_, fun c => ?_⟩
    · rw [sp_items, if_pos (k0.mp c)] at er
      exact ⟨1, rfl, hb1, hf, Or.inr rfl, by rw [er]; exact ⟨rfl, j, Hj, HV⟩⟩
    have n256 : ¬ tK t j = 256 := fun w => c (k0.mpr w)
    rw [sp_items_e n256] at er
    obtain ⟨f', rfl⟩ : ∃ f', f = f' + 1 := ⟨f - 1, by omega⟩
    -- behind an item
    have nx : ∀ (h1 : ah_T) (z : Int), hb s h1 → fr WJb hh h1 → (z = 0 ∨ z = 1) → PIm X (sp_item t j μ) z h1 → B_MD_parse_161 G s z h1 (fun r h' => ∃ z, r = some (av_I z) ∧ hb s h' ∧ fr WJb h h' ∧ (z = 0 ∨ z = 1) ∧ PRm X R z h') (fun h' => (fr WJb h h' ∧ ∃ (j f : Nat) (μ : pm_T), RMs X j μ h' ∧ RH μ h' ∧ RVw μ h' ∧ 2999 ≤ f + j ∧ R = sp_items t (f + 1) j μ) ∧ (2001 - h'.2.1 170 5).toNat < (2001 - hh.2.1 170 5).toNat) := by
      intro h1 z hb2 f1 z01 p
      have ff := fr_t hf f1 (fun _ _ w => w)
      unfold B_MD_parse_161
      rcases e : sp_item t j μ with q | q
      · rw [e] at p er
        obtain ⟨rfl, w1, w2⟩ := p
        refine ⟨fun _ => ⟨0, rfl, hb2, ff, Or.inl rfl, ?_⟩, fun d => absurd rfl d⟩
        rw [er]
        exact ⟨rfl, NF_item q e, w1, w2⟩
      · rw [e] at p er
        obtain ⟨rfl, H1, Hr1, HV1⟩ := p
        have ii := item_i e
        have q5 : h1.2.1 170 5 = (X.2.2.2.2.1 q.1 : Int) := H1.1.2.2.1.trans (hA.2.1 q.1 H1.1.2.1).1
        have lt := TkA_s hA (i := j) q.1 (by omega) H1.1.2.1
        refine ⟨fun d => absurd d (by decide), fun _ => ⟨⟨ff, q.1, f', q.2, H1, Hr1, HV1, by omega, er⟩, ?_⟩⟩
        rw [q5, e5]; omega
    have gkj : ∀ k : Int, 261 ≤ k → tK t j = k → gk (tK t j) := fun k hk w => ⟨by omega, by omega⟩
    refine con_mono (t_MD_isWord hb1 Hj (k := 0) (by omega)) ?_
    rw [et]
    rintro r h2 ⟨z4, rfl, hb2, rfl, -, z02⟩
    refine ⟨z4, rfl, hb2, fun c0 => ?_, fun c0 => ?_⟩
    case refine_2 =>
      have y : tK t j = 261 := by have := Classical.not_not.mp (fun w => c0 (z02.mpr w)); omega
      have ei : sp_item t j μ = sp_time t j μ := by unfold sp_item; rw [if_pos y]
      refine con_mono (t_MD_timeItem hb2 hA Hj Hr (by rw [et]; exact gkj 261 (by omega) y)) ?_
      rw [et]
      rintro r h3 ⟨z, rfl, hb3, f3, z01, p3⟩
      exact ⟨z, rfl, hb3, nx h3 z hb3 (fr_w f3 WJ_b) z01 (by rw [ei]; exact PIm_of (s := s) HV f3 (fun q e => time_k e) p3)⟩
    have n261 : ¬ tK t j = 261 := by have := z02.mp c0; omega
    refine con_mono (t_MD_isWord hb2 Hj (k := 1) (by omega)) ?_
    rw [et]
    rintro r h5 ⟨z7, rfl, hb5, rfl, -, z03⟩
    refine ⟨z7, rfl, hb5, fun c1 => ?_, fun c1 => ?_⟩
    case refine_2 =>
      have y : tK t j = 262 := by have := Classical.not_not.mp (fun w => c1 (z03.mpr w)); omega
      have ei : sp_item t j μ = sp_voice t j μ := by unfold sp_item; rw [if_neg n261, if_pos y]
      refine con_mono (t_MD_voiceItem hb5 hA Hj Hr HV (by rw [et]; exact y)) ?_
      rw [et]
      rintro r h3 ⟨z, rfl, hb3, f3, z01, p3⟩
      exact ⟨z, rfl, hb3, nx h3 z hb3 f3 z01 (by rw [ei]; exact p3)⟩
    have n262 : ¬ tK t j = 262 := by have := z03.mp c1; omega
    refine con_mono (t_MD_isWord hb5 Hj (k := 2) (by omega)) ?_
    rw [et]
    rintro r h8 ⟨z10, rfl, hb8, rfl, -, z04⟩
    refine ⟨z10, rfl, hb8, fun c2 => ?_, fun c2 => ?_⟩
    case refine_2 =>
      have y : tK t j = 263 := by have := Classical.not_not.mp (fun w => c2 (z04.mpr w)); omega
      have ei : sp_item t j μ = sp_line t j μ := by unfold sp_item; rw [if_neg n261, if_neg n262, if_pos y]
      refine con_mono (t_MD_lineItem hb8 hA Hj Hr (by rw [et]; exact gkj 263 (by omega) y)) ?_
      rw [et]
      rintro r h3 ⟨z, rfl, hb3, f3, z01, p3⟩
      exact ⟨z, rfl, hb3, nx h3 z hb3 (fr_w f3 WJ_b) z01 (by rw [ei]; exact PIm_of (s := s) HV f3 (fun q e => line_k e) p3)⟩
    have n263 : ¬ tK t j = 263 := by have := z04.mp c2; omega
    refine con_mono (t_MD_isWord hb8 Hj (k := 3) (by omega)) ?_
    rw [et]
    rintro r h11' ⟨z13, rfl, hb11, rfl, -, z05⟩
    refine ⟨z13, rfl, hb11, fun c3 => ?_, fun c3 => ?_⟩
    case refine_2 =>
      have y : tK t j = 264 := by have := Classical.not_not.mp (fun w => c3 (z05.mpr w)); omega
      have ei : sp_item t j μ = sp_rule t j μ := by unfold sp_item; rw [if_neg n261, if_neg n262, if_neg n263, if_pos y]
      refine con_mono (t_MD_ruleItem hb11 hA Hj Hr (by rw [et]; exact gkj 264 (by omega) y)) ?_
      rw [et]
      rintro r h3 ⟨z, rfl, hb3, f3, z01, p3⟩
      exact ⟨z, rfl, hb3, nx h3 z hb3 (fr_w f3 WJ_b) z01 (by rw [ei]; exact PIm_of (s := s) HV f3 (fun q e => rule_k e) p3)⟩
    have n264 : ¬ tK t j = 264 := by have := z05.mp c3; omega
    refine con_mono (t_MD_isWord hb11 Hj (k := 4) (by omega)) ?_
    rw [et]
    rintro r h14 ⟨z16, rfl, hb14, rfl, -, z06⟩
    refine ⟨z16, rfl, hb14, fun c4 => ?_, fun c4 => ?_⟩
    case refine_2 =>
      have y : tK t j = 265 := by have := Classical.not_not.mp (fun w => c4 (z06.mpr w)); omega
      have ei : sp_item t j μ = sp_row t j μ := by unfold sp_item; rw [if_neg n261, if_neg n262, if_neg n263, if_neg n264, if_pos y]
      refine con_mono (t_MD_rowItem hb14 hA Hj Hr (by rw [et]; exact gkj 265 (by omega) y)) ?_
      rw [et]
      rintro r h3 ⟨z, rfl, hb3, f3, z01, p3⟩
      exact ⟨z, rfl, hb3, nx h3 z hb3 (fr_w f3 WJ_b) z01 (by rw [ei]; exact PIm_of (s := s) HV f3 (fun q e => row_k e) p3)⟩
    have n265 : ¬ tK t j = 265 := by have := z06.mp c4; omega
    have ei : sp_item t j μ = .inl (cn t j) := by unfold sp_item; rw [if_neg n261, if_neg n262, if_neg n263, if_neg n264, if_neg n265]
    refine con_mono (t_MD_cantk hb14 Hj) ?_
    rw [et]
    rintro r h3 ⟨z, rfl, hb3, f3, rfl, q1, q2⟩
    exact ⟨0, rfl, hb3, nx h3 0 hb3 (fr_w f3 (fun a k w => WJ_b a k (WK_J a k w))) (Or.inl rfl) (by rw [ei]; exact ⟨rfl, q1, q2⟩)⟩
  · unfold B_MD_parse_0
    intro h2 e2 h5 e5 h8 e8 h11' e11 h14 e14 h17 e17 h20 e20 h22 e22 h24 e24 h26 e26
    have w17 : ∀ a, (a = 172 ∨ a = 173 ∨ a = 174 ∨ a = 175 ∨ a = 177 ∨ a = 181 ∨ a = 183) → WJ a 1 := fun a q => Or.inr (Or.inl ⟨q, rfl⟩)
    have w170 : ∀ k, 59 ≤ k → k ≤ 61 → WJ 170 k := fun k q1 q2 => Or.inl ⟨rfl, Or.inr (by omega)⟩
    have f26 : fr WJ h h26 := fr_i (fr_i (fr_i (fr_i (fr_i (fr_i (fr_i (fr_i (fr_i (fr_i fr_0 e2 (w17 _ (by omega))) e5 (w17 _ (by omega))) e8 (w17 _ (by omega))) e11 (w17 _ (by omega))) e14 (w17 _ (by omega))) e17 (w17 _ (by omega))) e20 (w17 _ (by omega))) e22 (w170 _ (by omega) (by omega))) e24 (w170 _ (by omega) (by omega))) e26 (w170 _ (by omega) (by omega))
    have fs : fr (fun a k => (172 ≤ a ∧ a ≤ 183 ∧ k = 1) ∨ (a = 170 ∧ 59 ≤ k ∧ k ≤ 61)) h h26 := fr_i (fr_i (fr_i (fr_i (fr_i (fr_i (fr_i (fr_i (fr_i (fr_i fr_0 e2 (by omega)) e5 (by omega)) e8 (by omega)) e11 (by omega)) e14 (by omega)) e17 (by omega)) e20 (by omega)) e22 (by omega)) e24 (by omega)) e26 (by omega)
    have hb26 : hb s h26 := hb_i (hb_i (hb_i (hb_i (hb_i (hb_i (hb_i (hb_i (hb_i (hb_i hb0 e2) e5) e8) e11) e14) e17) e20) e22) e24) e26
    have M26 : MT X.1 X.2.1 h26 := MT_f hM fs (by omega) (fun j => by omega)
    refine con_mono (t_MD_next0 (p0 := 0) hb26 M26 (by rw [fr_g fs (by omega)]; exact h3) hA hm0 hA.1) ?_
    rintro r h28 ⟨z, rfl, hb28, f28, R28, rfl⟩
    have g : ∀ a k, ¬ (a = 170 ∧ 3 ≤ k ∧ k ≤ 10) → h28.2.1 a k = h26.2.1 a k := fun a k q => fr_g f28 q
    refine ⟨1, rfl, hb28, fr_t (fr_w f26 WJ_b) f28 (fun a k w => WJ_b a k (WM_J a k w)), 0, 2999, sco0, ⟨R28, ⟨⟨?_, ?_, ?_, ?_, ?_, ?_, ?_⟩, ⟨⟨by decide, by decide⟩, ⟨by decide, by decide⟩, ⟨by decide, by decide⟩, ⟨by decide, by decide⟩, by decide, by decide⟩, fun j hj => absurd hj (by show ¬ (j : Int) < 0; omega), fun j hj => absurd hj (by show ¬ (j : Int) < 0; omega), fun j hj => absurd hj (by show ¬ (j : Int) < 0; omega), fun j hj => absurd hj (by show ¬ (j : Int) < 0; omega)⟩, ?_⟩, ⟨?_, ?_, ?_⟩, fun n hn => absurd hn (by show ¬ (n : Int) < 0; omega), by omega, es.symm⟩
    · rw [g _ _ (by omega), mm_i e26 (by omega), mm_i e24 (by omega), mm_i e22 (by omega), mm_i e20 (by omega), mm_i e17 (by omega), mm_i e14 (by omega), mm_i e11 (by omega), mm_i e8 (by omega), mv_i e5]; rfl
    · rw [g _ _ (by omega), mm_i e26 (by omega), mm_i e24 (by omega), mm_i e22 (by omega), mm_i e20 (by omega), mm_i e17 (by omega), mm_i e14 (by omega), mm_i e11 (by omega), mv_i e8]; rfl
    · rw [g _ _ (by omega), mm_i e26 (by omega), mm_i e24 (by omega), mm_i e22 (by omega), mm_i e20 (by omega), mm_i e17 (by omega), mm_i e14 (by omega), mv_i e11]; rfl
    · rw [g _ _ (by omega), mm_i e26 (by omega), mm_i e24 (by omega), mm_i e22 (by omega), mm_i e20 (by omega), mm_i e17 (by omega), mv_i e14]; rfl
    · rw [g _ _ (by omega), mm_i e26 (by omega), mm_i e24 (by omega), mm_i e22 (by omega), mm_i e20 (by omega), mv_i e17]; rfl
    · rw [g _ _ (by omega), mm_i e26 (by omega), mm_i e24 (by omega), mm_i e22 (by omega), mv_i e20]; rfl
    · rw [g _ _ (by omega), mm_i e26 (by omega), mm_i e24 (by omega), mm_i e22 (by omega), mm_i e20 (by omega), mm_i e17 (by omega), mm_i e14 (by omega), mm_i e11 (by omega), mm_i e8 (by omega), mm_i e5 (by omega), mv_i e2]; rfl
    · rw [g _ _ (by omega), fr_g fs (by omega)]; exact h11
    · rw [g _ _ (by omega), mm_i e26 (by omega), mm_i e24 (by omega), mv_i e22]; rfl
    · rw [g _ _ (by omega), mm_i e26 (by omega), mv_i e24]; exact ⟨fun _ => by decide, fun _ => rfl⟩
    · rw [g _ _ (by omega), mv_i e26]; exact ⟨fun _ => by decide, fun _ => rfl⟩

/-! ===== the reference: what is read is kept ===== -/
abbrev WEk (q : Nat) : Nat → Nat → Prop := fun a k => (((187 ≤ a ∧ a ≤ 191) ∨ (194 ≤ a ∧ a ≤ 198)) ∧ k = q) ∨ ((a = 192 ∨ a = 193) ∧ 4 * q ≤ k ∧ k < 4 * q + 4)
theorem t_MD_keepEvent {G : cx_T} {s a b : Nat} {h : ah_T} (hb0 : hb s h) (ha : a < 1200) (eb : b = a + 1200) : con G 0 0 0 m_MD_keepEvent [av_R (some 170), av_I (a : Int), av_I (b : Int)] h (fun r h' => r = none ∧ hb s h' ∧ fr (WEk a) h h' ∧ (h'.2.2.1 187 a = h.2.2.1 187 b ∧ h'.2.2.1 188 a = h.2.2.1 188 b ∧ h'.2.2.1 189 a = h.2.2.1 189 b ∧ h'.2.2.1 190 a = h.2.2.1 190 b) ∧ (h'.2.1 191 a = h.2.1 191 b ∧ h'.2.1 194 a = h.2.1 194 b ∧ h'.2.1 195 a = h.2.1 195 b ∧ h'.2.1 196 a = h.2.1 196 b ∧ h'.2.1 197 a = h.2.1 197 b ∧ h'.2.1 198 a = h.2.1 198 b) ∧ ∀ p : Nat, p < 4 → h'.2.1 192 (4 * a + p) = h.2.1 192 (4 * b + p) ∧ h'.2.1 193 (4 * a + p) = h.2.1 193 (4 * b + p)) := by
  refine c_MD_keepEvent (X62 := fun v3 hh => ∃ p : Nat, v3 = (p : Int) ∧ p ≤ 4 ∧ fr (fun x k => ((187 ≤ x ∧ x ≤ 191) ∧ k = a) ∨ ((x = 192 ∨ x = 193) ∧ 4 * a ≤ k ∧ k < 4 * a + 4)) h hh ∧ (hh.2.2.1 187 a = h.2.2.1 187 b ∧ hh.2.2.1 188 a = h.2.2.1 188 b ∧ hh.2.2.1 189 a = h.2.2.1 189 b ∧ hh.2.2.1 190 a = h.2.2.1 190 b) ∧ hh.2.1 191 a = h.2.1 191 b ∧ ∀ j : Nat, j < p → hh.2.1 192 (4 * a + j) = h.2.1 192 (4 * b + j) ∧ hh.2.1 193 (4 * a + j) = h.2.1 193 (4 * b + j)) ?_ hb0 (fun _ _ => ?_)
  · refine lp_MD_keepEvent_62 (a1 := (a : Int)) (a2 := (b : Int)) _ (fun v3 _ => (4 - v3).toNat) ?_
    rintro v3 hh hb1 ⟨p, rfl, hp4, f, c1, c2, c3⟩
    unfold B_MD_keepEvent_62
    rw [tn_c, tn_c]
    have g : ∀ x k, (194 ≤ x ∧ x ≤ 198) → hh.2.1 x k = h.2.1 x k := fun x k q => fr_g f (by omega)
    refine ⟨fun c => ⟨⟨by omega, by omega⟩, fun x3 e3 _ _ => ⟨⟨by omega, by omega⟩, fun h6 e6 x10 e10 hx => ?_⟩⟩, fun c => ⟨⟨by omega, by omega⟩, ⟨by omega, by omega⟩, ⟨by omega, by omega⟩, ⟨by omega, by omega⟩, ⟨by omega, by omega⟩, ?_⟩⟩
    · have ep : p = 4 := by omega
      subst ep
      have E10 : x10 = h.2.1 195 b := by rw [e10, mm_i e6 (by omega), g _ _ (by omega)]
      refine ⟨hx, fun h11 e11 x15 e15 _ _ h16 e16 x20 e20 _ _ h21 e21 x25 e25 _ _ h26 e26 => ?_⟩
      have f26 : fr (fun x k => (194 ≤ x ∧ x ≤ 198) ∧ k = a) hh h26 := fr_i (fr_i (fr_i (fr_i (fr_i fr_0 e6 (by omega)) e11 (by omega)) e16 (by omega)) e21 (by omega)) e26 (by omega)
      refine ⟨rfl, hb_i (hb_i (hb_i (hb_i (hb_i hb1 e6) e11) e16) e21) e26, fr_t (fr_w f (fun x k w => by omega)) f26 (fun x k w => by omega), ?_, ⟨?_, ?_, ?_, ?_, ?_, ?_⟩, fun j hj => ?_⟩
      · rw [fr_gl f26 (by omega), fr_gl f26 (by omega), fr_gl f26 (by omega), fr_gl f26 (by omega)]; exact c1
      · rw [fr_g f26 (by omega)]; exact c2
      · rw [mm_i e26 (by omega), mm_i e21 (by omega), mm_i e16 (by omega), mm_i e11 (by omega), mv_i e6, e3, g _ _ (by omega)]
      · rw [mm_i e26 (by omega), mm_i e21 (by omega), mm_i e16 (by omega), mv_i e11, E10]
      · rw [mm_i e26 (by omega), mm_i e21 (by omega), mv_i e16, e15, mm_i e11 (by omega), mm_i e6 (by omega), g _ _ (by omega)]
      · rw [mm_i e26 (by omega), mv_i e21, e20, mm_i e16 (by omega), mm_i e11 (by omega), mm_i e6 (by omega), g _ _ (by omega)]
      · rw [mv_i e26, e25, mm_i e21 (by omega), mm_i e16 (by omega), mm_i e11 (by omega), mm_i e6 (by omega), g _ _ (by omega)]
      · rw [fr_g f26 (by omega), fr_g f26 (by omega)]; exact c3 j hj
    · have ek : (4 * (b : Int) + (p : Int)).toNat = 4 * b + p := by omega
      have ek2 : (4 * (a : Int) + (p : Int)).toNat = 4 * a + p := by omega
      rw [ek, ek2]
      intro x34 e34 _ _
      refine ⟨⟨by omega, by omega⟩, fun h37 e37 x41 e41 _ _ h42 e42 => ⟨⟨by omega, by omega⟩, ⟨p + 1, by omega, by omega, fr_i (fr_i f e37 (by omega)) e42 (by omega), ?_, ?_, fun j hj => ?_⟩, by omega⟩⟩
      · rw [show h42.2.2.1 = hh.2.2.1 by rw [e42, e37]; rfl]; exact c1
      · rw [mm_i e42 (by omega), mm_i e37 (by omega)]; exact c2
      · by_cases cj : j = p
        · subst cj
          rw [mm_i e42 (by omega), mv_i e37, mv_i e42, e34, e41, mm_i e37 (by omega), fr_g f (by omega), fr_g f (by omega)]
          exact ⟨rfl, rfl⟩
        · rw [mm_i e42 (by omega), mm_i e37 (by omega), mm_i e42 (by omega), mm_i e37 (by omega)]
          exact c3 j (by omega)
  · unfold B_MD_keepEvent_0
    rw [tn_c, tn_c]
    refine ⟨⟨by omega, by omega⟩, fun x3 e3 _ _ => ⟨⟨by omega, by omega⟩, fun h6 e6 x10 e10 _ _ h11 e11 x15 e15 _ _ h16 e16 x20 e20 _ _ h21 e21 x25 e25 _ _ h26 e26 => ⟨0, rfl, by decide, fr_i (fr_l (fr_l (fr_l (fr_l fr_0 e6 (by omega)) e11 (by omega)) e16 (by omega)) e21 (by omega)) e26 (by omega), ⟨?_, ?_, ?_, ?_⟩, ?_, fun j hj => absurd hj (Nat.not_lt_zero j)⟩⟩⟩
    · rw [mm_io e26, mm_l e21 (by omega), mm_l e16 (by omega), mm_l e11 (by omega), mv_l e6, e3]
    · rw [mm_io e26, mm_l e21 (by omega), mm_l e16 (by omega), mv_l e11, e10, mm_l e6 (by omega)]
    · rw [mm_io e26, mm_l e21 (by omega), mv_l e16, e15, mm_l e11 (by omega), mm_l e6 (by omega)]
    · rw [mm_io e26, mv_l e21, e20, mm_l e16 (by omega), mm_l e11 (by omega), mm_l e6 (by omega)]
    · rw [mv_i e26, e25, mm_lo e21, mm_lo e16, mm_lo e11, mm_lo e6]
/-- the score that is kept, in the first half of the rows -/
def KSn (μ : pm_T) (h : ah_T) : Prop := (h.2.1 172 0 = μ 0 7 ∧ h.2.1 175 0 = μ 0 3 ∧ h.2.1 177 0 = μ 0 4 ∧ h.2.1 181 0 = μ 0 5) ∧
  ((0 ≤ μ 0 3 ∧ μ 0 3 ≤ 8) ∧ (0 ≤ μ 0 4 ∧ μ 0 4 ≤ 24) ∧ (0 ≤ μ 0 5 ∧ μ 0 5 ≤ 12) ∧ (0 ≤ μ 0 7 ∧ μ 0 7 ≤ 4)) ∧
  (∀ j : Nat, (j : Int) < μ 0 3 → h.2.1 176 j = μ 1 j) ∧ (∀ j : Nat, (j : Int) < μ 0 4 → h.2.1 178 j = μ 2 j ∧ h.2.1 179 j = μ 3 j ∧ h.2.1 180 j = nz (μ 4 j)) ∧ (∀ j : Nat, (j : Int) < μ 0 5 → h.2.1 182 j = μ 5 j) ∧ ∀ n : Nat, (n : Int) < μ 0 7 → RVm μ n n h
abbrev WKk : Nat → Nat → Prop := fun a k => ((a = 172 ∨ a = 173 ∨ a = 174 ∨ a = 175 ∨ a = 177 ∨ a = 181 ∨ a = 183) ∧ k = 0) ∨ (a = 176 ∧ k < 8) ∨ ((178 ≤ a ∧ a ≤ 180) ∧ k < 24) ∨ (a = 182 ∧ k < 12) ∨ ((a = 185 ∨ a = 186) ∧ k < 4) ∨ (((187 ≤ a ∧ a ≤ 191) ∨ (194 ≤ a ∧ a ≤ 198)) ∧ k < 1200) ∨ ((a = 192 ∨ a = 193) ∧ k < 4800) ∨ ((a = 199 ∨ a = 200) ∧ k < 408)
/-- a voice, as far as it is copied: the counts, nb bars, ne events -/
def VCp (μ : pm_T) (w nb ne : Nat) (h : ah_T) : Prop := (h.2.1 185 w = μ (10 + w) 0 ∧ h.2.1 186 w = μ (10 + w) 1) ∧ (∀ e : Nat, e < ne → RVd μ (100 + 40 * w) (300 * w + e) e h) ∧
  (∀ b : Nat, (b : Int) < μ (10 + w) 1 → b < nb → h.2.2.1 199 (102 * w + b) = smT μ w (μ (100 + 40 * w + 30) b).toNat ∧ h.2.2.1 200 (102 * w + b) = smB μ w (μ (100 + 40 * w + 30) b).toNat) ∧ ((μ (10 + w) 1).toNat < nb → h.2.2.1 199 (102 * w + (μ (10 + w) 1).toNat) = μ (100 + 40 * w + 31) 0 ∧ h.2.2.1 200 (102 * w + (μ (10 + w) 1).toNat) = μ (100 + 40 * w + 31) 1)
theorem RVd_g {μ : pm_T} {R q e : Nat} {h h' : ah_T} (H : RVd μ R q e h) (g : ∀ a, 187 ≤ a → a ≤ 198 → h'.2.1 a q = h.2.1 a q ∧ h'.2.2.1 a q = h.2.2.1 a q) (g2 : ∀ a k, (a = 192 ∨ a = 193) → 4 * q ≤ k → k < 4 * q + 4 → h'.2.1 a k = h.2.1 a k) : RVd μ R q e h' := by
  obtain ⟨y1, y2, y3, y4⟩ := H
  unfold RVd
  rw [(g 191 (by decide) (by decide)).1, (g 195 (by decide) (by decide)).1, (g 196 (by decide) (by decide)).1, (g 197 (by decide) (by decide)).1, (g 198 (by decide) (by decide)).1, (g 194 (by decide) (by decide)).1, (g 187 (by decide) (by decide)).2, (g 188 (by decide) (by decide)).2, (g 189 (by decide) (by decide)).2, (g 190 (by decide) (by decide)).2]
  refine ⟨y1, y2, y3, fun p hp => ?_⟩
  rw [g2 192 _ (Or.inl rfl) (by omega) (by omega), g2 193 _ (Or.inr rfl) (by omega) (by omega)]
  exact y4 p hp
theorem VCp_end {μ : pm_T} {w : Nat} {h : ah_T} (H : VCp μ w 102 (μ (10 + w) 0).toNat h) (b : (0 ≤ μ (10 + w) 0 ∧ μ (10 + w) 0 ≤ 300) ∧ 1 ≤ μ (10 + w) 1 ∧ μ (10 + w) 1 ≤ 101) : RVm μ w w h :=
  ⟨H.1, b, fun e he => H.2.1 e (by omega), fun x hx => H.2.2.1 x hx (by omega), H.2.2.2 (by omega)⟩

/-! ===== the reference: what is read is kept, whole ===== -/
theorem t_MD_keep {G : cx_T} {s : Nat} {h : ah_T} {μ : pm_T} (hb0 : hb s h) (H : RSn μ h) (HV : RVw μ h) : con G 1 0 0 m_MD_keep [av_R (some 170)] h (fun r h' => r = none ∧ hb s h' ∧ fr WKk h h' ∧ KSn μ h' ∧ h'.2.1 173 0 = μ 0 1 ∧ h'.2.1 174 0 = μ 0 2) := by
  obtain ⟨⟨a1, a2, a3, a4, a5, a6, a7⟩, ⟨b3, b4, b5, b6, b7⟩, l, ru, ro, na⟩ := H
  obtain ⟨nv, hnv⟩ : ∃ n : Nat, μ 0 7 = (n : Int) := ⟨(μ 0 7).toNat, by omega⟩
  let D0 : ah_T → Prop := fun hh => hh.2.1 172 0 = μ 0 7 ∧ hh.2.1 173 0 = μ 0 1 ∧ hh.2.1 174 0 = μ 0 2 ∧ hh.2.1 175 0 = μ 0 3
  let D1 : Nat → ah_T → Prop := fun v hh => ∀ j : Nat, (j : Int) < μ 0 3 → j < v → hh.2.1 176 j = μ 1 j
  let D2 : Nat → ah_T → Prop := fun v hh => ∀ j : Nat, (j : Int) < μ 0 4 → j < v → hh.2.1 178 j = μ 2 j ∧ hh.2.1 179 j = μ 3 j ∧ hh.2.1 180 j = nz (μ 4 j)
  let D3 : Nat → ah_T → Prop := fun v hh => ∀ j : Nat, (j : Int) < μ 0 5 → j < v → hh.2.1 182 j = μ 5 j
  let A1 : ah_T → Prop := fun hh => fr WKk h hh ∧ D0 hh
  let A2 : ah_T → Prop := fun hh => A1 hh ∧ D1 8 hh ∧ hh.2.1 177 0 = μ 0 4
  let A3 : ah_T → Prop := fun hh => A2 hh ∧ D2 24 hh ∧ hh.2.1 181 0 = μ 0 5
  let A4 : ah_T → Prop := fun hh => A3 hh ∧ D3 12 hh
  let I4 : Int → ah_T → Prop := fun v1 hh => ∃ v : Nat, v1 = (v : Int) ∧ v ≤ nv ∧ A4 hh ∧ ∀ w, w < v → RVm μ w w hh
  -- what the voices' loop writes
  have keepA : ∀ (hh h' : ah_T) (v : Nat), v < nv → A4 hh → (∀ w, w < v → RVm μ w w hh) → fr (vcel v) hh h' → A4 h' ∧ ∀ w, w < v → RVm μ w w h' := by
    rintro hh h' v hv ⟨⟨⟨⟨f, e1, e2, e3, e4⟩, d1, q4⟩, d2, q5⟩, d3⟩ hw fv
    have g : ∀ a k, a ≤ 184 → h'.2.1 a k = hh.2.1 a k := fun a k q => fr_g fv (fun w => by unfold vcel at w; omega)
    refine ⟨⟨⟨⟨⟨fr_t f fv (fun a k w => ?_), ?_, ?_, ?_, ?_⟩, fun j hj hj2 => ?_, ?_⟩, fun j hj hj2 => ?_, ?_⟩, fun j hj hj2 => ?_⟩, fun w hww => ?_⟩
    · rcases w with ⟨w1, w2⟩ | ⟨w1, w2, w3⟩ | ⟨w1, w2, w3⟩ | ⟨w1, w2, w3⟩
      · exact Or.inr (Or.inr (Or.inr (Or.inr (Or.inl ⟨w1, by omega⟩))))
      · exact Or.inr (Or.inr (Or.inr (Or.inr (Or.inr (Or.inl ⟨w1, by omega⟩)))))
      · exact Or.inr (Or.inr (Or.inr (Or.inr (Or.inr (Or.inr (Or.inl ⟨w1, by omega⟩))))))
      · exact Or.inr (Or.inr (Or.inr (Or.inr (Or.inr (Or.inr (Or.inr ⟨w1, by omega⟩))))))
    · rw [g _ _ (by decide)]; exact e1
    · rw [g _ _ (by decide)]; exact e2
    · rw [g _ _ (by decide)]; exact e3
    · rw [g _ _ (by decide)]; exact e4
    · rw [g _ _ (by decide)]; exact d1 j hj hj2
    · rw [g _ _ (by decide)]; exact q4
    · rw [g _ _ (by decide), g _ _ (by decide), g _ _ (by decide)]; exact d2 j hj hj2
    · rw [g _ _ (by decide)]; exact q5
    · rw [g _ _ (by decide)]; exact d3 j hj hj2
    · refine RVm_g (hw w hww) (fun a k q => ?_)
      have n : ¬ vcel v a k := by
        intro p
        rcases q with ⟨q1, q2⟩ | ⟨q1, q2, q3⟩ | ⟨q1, q2, q3⟩ | ⟨q1, q2, q3⟩ <;> (rcases p with ⟨p1, p2⟩ | ⟨p1, p2, p3⟩ | ⟨p1, p2, p3⟩ | ⟨p1, p2, p3⟩ <;> omega)
      exact ⟨fr_g fv n, fr_gl fv n⟩
  -- the cells that are read stay
  have srcG : ∀ (hh : ah_T) (v a k : Nat), fr WKk h hh → vcel (4 + v) a k → hh.2.1 a k = h.2.1 a k ∧ hh.2.2.1 a k = h.2.2.1 a k := by
    intro hh v a k f q
    have n : ¬ WKk a k := by
      intro p
      rcases q with ⟨q1, q2⟩ | ⟨q1, q2, q3⟩ | ⟨q1, q2, q3⟩ | ⟨q1, q2, q3⟩ <;> (rcases p with ⟨p1, p2⟩ | ⟨p1, p2⟩ | ⟨p1, p2⟩ | ⟨p1, p2⟩ | ⟨p1, p2⟩ | ⟨p1, p2⟩ | ⟨p1, p2⟩ | ⟨p1, p2⟩ <;> omega)
    exact ⟨fr_g f n, fr_gl f n⟩
  have srcV : ∀ (hh : ah_T) (v : Nat), v < nv → fr WKk h hh → RVm μ v (4 + v) hh := fun hh v hv f => RVm_g (HV v (by omega)) (fun a k q => srcG hh v a k f q)
  have h203 : ∀ (n : Nat) (v1 : Int) (hh : ah_T), hb s hh → (I4 v1 hh ∧ (nv - v1).toNat = n) → aw G (rm_R 1 0 0) m_MD_keep 0 0 203 [some (av_R (some 170)), some (av_I v1), none] [] hh (fun r h' => r = none ∧ hb s h' ∧ fr WKk h h' ∧ KSn μ h' ∧ h'.2.1 173 0 = μ 0 1 ∧ h'.2.1 174 0 = μ 0 2) := by
    intro n
    induction n using Nat.strongRecOn with
    | ind n ih =>
      have h305 := lp_MD_keep_305 (G := G) (s := s) (Q := fun r h' => r = none ∧ hb s h' ∧ fr WKk h h' ∧ KSn μ h' ∧ h'.2.1 173 0 = μ 0 1 ∧ h'.2.1 174 0 = μ 0 2) (X203 := fun v1 hh => I4 v1 hh ∧ (nv - v1).toNat < n) (fun v1 hh hb1 q => ih _ q.2 v1 hh hb1 ⟨q.1, rfl⟩)
        (fun v1 v2 hh => ∃ v e : Nat, v1 = (v : Int) ∧ v2 = (e : Int) ∧ v < nv ∧ (nv - v1).toNat = n ∧ A4 hh ∧ (∀ w, w < v → RVm μ w w hh) ∧ VCp μ v 102 e hh ∧ (e : Int) ≤ μ (10 + v) 0) (fun _ v2 _ => (301 - v2).toNat) (by
        rintro v1 v2 hh hb1 ⟨v, e, rfl, rfl, hv, hn, hA, hw, hC, he⟩
        have f := hA.1.1.1.1
        have S := srcV hh v hv f
        have Sb := S.2.1
        unfold B_MD_keep_305
        rw [tn_c]
        refine ⟨⟨by omega, by omega⟩, fun x2 e2 _ _ => ?_⟩
        have ex2 : x2 = μ (10 + v) 0 := e2.trans hC.1.1
        refine ⟨fun c => ⟨⟨by omega, by omega⟩, ⟨⟨v + 1, by omega, by omega, hA, fun w hww => ?_⟩, by omega⟩⟩, fun c => ⟨⟨by omega, by omega⟩, ⟨by omega, by omega⟩, ⟨by omega, by omega⟩, ⟨by omega, by omega⟩, ⟨by omega, by omega⟩, ?_⟩⟩
        · by_cases cw : w = v
          · subst cw
            refine VCp_end ?_ S.2.1
            have : (μ (10 + w) 0).toNat = e := by omega
            rw [this]; exact hC
          · exact hw w (by omega)
        · have ea : (300 * (v : Int) + (e : Int)) = ((300 * v + e : Nat) : Int) := by omega
          have eb : (300 * (v : Int) + (e : Int) + 1200) = ((300 * v + e + 1200 : Nat) : Int) := by omega
          rw [ea, show ((300 * v + e : Nat) : Int) + 1200 = ((300 * v + e + 1200 : Nat) : Int) by omega]
          refine con_mono (t_MD_keepEvent (a := 300 * v + e) (b := 300 * v + e + 1200) hb1 (by omega) rfl) ?_
          rintro r h10 ⟨rfl, hb10, f10, c1, c2, c3⟩
          refine ⟨rfl, hb10, ⟨by omega, by omega⟩, ?_⟩
          have fv : fr (vcel v) hh h10 := fr_w f10 (fun a k w => by
            rcases w with ⟨w1, w2⟩ | ⟨w1, w2, w3⟩
            · exact Or.inr (Or.inl ⟨w1, by omega, by omega⟩)
            · exact Or.inr (Or.inr (Or.inl ⟨w1, by omega, by omega⟩)))
          obtain ⟨hA', hw'⟩ := keepA hh h10 v hv hA hw fv
          refine ⟨⟨v, e + 1, rfl, by omega, hv, hn, hA', hw', ⟨?_, fun x hx => ?_, fun b hb hb2 => ?_, fun q => ?_⟩, by omega⟩, by omega⟩
          · rw [fr_g f10 (by omega), fr_g f10 (by omega)]; exact hC.1
          · by_cases cx : x = e
            · subst cx
              have Sx := S.2.2.1 x (by omega)
              have eq : 300 * (4 + v) + x = 300 * v + x + 1200 := by omega
              rw [eq] at Sx
              obtain ⟨y1, y2, y3, y4⟩ := Sx
              unfold RVd
              rw [c1.1, c1.2.1, c1.2.2.1, c1.2.2.2, c2.1, c2.2.1, c2.2.2.1, c2.2.2.2.1, c2.2.2.2.2.1, c2.2.2.2.2.2]
              refine ⟨y1, y2, y3, fun p hp => ?_⟩
              rw [(c3 p (by omega)).1, (c3 p (by omega)).2]
              exact y4 p hp
            · exact RVd_g (hC.2.1 x (by omega)) (fun a q1 q2 => ⟨fr_g f10 (by omega), fr_gl f10 (by omega)⟩) (fun a k q1 q2 q3 => fr_g f10 (by omega))
          · rw [fr_gl f10 (by omega), fr_gl f10 (by omega)]; exact hC.2.2.1 b hb hb2
          · rw [fr_gl f10 (by omega), fr_gl f10 (by omega)]; exact hC.2.2.2 q)
      have h243 := lp_MD_keep_243 (G := G) (s := s) (X305 := fun v1 v2 hh => ∃ v e : Nat, v1 = (v : Int) ∧ v2 = (e : Int) ∧ v < nv ∧ (nv - v1).toNat = n ∧ A4 hh ∧ (∀ w, w < v → RVm μ w w hh) ∧ VCp μ v 102 e hh ∧ (e : Int) ≤ μ (10 + v) 0) h305
        (fun v1 v2 hh => ∃ v e : Nat, v1 = (v : Int) ∧ v2 = (e : Int) ∧ e ≤ 102 ∧ v < nv ∧ (nv - v1).toNat = n ∧ A4 hh ∧ (∀ w, w < v → RVm μ w w hh) ∧ VCp μ v e 0 hh) (fun _ v2 _ => (103 - v2).toNat) (by
        rintro v1 v2 hh hb1 ⟨v, e, rfl, rfl, he, hv, hn, hA, hw, hC⟩
        have f := hA.1.1.1.1
        have S := srcV hh v hv f
        have Sb := S.2.1
        unfold B_MD_keep_243
        refine ⟨fun c => ?_, fun c => ⟨⟨by omega, by omega⟩, ⟨by omega, by omega⟩, ⟨by omega, by omega⟩, ⟨by omega, by omega⟩, ⟨by omega, by omega⟩, ⟨by omega, by omega⟩, ?_⟩⟩
        · have e102 : e = 102 := by omega
          subst e102
          exact ⟨v, 0, rfl, rfl, hv, hn, hA, hw, hC, S.2.1.1.1⟩
        · have ek : (102 * (v : Int) + (e : Int) + 408).toNat = 102 * (4 + v) + e := by omega
          have ek2 : (102 * (v : Int) + (e : Int)).toNat = 102 * v + e := by omega
          rw [ek, ek2]
          intro x8 e8 _ _
          refine ⟨⟨by omega, by omega⟩, fun h11 e11 x15 e15 _ _ h16 e16 => ⟨⟨by omega, by omega⟩, ?_⟩⟩
          have f16 : fr (fun a k => (a = 199 ∨ a = 200) ∧ k = 102 * v + e) hh h16 := fr_l (fr_l fr_0 e11 ⟨Or.inl rfl, rfl⟩) e16 ⟨Or.inr rfl, rfl⟩
          have fv : fr (vcel v) hh h16 := fr_w f16 (fun a k w => Or.inr (Or.inr (Or.inr ⟨w.1, by omega, by omega⟩)))
          obtain ⟨hA', hw'⟩ := keepA hh h16 v hv hA hw fv
          have m1 : h16.2.2.1 199 (102 * v + e) = hh.2.2.1 199 (102 * (4 + v) + e) := by rw [mm_l e16 (by omega), mv_l e11, e8]
          have m2 : h16.2.2.1 200 (102 * v + e) = hh.2.2.1 200 (102 * (4 + v) + e) := by rw [mv_l e16, e15, mm_l e11 (by omega)]
          refine ⟨⟨v, e + 1, rfl, by omega, by omega, hv, hn, hA', hw', ⟨?_, fun x hx => absurd hx (Nat.not_lt_zero x), fun b hb hb2 => ?_, fun q => ?_⟩⟩, by omega⟩
          · rw [fr_g f16 (by omega), fr_g f16 (by omega)]; exact hC.1
          · by_cases cb : b = e
            · subst cb; rw [m1, m2]; exact S.2.2.2.1 b hb
            · rw [fr_gl f16 (by omega), fr_gl f16 (by omega)]; exact hC.2.2.1 b hb (by omega)
          · by_cases cb : (μ (10 + v) 1).toNat = e
            · rw [cb, m1, m2]
              have := S.2.2.2.2
              rw [cb] at this; exact this
            · rw [fr_gl f16 (by omega), fr_gl f16 (by omega)]; exact hC.2.2.2 (by omega))
      intro v1 hh hb1 hI
      refine lp_MD_keep_203 (G := G) (s := s) (X243 := fun v1 v2 hh => ∃ v e : Nat, v1 = (v : Int) ∧ v2 = (e : Int) ∧ e ≤ 102 ∧ v < nv ∧ (nv - v1).toNat = n ∧ A4 hh ∧ (∀ w, w < v → RVm μ w w hh) ∧ VCp μ v e 0 hh) h243 (fun v1 hh => I4 v1 hh ∧ (nv - v1).toNat = n) (fun _ _ => 0) ?_ v1 hh hb1 hI
      rintro v1 hh hb1 ⟨⟨v, rfl, hv, hA, hw⟩, hn⟩
      have f := hA.1.1.1.1
      obtain ⟨e1, e2, e3, e4⟩ := hA.1.1.1.2
      unfold B_MD_keep_203
      intro x2 y2 _ _
      have ex2 : x2 = (nv : Int) := by rw [y2, e1, hnv]
      subst ex2
      refine ⟨fun c => ⟨rfl, hb1, f, ⟨⟨e1, e4, hA.1.1.2.2, hA.1.2.2⟩, ⟨b3, b4, b5, b7⟩, fun j hj => hA.1.1.2.1 j hj (by omega), fun j hj => hA.1.2.1 j hj (by omega), fun j hj => hA.2 j hj (by omega), fun m hm => hw m (by omega)⟩, e2, e3⟩, fun c => ?_⟩
      have hv' : v < nv := by omega
      have S := srcV hh v hv' f
      refine ⟨⟨by omega, by omega⟩, ⟨by omega, by omega⟩, ?_⟩
      have ek : ((v : Int) + 4).toNat = 4 + v := by omega
      rw [ek, tn_c]
      intro x6 e6 _ _
      refine ⟨⟨by omega, by omega⟩, fun h9 e9 x13 e13 _ _ h14 e14 => ?_⟩
      have f14 : fr (fun a k => (a = 185 ∨ a = 186) ∧ k = v) hh h14 := fr_i (fr_i fr_0 e9 ⟨Or.inl rfl, rfl⟩) e14 ⟨Or.inr rfl, rfl⟩
      obtain ⟨hA', hw'⟩ := keepA hh h14 v hv' hA hw (fr_w f14 (fun a k w => Or.inl w))
      exact ⟨v, 0, rfl, rfl, by decide, hv', hn, hA', hw', ⟨by rw [mm_i e14 (by omega), mv_i e9, e6]; exact S.1.1, by rw [mv_i e14, e13, mm_i e9 (by omega)]; exact S.1.2⟩, fun x hx => absurd hx (Nat.not_lt_zero x), fun b _ hb2 => absurd hb2 (Nat.not_lt_zero b), fun q => absurd q (Nat.not_lt_zero _)⟩
  have h162 := lp_MD_keep_162 (G := G) (s := s) (Q := fun r h' => r = none ∧ hb s h' ∧ fr WKk h h' ∧ KSn μ h' ∧ h'.2.1 173 0 = μ 0 1 ∧ h'.2.1 174 0 = μ 0 2) (X203 := I4) (fun v1 hh hb1 q => h203 _ v1 hh hb1 ⟨q, rfl⟩) (fun v1 hh => ∃ v : Nat, v1 = (v : Int) ∧ v ≤ 12 ∧ A3 hh ∧ D3 v hh) (fun v1 _ => (13 - v1).toNat) (by
    rintro v1 hh hb1 ⟨v, rfl, hv, hA, hD⟩
    obtain ⟨⟨⟨f, e1, e2, e3, e4⟩, d1, q4⟩, d2, q5⟩ := hA
    have w0 : ∀ a, (a = 172 ∨ a = 173 ∨ a = 174 ∨ a = 175 ∨ a = 177 ∨ a = 181 ∨ a = 183) → WKk a 0 := fun a q => Or.inl ⟨q, rfl⟩
    unfold B_MD_keep_162
    refine ⟨fun c x3 y3 _ _ h4 y4 => ⟨0, rfl, Nat.zero_le _, ?_, fun w hw => absurd hw (Nat.not_lt_zero w)⟩, fun c => ⟨⟨by omega, by omega⟩, ⟨by omega, by omega⟩, ?_⟩⟩
    · have ev : v = 12 := by omega
      subst ev
      have g : ∀ a k, a ≠ 183 → h4.2.1 a k = hh.2.1 a k := fun a k q => mm_i y4 (by omega)
      exact ⟨⟨⟨⟨fr_i f y4 (w0 _ (by omega)), by rw [g _ _ (by decide)]; exact e1, by rw [g _ _ (by decide)]; exact e2, by rw [g _ _ (by decide)]; exact e3, by rw [g _ _ (by decide)]; exact e4⟩, fun j hj hj2 => by rw [g _ _ (by decide)]; exact d1 j hj hj2, by rw [g _ _ (by decide)]; exact q4⟩, fun j hj hj2 => by rw [g _ _ (by decide), g _ _ (by decide), g _ _ (by decide)]; exact d2 j hj hj2, by rw [g _ _ (by decide)]; exact q5⟩, fun j hj hj2 => by rw [g _ _ (by decide)]; exact hD j hj hj2⟩
    · have ek : ((v : Int) + 12).toNat = 12 + v := by omega
      rw [ek, tn_c]
      intro x9 y9 _ _
      refine ⟨⟨by omega, by omega⟩, fun h12 y12 => ⟨⟨by omega, by omega⟩, ⟨v + 1, by omega, by omega, ?_, fun j hj hj2 => ?_⟩, by omega⟩⟩
      · have g : ∀ a k, a ≠ 182 → h12.2.1 a k = hh.2.1 a k := fun a k q => mm_i y12 (by omega)
        exact ⟨⟨⟨fr_i f y12 (Or.inr (Or.inr (Or.inr (Or.inl ⟨rfl, by omega⟩)))), by rw [g _ _ (by decide)]; exact e1, by rw [g _ _ (by decide)]; exact e2, by rw [g _ _ (by decide)]; exact e3, by rw [g _ _ (by decide)]; exact e4⟩, fun j hj hj2 => by rw [g _ _ (by decide)]; exact d1 j hj hj2, by rw [g _ _ (by decide)]; exact q4⟩, fun j hj hj2 => by rw [g _ _ (by decide), g _ _ (by decide), g _ _ (by decide)]; exact d2 j hj hj2, by rw [g _ _ (by decide)]; exact q5⟩
      · by_cases cj : j = v
        · subst cj
          rw [mv_i y12, y9, fr_g f (by omega)]; exact ro j hj
        · rw [mm_i y12 (by omega)]; exact hD j hj (by omega))
  have h91 := lp_MD_keep_91 (G := G) (s := s) (X162 := fun v1 hh => ∃ v : Nat, v1 = (v : Int) ∧ v ≤ 12 ∧ A3 hh ∧ D3 v hh) h162 (fun v1 hh => ∃ v : Nat, v1 = (v : Int) ∧ v ≤ 24 ∧ A2 hh ∧ D2 v hh) (fun v1 _ => (25 - v1).toNat) (by
    rintro v1 hh hb1 ⟨v, rfl, hv, hA, hD⟩
    obtain ⟨⟨f, e1, e2, e3, e4⟩, d1, q4⟩ := hA
    have w0 : ∀ a, (a = 172 ∨ a = 173 ∨ a = 174 ∨ a = 175 ∨ a = 177 ∨ a = 181 ∨ a = 183) → WKk a 0 := fun a q => Or.inl ⟨q, rfl⟩
    have w1 : ∀ a, (178 ≤ a ∧ a ≤ 180) → v < 24 → WKk a v := fun a q q2 => Or.inr (Or.inr (Or.inl ⟨q, q2⟩))
    unfold B_MD_keep_91
    refine ⟨fun c x3 y3 _ _ h4 y4 => ⟨0, rfl, by decide, ?_, fun j _ hj2 => absurd hj2 (Nat.not_lt_zero j)⟩, fun c => ⟨⟨by omega, by omega⟩, ⟨by omega, by omega⟩, ?_⟩⟩
    · have ev : v = 24 := by omega
      subst ev
      have g : ∀ a k, a ≠ 181 → h4.2.1 a k = hh.2.1 a k := fun a k q => mm_i y4 (by omega)
      exact ⟨⟨⟨fr_i f y4 (w0 _ (by omega)), by rw [g _ _ (by decide)]; exact e1, by rw [g _ _ (by decide)]; exact e2, by rw [g _ _ (by decide)]; exact e3, by rw [g _ _ (by decide)]; exact e4⟩, fun j hj hj2 => by rw [g _ _ (by decide)]; exact d1 j hj hj2, by rw [g _ _ (by decide)]; exact q4⟩, fun j hj hj2 => by rw [g _ _ (by decide), g _ _ (by decide), g _ _ (by decide)]; exact hD j hj hj2, by rw [mv_i y4, y3, fr_g f (by omega)]; exact a5⟩
    · have ek : ((v : Int) + 24).toNat = 24 + v := by omega
      rw [ek, tn_c]
      intro x9 y9 _ _
      refine ⟨⟨by omega, by omega⟩, fun h12 y12 x16 y16 _ _ h17 y17 x21 y21 _ _ h22 y22 => ⟨⟨by omega, by omega⟩, ⟨v + 1, by omega, by omega, ?_, fun j hj hj2 => ?_⟩, by omega⟩⟩
      · have f3 : fr (fun a k => (178 ≤ a ∧ a ≤ 180) ∧ k = v) hh h22 := fr_i (fr_i (fr_i fr_0 y12 (by omega)) y17 (by omega)) y22 (by omega)
        have g : ∀ a k, ¬ (178 ≤ a ∧ a ≤ 180) → h22.2.1 a k = hh.2.1 a k := fun a k q => fr_g f3 (by omega)
        exact ⟨⟨fr_t f f3 (fun a k w => by rw [w.2]; exact w1 a w.1 (by omega)), by rw [g _ _ (by decide)]; exact e1, by rw [g _ _ (by decide)]; exact e2, by rw [g _ _ (by decide)]; exact e3, by rw [g _ _ (by decide)]; exact e4⟩, fun j hj hj2 => by rw [g _ _ (by decide)]; exact d1 j hj hj2, by rw [g _ _ (by decide)]; exact q4⟩
      · by_cases cj : j = v
        · subst cj
          rw [mm_i y22 (by omega), mm_i y17 (by omega), mv_i y12, mm_i y22 (by omega), mv_i y17, mv_i y22, y9, y16, y21, mm_i y17 (by omega), mm_i y12 (by omega), mm_i y12 (by omega), fr_g f (by omega), fr_g f (by omega), fr_g f (by omega)]; exact ru j hj
        · rw [mm_i y22 (by omega), mm_i y17 (by omega), mm_i y12 (by omega), mm_i y22 (by omega), mm_i y17 (by omega), mm_i y12 (by omega), mm_i y22 (by omega), mm_i y17 (by omega), mm_i y12 (by omega)]; exact hD j hj (by omega))
  have h50 := lp_MD_keep_50 (G := G) (s := s) (X91 := fun v1 hh => ∃ v : Nat, v1 = (v : Int) ∧ v ≤ 24 ∧ A2 hh ∧ D2 v hh) h91 (fun v1 hh => ∃ v : Nat, v1 = (v : Int) ∧ v ≤ 8 ∧ A1 hh ∧ D1 v hh) (fun v1 _ => (9 - v1).toNat) (by
    rintro v1 hh hb1 ⟨v, rfl, hv, hA, hD⟩
    obtain ⟨f, e1, e2, e3, e4⟩ := hA
    have w0 : ∀ a, (a = 172 ∨ a = 173 ∨ a = 174 ∨ a = 175 ∨ a = 177 ∨ a = 181 ∨ a = 183) → WKk a 0 := fun a q => Or.inl ⟨q, rfl⟩
    unfold B_MD_keep_50
    refine ⟨fun c x3 y3 _ _ h4 y4 => ⟨0, rfl, by decide, ?_, fun j _ hj2 => absurd hj2 (Nat.not_lt_zero j)⟩, fun c => ⟨⟨by omega, by omega⟩, ⟨by omega, by omega⟩, ?_⟩⟩
    · have ev : v = 8 := by omega
      subst ev
      have g : ∀ a k, a ≠ 177 → h4.2.1 a k = hh.2.1 a k := fun a k q => mm_i y4 (by omega)
      exact ⟨⟨fr_i f y4 (w0 _ (by omega)), by rw [g _ _ (by decide)]; exact e1, by rw [g _ _ (by decide)]; exact e2, by rw [g _ _ (by decide)]; exact e3, by rw [g _ _ (by decide)]; exact e4⟩, fun j hj hj2 => by rw [g _ _ (by decide)]; exact hD j hj hj2, by rw [mv_i y4, y3, fr_g f (by omega)]; exact a4⟩
    · have ek : ((v : Int) + 8).toNat = 8 + v := by omega
      rw [ek, tn_c]
      intro x9 y9 _ _
      refine ⟨⟨by omega, by omega⟩, fun h12 y12 => ⟨⟨by omega, by omega⟩, ⟨v + 1, by omega, by omega, ?_, fun j hj hj2 => ?_⟩, by omega⟩⟩
      · have g : ∀ a k, a ≠ 176 → h12.2.1 a k = hh.2.1 a k := fun a k q => mm_i y12 (by omega)
        exact ⟨fr_i f y12 (Or.inr (Or.inl ⟨rfl, by omega⟩)), by rw [g _ _ (by decide)]; exact e1, by rw [g _ _ (by decide)]; exact e2, by rw [g _ _ (by decide)]; exact e3, by rw [g _ _ (by decide)]; exact e4⟩
      · by_cases cj : j = v
        · subst cj
          rw [mv_i y12, y9, fr_g f (by omega)]; exact l j hj
        · rw [mm_i y12 (by omega)]; exact hD j hj (by omega))
  refine c_MD_keep (X50 := fun v1 hh => ∃ v : Nat, v1 = (v : Int) ∧ v ≤ 8 ∧ A1 hh ∧ D1 v hh) h50 hb0 ?_
  have w0 : ∀ a, (a = 172 ∨ a = 173 ∨ a = 174 ∨ a = 175 ∨ a = 177 ∨ a = 181 ∨ a = 183) → WKk a 0 := fun a q => Or.inl ⟨q, rfl⟩
  unfold B_MD_keep_0
  intro x3 e3 _ _ h4 e4 x8 e8 _ _ h9 e9 x13 e13 _ _ h14 e14 x18 e18 _ _ h19 e19
  refine ⟨0, rfl, by decide, ⟨fr_i (fr_i (fr_i (fr_i fr_0 e4 (w0 _ (by omega))) e9 (w0 _ (by omega))) e14 (w0 _ (by omega))) e19 (w0 _ (by omega)), ?_, ?_, ?_, ?_⟩, fun j _ hj2 => absurd hj2 (Nat.not_lt_zero j)⟩
  · rw [mm_i e19 (by omega), mm_i e14 (by omega), mm_i e9 (by omega), mv_i e4, e3]; exact a7
  · rw [mm_i e19 (by omega), mm_i e14 (by omega), mv_i e9, e8, mm_i e4 (by omega)]; exact a1
  · rw [mm_i e19 (by omega), mv_i e14, e13, mm_i e9 (by omega), mm_i e4 (by omega)]; exact a2
  · rw [mv_i e19, e18, mm_i e14 (by omega), mm_i e9 (by omega), mm_i e4 (by omega)]; exact a3

/-! ===== faults have numbers 1 to 7 ===== -/
def FN7 {β : Type} (R : F_T ⊕ β) : Prop := ∀ q, R = .inl q → 1 ≤ q.1 ∧ q.1 ≤ 7
theorem FN_r {β : Type} {x : β} : FN7 (.inr x : F_T ⊕ β) := fun q e => by cases e
theorem FN_l {β : Type} {a b : Int} (h : 1 ≤ a ∧ a ≤ 7) : FN7 (.inl (a, b) : F_T ⊕ β) := fun q e => by cases e; exact h
theorem FN_c {β : Type} {t : tk_T} {i : Nat} : FN7 (.inl (cn t i) : F_T ⊕ β) := FN_l ⟨by split <;> decide, by split <;> decide⟩
theorem FN_b {β γ : Type} {x : F_T ⊕ β} {f : β → F_T ⊕ γ} (h : FN7 x) (h2 : ∀ b, FN7 (f b)) : FN7 (bnd x f) := by
  rcases x with q | b
  · intro q' e; cases e; exact h q rfl
  · exact h2 b
theorem FN_i {β : Type} {p : Prop} [Decidable p] {x y : F_T ⊕ β} (h : FN7 x) (h2 : FN7 y) : FN7 (if p then x else y) := by split <;> assumption
theorem FN_n {t : tk_T} {i : Nat} {most : Int} {pw : Bool} : FN7 (sp_num t i most pw) := FN_i (FN_i FN_r (FN_l (by decide))) FN_c
theorem FN_t {t : tk_T} {i : Nat} {k : Int} : FN7 (sp_take t i k) := FN_i FN_r FN_c
theorem FN_a {t : tk_T} {i : Nat} {π : pm_T} : FN7 (sp_adm t i π) := FN_i FN_r (FN_l (by decide))
theorem FN_ch {t : tk_T} : ∀ (f i : Nat) (π : pm_T), FN7 (sp_chord t f i π)
  | 0, _, _ => FN_l (by decide)
  | f + 1, i, π => FN_i (FN_i (FN_l (by decide)) (FN_i (FN_l ⟨by split <;> decide, by split <;> decide⟩) (FN_b FN_a (fun _ => FN_i FN_r (FN_ch f _ _))))) FN_c
theorem FN_s {t : tk_T} {i : Nat} {π : pm_T} : FN7 (sp_sound t i π) := FN_i (FN_b FN_a (fun _ => FN_r)) (FN_i (FN_b FN_a (fun _ => FN_r)) (FN_ch _ _ _))
theorem FN_d {t : tk_T} : ∀ (f i : Nat) (d : Int), FN7 (sp_dots t f i d)
  | 0, _, _ => FN_l (by decide)
  | f + 1, i, d => FN_i (FN_i (FN_l (by decide)) (FN_d f _ _)) FN_r
theorem FN_e {t : tk_T} {i : Nat} {π : pm_T} : FN7 (sp_event t i π) := FN_b FN_s (fun _ => FN_b FN_n (fun _ => FN_b (FN_d _ _ _) (fun _ => FN_i (FN_i (FN_l (by decide)) FN_r) FN_r)))
theorem FN_x {t : tk_T} {i : Nat} {π : pm_T} : FN7 (sp_times t i π) := FN_b FN_n (fun _ => FN_b FN_t (fun _ => FN_b FN_n (fun _ => FN_b FN_t (fun _ => FN_r))))
theorem FN_p {t : tk_T} {i : Nat} {π : pm_T} : FN7 (sp_part t i π) := FN_i FN_r (FN_i (FN_i FN_e (FN_l (by decide))) (FN_i (FN_i FN_r (FN_l (by decide))) (FN_i (FN_i FN_r (FN_l (by decide))) (FN_i (FN_i FN_x (FN_l (by decide))) FN_c))))
theorem FN_pits {t : tk_T} : ∀ (f i : Nat) (μ : pm_T), FN7 (sp_pits t f i μ)
  | 0, _, _ => FN_l (by decide)
  | f + 1, i, μ => FN_i (FN_i (FN_l (by decide)) (FN_i FN_r (FN_pits f _ _))) FN_c
theorem FN_name {t : tk_T} {i : Nat} {μ : pm_T} : FN7 (sp_name t i μ) := FN_i (FN_i FN_r (FN_i (FN_l (by decide)) FN_r)) FN_c
theorem FN_rows {t : tk_T} : ∀ (f i : Nat) (μ : pm_T), FN7 (sp_rows t f i μ)
  | 0, _, _ => FN_l (by decide)
  | f + 1, i, μ => FN_i (FN_i (FN_b FN_name (fun _ => FN_i FN_r (FN_rows f _ _))) (FN_l (by decide))) FN_c
theorem FN_parts {t : tk_T} : ∀ (f i : Nat) (π : pm_T), FN7 (sp_parts t f i π)
  | 0, _, _ => FN_l (by decide)
  | f + 1, i, π => FN_i FN_r (FN_b FN_p (fun _ => FN_parts f _ _))
theorem FN_time {t : tk_T} {i : Nat} {μ : pm_T} : FN7 (sp_time t i μ) := FN_i (FN_b FN_n (fun _ => FN_b FN_t (fun _ => FN_b FN_n (fun _ => FN_b FN_t (fun _ => FN_r))))) (FN_l (by decide))
theorem FN_line {t : tk_T} {i : Nat} {μ : pm_T} : FN7 (sp_line t i μ) := FN_i (FN_pits _ _ _) (FN_l (by decide))
theorem FN_rule {t : tk_T} {i : Nat} {μ : pm_T} : FN7 (sp_rule t i μ) := FN_i (FN_b FN_name (fun _ => FN_b FN_t (fun _ => FN_b FN_name (fun _ => FN_i (FN_b FN_name (fun _ => FN_b FN_t (fun _ => FN_r))) (FN_b FN_t (fun _ => FN_r)))))) (FN_l (by decide))
theorem FN_row {t : tk_T} {i : Nat} {μ : pm_T} : FN7 (sp_row t i μ) := FN_i (FN_rows _ _ _) (FN_l (by decide))
theorem FN_voice {t : tk_T} {i : Nat} {μ : pm_T} : FN7 (sp_voice t i μ) := FN_i (FN_b (FN_parts _ _ _) (fun _ => FN_i (FN_l (by decide)) (FN_i FN_r (FN_l (by decide))))) (FN_l (by decide))
theorem FN_item {t : tk_T} {i : Nat} {μ : pm_T} : FN7 (sp_item t i μ) := FN_i FN_time (FN_i FN_voice (FN_i FN_line (FN_i FN_rule (FN_i FN_row FN_c))))
theorem FN_items {t : tk_T} : ∀ (f i : Nat) (μ : pm_T), FN7 (sp_items t f i μ)
  | 0, _, _ => FN_l (by decide)
  | f + 1, i, μ => by
    by_cases c : tK t i = 256
    · rw [sp_items, if_pos c]; exact FN_r
    · rw [sp_items_e c]; exact FN_b FN_item (fun _ => FN_items f _ _)
theorem FN_score {t : tk_T} : FN7 (sp_score t) := FN_items _ _ _

/-! ===== the reference: score ===== -/
/-- the EVENTS of the first n voices -/
def evs (μ : pm_T) : Nat → Int
  | 0 => 0
  | n + 1 => evs μ n + μ (10 + n) 0
theorem evs_b {μ : pm_T} : ∀ n, (∀ k, k < n → 0 ≤ μ (10 + k) 0 ∧ μ (10 + k) 0 ≤ 300) → 0 ≤ evs μ n ∧ evs μ n ≤ 300 * n
  | 0, _ => ⟨Int.le_refl _, Int.le_refl _⟩
  | n + 1, h => by
    have := evs_b n (fun k hk => h k (by omega))
    have := h n (by omega)
    rw [evs]; omega
abbrev WSf : Nat → Nat → Prop := fun a k => WJb a k ∨ (a = 170 ∧ (k = 1 ∨ k = 2 ∨ k = 13))
def PSm (R : F_T ⊕ pm_T) (z : Int) (h h' : ah_T) : Prop := match R with
  | .inl q => z = -10 - q.1 ∧ q.1 ≠ 0 ∧ h'.2.1 170 13 = q.2 ∧ fr WSf h h'
  | .inr μ => z = evs μ (μ 0 7).toNat ∧ h'.2.1 170 13 = -2 ∧ KSn μ h' ∧ h'.2.1 173 0 = μ 0 1 ∧ h'.2.1 174 0 = μ 0 2 ∧ h'.2.1 170 80 = 0 ∧ h'.2.1 170 85 = 0 ∧ h'.2.1 170 89 = 0 ∧ h'.2.1 170 91 = 0 ∧ h'.2.1 170 98 = 0 ∧ h'.2.1 170 104 = 0 ∧ h'.2.1 170 105 = 0
theorem WJb_170 : ∀ a k, WJb a k → 170 ≤ a := by
  intro a k q
  rcases q with (q | q | q | q | q | q) | q | q | q | q | q <;> omega
theorem KSn_g {μ : pm_T} {h h' : ah_T} (H : KSn μ h) (g : ∀ a k, WKk a k → h'.2.1 a k = h.2.1 a k ∧ h'.2.2.1 a k = h.2.2.1 a k) : KSn μ h' := by
  obtain ⟨⟨a1, a2, a3, a4⟩, ⟨b3, b4, b5, b7⟩, l, ru, ro, vo⟩ := H
  have g0 : ∀ a, (a = 172 ∨ a = 173 ∨ a = 174 ∨ a = 175 ∨ a = 177 ∨ a = 181 ∨ a = 183) → h'.2.1 a 0 = h.2.1 a 0 := fun a q => (g a 0 (Or.inl ⟨q, rfl⟩)).1
  refine ⟨⟨by rw [g0 _ (by omega)]; exact a1, by rw [g0 _ (by omega)]; exact a2, by rw [g0 _ (by omega)]; exact a3, by rw [g0 _ (by omega)]; exact a4⟩, ⟨b3, b4, b5, b7⟩, fun j hj => ?_, fun j hj => ?_, fun j hj => ?_, fun n hn => RVm_g (vo n hn) (fun a k q => g a k ?_)⟩
  · rw [(g 176 j (Or.inr (Or.inl ⟨rfl, by omega⟩))).1]; exact l j hj
  · have q : ∀ a, (178 ≤ a ∧ a ≤ 180) → WKk a j := fun a w => Or.inr (Or.inr (Or.inl ⟨w, by omega⟩))
    rw [(g 178 j (q _ (by omega))).1, (g 179 j (q _ (by omega))).1, (g 180 j (q _ (by omega))).1]; exact ru j hj
  · rw [(g 182 j (Or.inr (Or.inr (Or.inr (Or.inl ⟨rfl, by omega⟩))))).1]; exact ro j hj
  · rcases q with ⟨w1, w2⟩ | ⟨w1, w2, w3⟩ | ⟨w1, w2, w3⟩ | ⟨w1, w2, w3⟩
    · exact Or.inr (Or.inr (Or.inr (Or.inr (Or.inl ⟨w1, by omega⟩))))
    · exact Or.inr (Or.inr (Or.inr (Or.inr (Or.inr (Or.inl ⟨w1, by omega⟩)))))
    · exact Or.inr (Or.inr (Or.inr (Or.inr (Or.inr (Or.inr (Or.inl ⟨w1, by omega⟩))))))
    · exact Or.inr (Or.inr (Or.inr (Or.inr (Or.inr (Or.inr (Or.inr ⟨w1, by omega⟩))))))
/-- a fault leaves what is kept -/
theorem WSf_k : ∀ a k, WKk a k → ¬ WSf a k := by
  intro a k p q
  rcases p with ⟨p1, p2⟩ | ⟨p1, p2⟩ | ⟨p1, p2⟩ | ⟨p1, p2⟩ | ⟨p1, p2⟩ | ⟨p1, p2⟩ | ⟨p1, p2⟩ | ⟨p1, p2⟩ <;> (rcases q with ((q | q | q | q | q | q) | q | q | q | q | q) | q <;> omega)
theorem t_MD_score {G : cx_T} {s : Nat} {h : ah_T} {X : tx_T} (hb0 : hb s h) (hA : XA X) (h1 : h.2.1 170 1 = (X.2.1 : Int)) (hn : X.2.1 ≤ 2000) (hT : ∀ j, j < X.2.1 → h.2.1 171 j = X.1 j ∧ 0 ≤ X.1 j ∧ X.1 j ≤ 255) :
    con G 8 0 0 m_MD_score [av_R (some 170)] h (fun r h' => ∃ z, r = some (av_I z) ∧ hb s h' ∧ fr (fun a _ => 170 ≤ a) h h' ∧ h'.2.1 170 1 = 0 ∧ PSm (sp_score X.2.2.1) z h h') := by
  generalize es : sp_score X.2.2.1 = R
  refine c_MD_score (X95 := fun v1 v2 hh => fr (fun a _ => 170 ≤ a) h hh ∧ hh.2.1 170 1 = 0 ∧ ∃ (μ : pm_T) (n : Nat), R = .inr μ ∧ v2 = (n : Int) ∧ (n : Int) ≤ μ 0 7 ∧ v1 = evs μ n ∧ hh.2.1 170 13 = -2 ∧ KSn μ hh ∧ hh.2.1 173 0 = μ 0 1 ∧ hh.2.1 174 0 = μ 0 2 ∧ hh.2.1 170 80 = 0 ∧ hh.2.1 170 85 = 0 ∧ hh.2.1 170 89 = 0 ∧ hh.2.1 170 91 = 0 ∧ hh.2.1 170 98 = 0 ∧ hh.2.1 170 104 = 0 ∧ hh.2.1 170 105 = 0) ?_ hb0 ?_
  · refine lp_MD_score_95 _ (fun _ v2 _ => (9 - v2).toNat) ?_
    rintro v1 v2 hh hb1 ⟨f, c1, μ, n, er, rfl, hn', rfl, c13, K, rest⟩
    have hv := K.2.2.2.2.2
    have h74 := K.2.1.2.2.2
    have bn := evs_b (μ := μ) n (fun k hk => (hv k (by omega)).2.1.1)
    unfold B_MD_score_95
    intro x2 e2 _ _
    have ex2 : x2 = μ 0 7 := e2.trans K.1.1
    subst ex2
    refine ⟨fun c => ⟨_, rfl, hb1, f, c1, ?_⟩, fun c => ⟨⟨by omega, by omega⟩, ?_⟩⟩
    · have : (μ 0 7).toNat = n := by omega
      rw [er]
      exact ⟨by rw [this], c13, K, rest⟩
    · rw [tn_c]
      intro x4 e4 _ _
      have ex4 : x4 = μ (10 + n) 0 := e4.trans (hv n (by omega)).1.1
      have bx := (hv n (by omega)).2.1.1
      exact ⟨⟨by omega, by omega⟩, ⟨by omega, by omega⟩, ⟨f, c1, μ, n + 1, er, by omega, by omega, by rw [evs, ex4], c13, K, rest⟩, by omega⟩
  · unfold B_MD_score_0
    intro x1 e1 _ _ h2 e2 h4 e4 h6 e6 h8 e8 h10 e10
    have ex1 : x1 = (X.2.1 : Int) := e1.trans h1
    have f10 : fr (fun a k => a = 170 ∧ (k = 1 ∨ k = 2 ∨ k = 3 ∨ k = 11 ∨ k = 13)) h h10 := fr_i (fr_i (fr_i (fr_i (fr_i fr_0 e2 (by omega)) e4 (by omega)) e6 (by omega)) e8 (by omega)) e10 (by omega)
    have f10' : fr WSf h h10 := fr_w f10 (fun a k w => by
      obtain ⟨w1, w2⟩ := w
      by_cases q : k = 3 ∨ k = 11
      · exact Or.inl (Or.inl (Or.inl ⟨w1, Or.inl (by omega)⟩))
      · exact Or.inr ⟨w1, by omega⟩)
    have hb10 := hb_i (hb_i (hb_i (hb_i (hb_i hb0 e2) e4) e6) e8) e10
    have M10 : MT X.1 X.2.1 h10 := ⟨by rw [mm_i e10 (by omega), mm_i e8 (by omega), mm_i e6 (by omega), mm_i e4 (by omega), mv_i e2, ex1], hn, fun j hj => by rw [fr_g f10 (by omega)]; exact hT j hj⟩
    refine con_mono (t_MD_parse hb10 hA M10 (by rw [mm_i e10 (by omega), mm_i e8 (by omega), mv_i e6]) (by rw [mm_i e10 (by omega), mv_i e8])) ?_
    rw [es]
    rintro r h12 ⟨z, rfl, hb12, f12, z01, p⟩
    have m1 : h12.2.1 170 1 = 0 := by rw [fr_g f12 (by omega), mm_i e10 (by omega), mm_i e8 (by omega), mm_i e6 (by omega), mv_i e4]
    have m13 : h12.2.1 170 13 = -2 := by rw [fr_g f12 (by omega), mv_i e10]
    have ff : fr (fun a _ => 170 ≤ a) h h12 := fr_t (fr_w f10 (fun a k w => by omega)) f12 WJb_170
    refine ⟨z, rfl, hb12, fun c x32 e32 _ _ h33 e33 x35 e35 _ _ => ?_, fun c => ?_⟩
    · rcases R with q | μ
      · obtain ⟨rfl, q0, w1, w2⟩ := p
        have ex32 : x32 = q.2 := e32.trans w2
        have ex35 : x35 = q.1 := by rw [e35, mm_i e33 (by omega)]; exact w1
        rw [ex35]
        have fb := FN_score (t := X.2.2.1) q es
        refine ⟨⟨by omega, by omega⟩, -q.1 - 10, rfl, hb_i hb12 e33, fr_i ff e33 (by decide), by rw [mm_i e33 (by omega)]; exact m1, by omega, q0, by rw [mv_i e33, ex32], fr_i (fr_t f10' f12 (fun a k w => Or.inl w)) e33 (Or.inr ⟨rfl, by omega⟩)⟩
      · exact absurd p.1 (by omega)
    · rcases R with q | μ
      · exact absurd p.1 c
      · obtain ⟨-, i, HS, HV⟩ := p
        refine con_mono (t_MD_keep hb12 HS.2.1 HV) ?_
        rintro r h15 ⟨rfl, hb15, f15, K, t1, t2⟩
        refine ⟨rfl, hb15, fun h18 e18 h20 e20 h22 e22 h24 e24 h26 e26 h28 e28 h30 e30 => ?_⟩
        have f30 : fr (fun a k => a = 170 ∧ (80 ≤ k ∧ k ≤ 105)) h15 h30 := fr_i (fr_i (fr_i (fr_i (fr_i (fr_i (fr_i fr_0 e18 (by omega)) e20 (by omega)) e22 (by omega)) e24 (by omega)) e26 (by omega)) e28 (by omega)) e30 (by omega)
        have W170 : ∀ a k, WKk a k → 171 ≤ a := by
          intro a k p
          rcases p with ⟨p1, p2⟩ | ⟨p1, p2⟩ | ⟨p1, p2⟩ | ⟨p1, p2⟩ | ⟨p1, p2⟩ | ⟨p1, p2⟩ | ⟨p1, p2⟩ | ⟨p1, p2⟩ <;> omega
        have g15 : ∀ k, h15.2.1 170 k = h12.2.1 170 k := fun k => fr_g f15 (fun w => by have := W170 _ _ w; omega)
        refine ⟨fr_t (fr_t ff f15 (fun a k w => by have := W170 _ _ w; omega)) f30 (fun a k w => by omega), by rw [fr_g f30 (by omega), g15]; exact m1, μ, 0, rfl, rfl, K.2.1.2.2.2.1, rfl, by rw [fr_g f30 (by omega), g15]; exact m13, KSn_g K (fun a k q => ?_), by rw [fr_g f30 (by omega)]; exact t1, by rw [fr_g f30 (by omega)]; exact t2, ?_, ?_, ?_, ?_, ?_, ?_, mv_i e30⟩
        · have := W170 a k q
          exact ⟨fr_g f30 (by omega), fr_gl f30 (by omega)⟩
        · rw [mm_i e30 (by omega), mm_i e28 (by omega), mm_i e26 (by omega), mm_i e24 (by omega), mm_i e22 (by omega), mm_i e20 (by omega), mv_i e18]
        · rw [mm_i e30 (by omega), mm_i e28 (by omega), mm_i e26 (by omega), mm_i e24 (by omega), mm_i e22 (by omega), mv_i e20]
        · rw [mm_i e30 (by omega), mm_i e28 (by omega), mm_i e26 (by omega), mm_i e24 (by omega), mv_i e22]
        · rw [mm_i e30 (by omega), mm_i e28 (by omega), mm_i e26 (by omega), mv_i e24]
        · rw [mm_i e30 (by omega), mm_i e28 (by omega), mv_i e26]
        · rw [mm_i e30 (by omega), mv_i e28]

/-! ===== verification conditions, 508 ===== -/
def B_Judge_forget_0 (G : cx_T) (s : Nat) (h : ah_T) (Q : Option av_T → ah_T → Prop) : Prop :=
 ∀ h1 : ah_T, h1 = st_i h 143 1 0 → Q none h1
theorem b_Judge_forget_0 {G : cx_T} {s : Nat} {h : ah_T} {Q : Option av_T → ah_T → Prop} (hb0 : hb s h) (H : B_Judge_forget_0 G s h Q ) : aw G (rm_R 0 0 0) m_Judge_forget 0 0 0 [some (av_R (some 143))] [] h Q := by
  unfold B_Judge_forget_0 at H
  have hS : isS s := hb0.2.1
  refine A_aload_n 0 d_Judge_forget_0 rfl rfl ?_
  refine A_iconst d_Judge_forget_1 rfl ?_
  refine A_putI T_ok d_Judge_forget_2 f_Judge_18 (hb_s hb0 sf_143) fin_f ?_
  refine A_hn (fun h1 eh1 => ?_)
  have hb2 := hb_i hb0 eh1
  replace H := H h1 eh1
  exact A_vret d_Judge_forget_5 (by decide) rfl H
theorem c_Judge_forget {G : cx_T} {s : Nat} {h : ah_T} {Q : Option av_T → ah_T → Prop} (hb0 : hb s h) (H : B_Judge_forget_0 G s h Q ) : con G 0 0 0 m_Judge_forget [av_R (some 143)] h Q := by
  have hS : isS s := hb0.2.1
  refine con_of (L := [some (av_R (some 143))]) (by decide +kernel) (Nat.le_of_ble_eq_true rfl) rfl ?_
  exact b_Judge_forget_0   hb0 (H )
def B_Beams_forget_0 (G : cx_T) (s : Nat) (h : ah_T) (Q : Option av_T → ah_T → Prop) : Prop :=
 ∀ h1 : ah_T, h1 = st_i h 146 1 0 → Q none h1
theorem b_Beams_forget_0 {G : cx_T} {s : Nat} {h : ah_T} {Q : Option av_T → ah_T → Prop} (hb0 : hb s h) (H : B_Beams_forget_0 G s h Q ) : aw G (rm_R 0 0 0) m_Beams_forget 0 0 0 [some (av_R (some 146))] [] h Q := by
  unfold B_Beams_forget_0 at H
  have hS : isS s := hb0.2.1
  refine A_aload_n 0 d_Beams_forget_0 rfl rfl ?_
  refine A_iconst d_Beams_forget_1 rfl ?_
  refine A_putI T_ok d_Beams_forget_2 f_Beams_21 (hb_s hb0 sf_146) fin_f ?_
  refine A_hn (fun h1 eh1 => ?_)
  have hb2 := hb_i hb0 eh1
  replace H := H h1 eh1
  exact A_vret d_Beams_forget_5 (by decide) rfl H
theorem c_Beams_forget {G : cx_T} {s : Nat} {h : ah_T} {Q : Option av_T → ah_T → Prop} (hb0 : hb s h) (H : B_Beams_forget_0 G s h Q ) : con G 0 0 0 m_Beams_forget [av_R (some 146)] h Q := by
  have hS : isS s := hb0.2.1
  refine con_of (L := [some (av_R (some 146))]) (by decide +kernel) (Nat.le_of_ble_eq_true rfl) rfl ?_
  exact b_Beams_forget_0   hb0 (H )
def B_Page_forget_0 (G : cx_T) (s : Nat) (h : ah_T) (Q : Option av_T → ah_T → Prop) : Prop :=
 ∀ h1 : ah_T, h1 = st_i h 150 1 0 → Q none h1
theorem b_Page_forget_0 {G : cx_T} {s : Nat} {h : ah_T} {Q : Option av_T → ah_T → Prop} (hb0 : hb s h) (H : B_Page_forget_0 G s h Q ) : aw G (rm_R 0 0 0) m_Page_forget 0 0 0 [some (av_R (some 150))] [] h Q := by
  unfold B_Page_forget_0 at H
  have hS : isS s := hb0.2.1
  refine A_aload_n 0 d_Page_forget_0 rfl rfl ?_
  refine A_iconst d_Page_forget_1 rfl ?_
  refine A_putI T_ok d_Page_forget_2 f_Page_34 (hb_s hb0 sf_150) fin_f ?_
  refine A_hn (fun h1 eh1 => ?_)
  have hb2 := hb_i hb0 eh1
  replace H := H h1 eh1
  exact A_vret d_Page_forget_5 (by decide) rfl H
theorem c_Page_forget {G : cx_T} {s : Nat} {h : ah_T} {Q : Option av_T → ah_T → Prop} (hb0 : hb s h) (H : B_Page_forget_0 G s h Q ) : con G 0 0 0 m_Page_forget [av_R (some 150)] h Q := by
  have hS : isS s := hb0.2.1
  refine con_of (L := [some (av_R (some 150))]) (by decide +kernel) (Nat.le_of_ble_eq_true rfl) rfl ?_
  exact b_Page_forget_0   hb0 (H )
def B_Seconds_forget_0 (G : cx_T) (s : Nat) (h : ah_T) (Q : Option av_T → ah_T → Prop) : Prop :=
 ∀ h1 : ah_T, h1 = st_i h 158 1 0 → Q none h1
theorem b_Seconds_forget_0 {G : cx_T} {s : Nat} {h : ah_T} {Q : Option av_T → ah_T → Prop} (hb0 : hb s h) (H : B_Seconds_forget_0 G s h Q ) : aw G (rm_R 0 0 0) m_Seconds_forget 0 0 0 [some (av_R (some 158))] [] h Q := by
  unfold B_Seconds_forget_0 at H
  have hS : isS s := hb0.2.1
  refine A_aload_n 0 d_Seconds_forget_0 rfl rfl ?_
  refine A_iconst d_Seconds_forget_1 rfl ?_
  refine A_putI T_ok d_Seconds_forget_2 f_Seconds_22 (hb_s hb0 sf_158) fin_f ?_
  refine A_hn (fun h1 eh1 => ?_)
  have hb2 := hb_i hb0 eh1
  replace H := H h1 eh1
  exact A_vret d_Seconds_forget_5 (by decide) rfl H
theorem c_Seconds_forget {G : cx_T} {s : Nat} {h : ah_T} {Q : Option av_T → ah_T → Prop} (hb0 : hb s h) (H : B_Seconds_forget_0 G s h Q ) : con G 0 0 0 m_Seconds_forget [av_R (some 158)] h Q := by
  have hS : isS s := hb0.2.1
  refine con_of (L := [some (av_R (some 158))]) (by decide +kernel) (Nat.le_of_ble_eq_true rfl) rfl ?_
  exact b_Seconds_forget_0   hb0 (H )
def B_Trees_forget_0 (G : cx_T) (s : Nat) (h : ah_T) (Q : Option av_T → ah_T → Prop) : Prop :=
 ∀ h1 : ah_T, h1 = st_i h 162 1 0 → Q none h1
theorem b_Trees_forget_0 {G : cx_T} {s : Nat} {h : ah_T} {Q : Option av_T → ah_T → Prop} (hb0 : hb s h) (H : B_Trees_forget_0 G s h Q ) : aw G (rm_R 0 0 0) m_Trees_forget 0 0 0 [some (av_R (some 162))] [] h Q := by
  unfold B_Trees_forget_0 at H
  have hS : isS s := hb0.2.1
  refine A_aload_n 0 d_Trees_forget_0 rfl rfl ?_
  refine A_iconst d_Trees_forget_1 rfl ?_
  refine A_putI T_ok d_Trees_forget_2 f_Trees_15 (hb_s hb0 sf_162) fin_f ?_
  refine A_hn (fun h1 eh1 => ?_)
  have hb2 := hb_i hb0 eh1
  replace H := H h1 eh1
  exact A_vret d_Trees_forget_5 (by decide) rfl H
theorem c_Trees_forget {G : cx_T} {s : Nat} {h : ah_T} {Q : Option av_T → ah_T → Prop} (hb0 : hb s h) (H : B_Trees_forget_0 G s h Q ) : con G 0 0 0 m_Trees_forget [av_R (some 162)] h Q := by
  have hS : isS s := hb0.2.1
  refine con_of (L := [some (av_R (some 162))]) (by decide +kernel) (Nat.le_of_ble_eq_true rfl) rfl ?_
  exact b_Trees_forget_0   hb0 (H )
def B_Pairing_forget_0 (G : cx_T) (s : Nat) (h : ah_T) (Q : Option av_T → ah_T → Prop) : Prop :=
 ∀ h1 : ah_T, h1 = st_i h 164 5 0 → ∀ h3 : ah_T, h3 = st_i h1 164 7 0 → Q none h3
theorem b_Pairing_forget_0 {G : cx_T} {s : Nat} {h : ah_T} {Q : Option av_T → ah_T → Prop} (hb0 : hb s h) (H : B_Pairing_forget_0 G s h Q ) : aw G (rm_R 0 0 0) m_Pairing_forget 0 0 0 [some (av_R (some 164))] [] h Q := by
  unfold B_Pairing_forget_0 at H
  have hS : isS s := hb0.2.1
  refine A_aload_n 0 d_Pairing_forget_0 rfl rfl ?_
  refine A_iconst d_Pairing_forget_1 rfl ?_
  refine A_putI T_ok d_Pairing_forget_2 f_Pairing_27 (hb_s hb0 sf_164) fin_f ?_
  refine A_hn (fun h1 eh1 => ?_)
  have hb2 := hb_i hb0 eh1
  replace H := H h1 eh1
  refine A_aload_n 0 d_Pairing_forget_5 rfl rfl ?_
  refine A_iconst d_Pairing_forget_6 rfl ?_
  refine A_pc (pc' := 7) rfl ?_
  refine A_putI T_ok d_Pairing_forget_7 f_Pairing_31 (hb_s hb2 sf_164) fin_f ?_
  refine A_hn (fun h3 eh3 => ?_)
  have hb4 := hb_i hb2 eh3
  replace H := H h3 eh3
  exact A_vret d_Pairing_forget_10 (by decide) rfl H
theorem c_Pairing_forget {G : cx_T} {s : Nat} {h : ah_T} {Q : Option av_T → ah_T → Prop} (hb0 : hb s h) (H : B_Pairing_forget_0 G s h Q ) : con G 0 0 0 m_Pairing_forget [av_R (some 164)] h Q := by
  have hS : isS s := hb0.2.1
  refine con_of (L := [some (av_R (some 164))]) (by decide +kernel) (Nat.le_of_ble_eq_true rfl) rfl ?_
  exact b_Pairing_forget_0   hb0 (H )
def B_PM_forgetFindings_0 (G : cx_T) (s : Nat) (h : ah_T) (Q : Option av_T → ah_T → Prop) : Prop :=
 con G 0 0 0 m_Judge_forget [av_R (some 143)] h (fun r h2 => r = none ∧ hb s h2 ∧ con G 0 0 0 m_Beams_forget [av_R (some 146)] h2 (fun r h6 => r = none ∧ hb s h6 ∧ con G 0 0 0 m_Page_forget [av_R (some 150)] h6 (fun r h10 => r = none ∧ hb s h10 ∧ con G 0 0 0 m_Seconds_forget [av_R (some 158)] h10 (fun r h14 => r = none ∧ hb s h14 ∧ con G 0 0 0 m_Trees_forget [av_R (some 162)] h14 (fun r h18 => r = none ∧ hb s h18 ∧ con G 0 0 0 m_Pairing_forget [av_R (some 164)] h18 (fun r h22 => r = none ∧ hb s h22 ∧ Q none h22))))))
theorem b_PM_forgetFindings_0 {G : cx_T} {s : Nat} {h : ah_T} {Q : Option av_T → ah_T → Prop} (hb0 : hb s h) (H : B_PM_forgetFindings_0 G s h Q ) : aw G (rm_R 1 0 0) m_PM_forgetFindings 0 0 0 [some (av_R (some 0))] [] h Q := by
  unfold B_PM_forgetFindings_0 at H
  have hS : isS s := hb0.2.1
  refine A_aload_n 0 d_PM_forgetFindings_0 rfl rfl ?_
  refine A_getOv (z := some 143) T_ok d_PM_forgetFindings_1 f_PM_37 (hb_s hb0 sf_0) (hb_r hb0 rff_0_5) ?_
  refine A_callV0 m_Judge_forget T_ok d_PM_forgetFindings_4 l_PM_96 k_Judge_forget (hb_s hb0 sf_143) rfl (by decide +kernel) (by decide) (Nat.le_of_ble_eq_true rfl) H (fun r h2 hq => ?_)
  clear H
  obtain ⟨rfl, hb3, H⟩ := hq
  refine A_aload_n 0 d_PM_forgetFindings_7 rfl rfl ?_
  refine A_getOv (z := some 146) T_ok d_PM_forgetFindings_8 f_PM_44 (hb_s hb3 sf_0) (hb_r hb3 rff_0_6) ?_
  refine A_callV0 m_Beams_forget T_ok d_PM_forgetFindings_11 l_PM_99 k_Beams_forget (hb_s hb3 sf_146) rfl (by decide +kernel) (by decide) (Nat.le_of_ble_eq_true rfl) H (fun r h6 hq => ?_)
  clear H
  obtain ⟨rfl, hb7, H⟩ := hq
  refine A_aload_n 0 d_PM_forgetFindings_14 rfl rfl ?_
  refine A_getOv (z := some 150) T_ok d_PM_forgetFindings_15 f_PM_51 (hb_s hb7 sf_0) (hb_r hb7 rff_0_7) ?_
  refine A_callV0 m_Page_forget T_ok d_PM_forgetFindings_18 l_PM_100 k_Page_forget (hb_s hb7 sf_150) rfl (by decide +kernel) (by decide) (Nat.le_of_ble_eq_true rfl) H (fun r h10 hq => ?_)
  clear H
  obtain ⟨rfl, hb11, H⟩ := hq
  refine A_aload_n 0 d_PM_forgetFindings_21 rfl rfl ?_
  refine A_getOv (z := some 158) T_ok d_PM_forgetFindings_22 f_PM_58 (hb_s hb11 sf_0) (hb_r hb11 rff_0_8) ?_
  refine A_callV0 m_Seconds_forget T_ok d_PM_forgetFindings_25 l_PM_101 k_Seconds_forget (hb_s hb11 sf_158) rfl (by decide +kernel) (by decide) (Nat.le_of_ble_eq_true rfl) H (fun r h14 hq => ?_)
  clear H
  obtain ⟨rfl, hb15, H⟩ := hq
  refine A_aload_n 0 d_PM_forgetFindings_28 rfl rfl ?_
  refine A_getOv (z := some 162) T_ok d_PM_forgetFindings_29 f_PM_65 (hb_s hb15 sf_0) (hb_r hb15 rff_0_9) ?_
  refine A_callV0 m_Trees_forget T_ok d_PM_forgetFindings_32 l_PM_102 k_Trees_forget (hb_s hb15 sf_162) rfl (by decide +kernel) (by decide) (Nat.le_of_ble_eq_true rfl) H (fun r h18 hq => ?_)
  clear H
  obtain ⟨rfl, hb19, H⟩ := hq
  refine A_aload_n 0 d_PM_forgetFindings_35 rfl rfl ?_
  refine A_getOv (z := some 164) T_ok d_PM_forgetFindings_36 f_PM_72 (hb_s hb19 sf_0) (hb_r hb19 rff_0_10) ?_
  refine A_callV0 m_Pairing_forget T_ok d_PM_forgetFindings_39 l_PM_103 k_Pairing_forget (hb_s hb19 sf_164) rfl (by decide +kernel) (by decide) (Nat.le_of_ble_eq_true rfl) H (fun r h22 hq => ?_)
  clear H
  obtain ⟨rfl, hb23, H⟩ := hq
  exact A_vret d_PM_forgetFindings_42 (by decide) rfl H
theorem c_PM_forgetFindings {G : cx_T} {s : Nat} {h : ah_T} {Q : Option av_T → ah_T → Prop} (hb0 : hb s h) (H : B_PM_forgetFindings_0 G s h Q ) : con G 1 0 0 m_PM_forgetFindings [av_R (some 0)] h Q := by
  have hS : isS s := hb0.2.1
  refine con_of (L := [some (av_R (some 0))]) (by decide +kernel) (Nat.le_of_ble_eq_true rfl) rfl ?_
  exact b_PM_forgetFindings_0   hb0 (H )
def B_PM_place_0 (G : cx_T) (s : Nat) (h : ah_T) (Q : Option av_T → ah_T → Prop) : Prop :=
 ∀ x1 : Int, x1 = h.2.1 0 4 → -2147483648 ≤ x1 → x1 ≤ 2147483647 → Q (some (av_I x1)) h
theorem b_PM_place_0 {G : cx_T} {s : Nat} {h : ah_T} {Q : Option av_T → ah_T → Prop} (hb0 : hb s h) (H : B_PM_place_0 G s h Q ) : aw G (rm_R 0 0 0) m_PM_place 0 0 0 [some (av_R (some 0))] [] h Q := by
  unfold B_PM_place_0 at H
  have hS : isS s := hb0.2.1
  refine A_aload_n 0 d_PM_place_0 rfl rfl ?_
  refine A_getIf T_ok d_PM_place_1 f_PM_31 (hb_s hb0 sf_0) (fun x1 ex1 lx1 ux1 => ?_)
  replace H := H x1 ex1 lx1 ux1
  exact A_iret d_PM_place_4 (by decide) rfl H
theorem c_PM_place {G : cx_T} {s : Nat} {h : ah_T} {Q : Option av_T → ah_T → Prop} (hb0 : hb s h) (H : B_PM_place_0 G s h Q ) : con G 0 0 0 m_PM_place [av_R (some 0)] h Q := by
  have hS : isS s := hb0.2.1
  refine con_of (L := [some (av_R (some 0))]) (by decide +kernel) (Nat.le_of_ble_eq_true rfl) rfl ?_
  exact b_PM_place_0   hb0 (H )
def B_Voice_pitchesOf_0 (G : cx_T) (s : Nat) (a0 : Nat) (a1 : Int) (h : ah_T) (Q : Option av_T → ah_T → Prop) : Prop :=
 (0 ≤ a1 ∧ a1 < 300) ∧ ∀ x2 : Int, x2 = h.2.1 (a0 + 7) (a1).toNat → -2147483648 ≤ x2 → x2 ≤ 2147483647 → ((-2147483648) ≤ (x2 + 1) ∧ (x2 + 1) ≤ 2147483647) ∧ (0 ≤ (x2 + 1) ∧ (x2 + 1) < 301) ∧ ∀ x6 : Int, x6 = h.2.1 (a0 + 3) ((x2 + 1)).toNat → -2147483648 ≤ x6 → x6 ≤ 2147483647 → (0 ≤ x2 ∧ x2 < 301) ∧ ∀ x9 : Int, x9 = h.2.1 (a0 + 3) (x2).toNat → -2147483648 ≤ x9 → x9 ≤ 2147483647 → ((-2147483648) ≤ (x6 - x9) ∧ (x6 - x9) ≤ 2147483647) ∧ Q (some (av_I (x6 - x9))) h
theorem b_Voice_pitchesOf_0 {G : cx_T} {s : Nat} {a0 : Nat} {a1 : Int} (ha0 : isV a0) {h : ah_T} {Q : Option av_T → ah_T → Prop} (hb0 : hb s h) (H : B_Voice_pitchesOf_0 G s a0 a1 h Q ) : aw G (rm_R 0 0 0) m_Voice_pitchesOf 0 0 0 [some (av_R (some a0)), some (av_I a1), none] [] h Q := by
  unfold B_Voice_pitchesOf_0 at H
  have hS : isS s := hb0.2.1
  refine A_aload_n 0 d_Voice_pitchesOf_0 rfl rfl ?_
  refine A_getAv (z := some (a0 + 7)) T_ok d_Voice_pitchesOf_1 f_Voice_31 (hs_V hb0 ha0) (hr_V_8 hb0 ha0) ?_
  refine A_iload_n 1 d_Voice_pitchesOf_4 rfl rfl ?_
  have g3 := H.1
  replace H := H.2
  refine A_ialoadf d_Voice_pitchesOf_5 (hs_V_8 hb0 ha0) g3.1 g3.2 (fun x2 ex2 lx2 ux2 => ?_)
  replace H := H x2 ex2 lx2 ux2
  refine A_istore_n 2 (L' := [some (av_R (some a0)), some (av_I a1), some (av_I x2)]) d_Voice_pitchesOf_6 rfl (Nat.le_of_ble_eq_true rfl) rfl ?_
  refine A_pc (pc' := 7) rfl ?_
  refine A_aload_n 0 d_Voice_pitchesOf_7 rfl rfl ?_
  refine A_getAv (z := some (a0 + 3)) T_ok d_Voice_pitchesOf_8 f_Voice_18 (hs_V hb0 ha0) (hr_V_3 hb0 ha0) ?_
  refine A_iload_n 2 d_Voice_pitchesOf_11 rfl rfl ?_
  refine A_iconst d_Voice_pitchesOf_12 rfl ?_
  have g5 := H.1
  replace H := H.2
  refine A_iaddv (z := (x2 + 1)) d_Voice_pitchesOf_13 (w32_to (by omega) (by unfold i32; omega)) ?_
  have g7 := H.1
  replace H := H.2
  refine A_ialoadf d_Voice_pitchesOf_14 (hs_V_3 hb0 ha0) g7.1 g7.2 (fun x6 ex6 lx6 ux6 => ?_)
  replace H := H x6 ex6 lx6 ux6
  refine A_pc (pc' := 15) rfl ?_
  refine A_aload_n 0 d_Voice_pitchesOf_15 rfl rfl ?_
  refine A_getAv (z := some (a0 + 3)) T_ok d_Voice_pitchesOf_16 f_Voice_18 (hs_V hb0 ha0) (hr_V_3 hb0 ha0) ?_
  refine A_iload_n 2 d_Voice_pitchesOf_19 rfl rfl ?_
  have g10 := H.1
  replace H := H.2
  refine A_ialoadf d_Voice_pitchesOf_20 (hs_V_3 hb0 ha0) g10.1 g10.2 (fun x9 ex9 lx9 ux9 => ?_)
  replace H := H x9 ex9 lx9 ux9
  have g11 := H.1
  replace H := H.2
  refine A_isubv (z := (x6 - x9)) d_Voice_pitchesOf_21 (w32_to (by omega) (by unfold i32; omega)) ?_
  exact A_iret d_Voice_pitchesOf_22 (by decide) rfl H
theorem c_Voice_pitchesOf {G : cx_T} {s : Nat} {a0 : Nat} {a1 : Int} (ha0 : isV a0) {h : ah_T} {Q : Option av_T → ah_T → Prop} (hb0 : hb s h) (H : i32 a1 → B_Voice_pitchesOf_0 G s a0 a1 h Q ) : con G 0 0 0 m_Voice_pitchesOf [av_R (some a0), av_I a1] h Q := by
  have hS : isS s := hb0.2.1
  refine con_of (L := [some (av_R (some a0)), some (av_I a1), none]) (by decide +kernel) (Nat.le_of_ble_eq_true rfl) rfl ?_
  refine A_locI 1 rfl (fun ra1 => ?_)
  exact b_Voice_pitchesOf_0 ha0  hb0 (H ra1)
def B_Voice_isRest_13 (G : cx_T) (s : Nat) (a0 : Nat) (a1 : Int) (t0 : Int) (h : ah_T) (Q : Option av_T → ah_T → Prop) : Prop :=
 (t0 = 0 ∨ t0 = 1) ∧ Q (some (av_I t0)) h
theorem b_Voice_isRest_13 {G : cx_T} {s : Nat} {a0 : Nat} {a1 : Int} (ha0 : isV a0) {t0 : Int} {h : ah_T} {Q : Option av_T → ah_T → Prop} (hb0 : hb s h) (H : B_Voice_isRest_13 G s a0 a1 t0 h Q ) : aw G (rm_R 1 0 0) m_Voice_isRest 0 0 13 [none, none] [av_I t0] h Q := by
  unfold B_Voice_isRest_13 at H
  have hS : isS s := hb0.2.1
  exact A_zret d_Voice_isRest_13 (by decide) rfl H.1 H.2
def B_Voice_isRest_0 (G : cx_T) (s : Nat) (a0 : Nat) (a1 : Int) (h : ah_T) (Q : Option av_T → ah_T → Prop) : Prop :=
 con G 0 0 0 m_Voice_pitchesOf [av_R (some a0), av_I a1] h (fun r h1 => ∃ z3 : Int, r = some (av_I z3) ∧ hb s h1 ∧ ((z3 = 0 → B_Voice_isRest_13 G s a0 a1 (1) h1 Q ) ∧ (¬ z3 = 0 → B_Voice_isRest_13 G s a0 a1 (0) h1 Q )))
theorem b_Voice_isRest_0 {G : cx_T} {s : Nat} {a0 : Nat} {a1 : Int} (ha0 : isV a0) {h : ah_T} {Q : Option av_T → ah_T → Prop} (hb0 : hb s h) (H : B_Voice_isRest_0 G s a0 a1 h Q ) : aw G (rm_R 1 0 0) m_Voice_isRest 0 0 0 [some (av_R (some a0)), some (av_I a1)] [] h Q := by
  unfold B_Voice_isRest_0 at H
  have hS : isS s := hb0.2.1
  refine A_aload_n 0 d_Voice_isRest_0 rfl rfl ?_
  refine A_iload_n 1 d_Voice_isRest_1 rfl rfl ?_
  refine A_callV1 m_Voice_pitchesOf T_ok d_Voice_isRest_2 l_Voice_80 k_Voice_pitchesOf (hs_V hb0 ha0) rfl (by decide +kernel) (by decide) (Nat.le_of_ble_eq_true rfl) H (fun r h1 hq => ?_)
  clear H
  obtain ⟨z3, rfl, hb2, H⟩ := hq
  refine A_if_ne (tgt := 12) d_Voice_isRest_5 (by decide) (fun c => ?_) (fun c => ?_)
  · replace H := H.2 c
    refine A_iconst d_Voice_isRest_12 rfl ?_
    refine A_pc (pc' := 13) rfl ?_
    refine A_free (L' := [none, none]) trivial ?_
    exact b_Voice_isRest_13 ha0   hb2 H
  · replace H := H.1 c
    refine A_iconst d_Voice_isRest_8 rfl ?_
    refine A_goto (tgt := 13) d_Voice_isRest_9 (by decide) ?_
    refine A_pc (pc' := 13) rfl ?_
    refine A_free (L' := [none, none]) trivial ?_
    exact b_Voice_isRest_13 ha0   hb2 H
theorem c_Voice_isRest {G : cx_T} {s : Nat} {a0 : Nat} {a1 : Int} (ha0 : isV a0) {h : ah_T} {Q : Option av_T → ah_T → Prop} (hb0 : hb s h) (H : i32 a1 → B_Voice_isRest_0 G s a0 a1 h Q ) : con G 1 0 0 m_Voice_isRest [av_R (some a0), av_I a1] h Q := by
  have hS : isS s := hb0.2.1
  refine con_of (L := [some (av_R (some a0)), some (av_I a1)]) (by decide +kernel) (Nat.le_of_ble_eq_true rfl) rfl ?_
  refine A_locI 1 rfl (fun ra1 => ?_)
  exact b_Voice_isRest_0 ha0  hb0 (H ra1)
def B_Voice_keyOf_37 (G : cx_T) (s : Nat) (a0 : Nat) (a1 : Int) (a2 : Int) (t0 : Int) (h : ah_T) (Q : Option av_T → ah_T → Prop) : Prop :=
 Q (some (av_I t0)) h
theorem b_Voice_keyOf_37 {G : cx_T} {s : Nat} {a0 : Nat} {a1 : Int} {a2 : Int} (ha0 : isV a0) {t0 : Int} {h : ah_T} {Q : Option av_T → ah_T → Prop} (hb0 : hb s h) (H : B_Voice_keyOf_37 G s a0 a1 a2 t0 h Q ) : aw G (rm_R 0 0 0) m_Voice_keyOf 0 0 37 [none, none, none, none] [av_I t0] h Q := by
  unfold B_Voice_keyOf_37 at H
  have hS : isS s := hb0.2.1
  exact A_iret d_Voice_keyOf_37 (by decide) rfl H
def B_Voice_keyOf_36 (G : cx_T) (s : Nat) (a0 : Nat) (a1 : Int) (a2 : Int) (h : ah_T) (Q : Option av_T → ah_T → Prop) : Prop :=
 B_Voice_keyOf_37 G s a0 a1 a2 (0) h Q 
theorem b_Voice_keyOf_36 {G : cx_T} {s : Nat} {a0 : Nat} {a1 : Int} {a2 : Int} (ha0 : isV a0) {h : ah_T} {Q : Option av_T → ah_T → Prop} (hb0 : hb s h) (H : B_Voice_keyOf_36 G s a0 a1 a2 h Q ) : aw G (rm_R 0 0 0) m_Voice_keyOf 0 0 36 [none, none, none, none] [] h Q := by
  unfold B_Voice_keyOf_36 at H
  have hS : isS s := hb0.2.1
  refine A_iconst d_Voice_keyOf_36 rfl ?_
  refine A_pc (pc' := 37) rfl ?_
  exact b_Voice_keyOf_37 ha0   hb0 H
def B_Voice_keyOf_0 (G : cx_T) (s : Nat) (a0 : Nat) (a1 : Int) (a2 : Int) (h : ah_T) (Q : Option av_T → ah_T → Prop) : Prop :=
 (0 ≤ a1 ∧ a1 < 300) ∧ ∀ x3 : Int, x3 = h.2.1 (a0 + 7) (a1).toNat → -2147483648 ≤ x3 → x3 ≤ 2147483647 → (0 ≤ x3 ∧ x3 < 301) ∧ ∀ x5 : Int, x5 = h.2.1 (a0 + 3) (x3).toNat → -2147483648 ≤ x5 → x5 ≤ 2147483647 → ((-2147483648) ≤ (x5 + a2) ∧ (x5 + a2) ≤ 2147483647) ∧ (((x5 + a2) < 0 → B_Voice_keyOf_36 G s a0 a1 a2 h Q ) ∧ (¬ (x5 + a2) < 0 → ((300 ≤ (x5 + a2) → B_Voice_keyOf_36 G s a0 a1 a2 h Q ) ∧ (¬ 300 ≤ (x5 + a2) → (0 ≤ (x5 + a2) ∧ (x5 + a2) < 300) ∧ ∀ x10 : Int, x10 = h.2.1 (a0 + 1) ((x5 + a2)).toNat → -2147483648 ≤ x10 → x10 ≤ 2147483647 → B_Voice_keyOf_37 G s a0 a1 a2 (x10) h Q ))))
theorem b_Voice_keyOf_0 {G : cx_T} {s : Nat} {a0 : Nat} {a1 : Int} {a2 : Int} (ha0 : isV a0) {h : ah_T} {Q : Option av_T → ah_T → Prop} (hb0 : hb s h) (H : B_Voice_keyOf_0 G s a0 a1 a2 h Q ) : aw G (rm_R 0 0 0) m_Voice_keyOf 0 0 0 [some (av_R (some a0)), some (av_I a1), some (av_I a2), none] [] h Q := by
  unfold B_Voice_keyOf_0 at H
  have hS : isS s := hb0.2.1
  refine A_aload_n 0 d_Voice_keyOf_0 rfl rfl ?_
  refine A_getAv (z := some (a0 + 3)) T_ok d_Voice_keyOf_1 f_Voice_18 (hs_V hb0 ha0) (hr_V_3 hb0 ha0) ?_
  refine A_aload_n 0 d_Voice_keyOf_4 rfl rfl ?_
  refine A_getAv (z := some (a0 + 7)) T_ok d_Voice_keyOf_5 f_Voice_31 (hs_V hb0 ha0) (hr_V_8 hb0 ha0) ?_
  refine A_iload_n 1 d_Voice_keyOf_8 rfl rfl ?_
  refine A_pc (pc' := 9) rfl ?_
  have g4 := H.1
  replace H := H.2
  refine A_ialoadf d_Voice_keyOf_9 (hs_V_8 hb0 ha0) g4.1 g4.2 (fun x3 ex3 lx3 ux3 => ?_)
  replace H := H x3 ex3 lx3 ux3
  have g6 := H.1
  replace H := H.2
  refine A_ialoadf d_Voice_keyOf_10 (hs_V_3 hb0 ha0) g6.1 g6.2 (fun x5 ex5 lx5 ux5 => ?_)
  replace H := H x5 ex5 lx5 ux5
  refine A_iload_n 2 d_Voice_keyOf_11 rfl rfl ?_
  have g7 := H.1
  replace H := H.2
  refine A_iaddv (z := (x5 + a2)) d_Voice_keyOf_12 (w32_to (by omega) (by unfold i32; omega)) ?_
  refine A_istore_n 3 (L' := [some (av_R (some a0)), some (av_I a1), some (av_I a2), some (av_I (x5 + a2))]) d_Voice_keyOf_13 rfl (Nat.le_of_ble_eq_true rfl) rfl ?_
  refine A_iload_n 3 d_Voice_keyOf_14 rfl rfl ?_
  refine A_pc (pc' := 15) rfl ?_
  refine A_if_lt (tgt := 36) d_Voice_keyOf_15 (by decide) (fun c => ?_) (fun c => ?_)
  · replace H := H.1 c
    refine A_pc (pc' := 36) rfl ?_
    refine A_free (L' := [none, none, none, none]) trivial ?_
    exact b_Voice_keyOf_36 ha0   hb0 H
  · replace H := H.2 c
    refine A_iload_n 3 d_Voice_keyOf_18 rfl rfl ?_
    refine A_aload_n 0 d_Voice_keyOf_19 rfl rfl ?_
    refine A_getAv (z := some (a0 + 1)) T_ok d_Voice_keyOf_20 f_Voice_9 (hs_V hb0 ha0) (hr_V_0 hb0 ha0) ?_
    refine A_alenN d_Voice_keyOf_23 (hs_V_0 hb0 ha0) (by decide) (by decide) ?_
    refine A_icmp_ge (tgt := 36) d_Voice_keyOf_24 (by decide) (fun c => ?_) (fun c => ?_)
    · replace H := H.1 c
      refine A_pc (pc' := 36) rfl ?_
      refine A_free (L' := [none, none, none, none]) trivial ?_
      exact b_Voice_keyOf_36 ha0   hb0 H
    · replace H := H.2 c
      refine A_aload_n 0 d_Voice_keyOf_27 rfl rfl ?_
      refine A_getAv (z := some (a0 + 1)) T_ok d_Voice_keyOf_28 f_Voice_9 (hs_V hb0 ha0) (hr_V_0 hb0 ha0) ?_
      refine A_iload_n 3 d_Voice_keyOf_31 rfl rfl ?_
      have g11 := H.1
      replace H := H.2
      refine A_ialoadf d_Voice_keyOf_32 (hs_V_0 hb0 ha0) g11.1 g11.2 (fun x10 ex10 lx10 ux10 => ?_)
      replace H := H x10 ex10 lx10 ux10
      refine A_goto (tgt := 37) d_Voice_keyOf_33 (by decide) ?_
      refine A_pc (pc' := 37) rfl ?_
      refine A_free (L' := [none, none, none, none]) trivial ?_
      exact b_Voice_keyOf_37 ha0   hb0 H
theorem c_Voice_keyOf {G : cx_T} {s : Nat} {a0 : Nat} {a1 : Int} {a2 : Int} (ha0 : isV a0) {h : ah_T} {Q : Option av_T → ah_T → Prop} (hb0 : hb s h) (H : i32 a1 → i32 a2 → B_Voice_keyOf_0 G s a0 a1 a2 h Q ) : con G 0 0 0 m_Voice_keyOf [av_R (some a0), av_I a1, av_I a2] h Q := by
  have hS : isS s := hb0.2.1
  refine con_of (L := [some (av_R (some a0)), some (av_I a1), some (av_I a2), none]) (by decide +kernel) (Nat.le_of_ble_eq_true rfl) rfl ?_
  refine A_locI 1 rfl (fun ra1 => ?_)
  refine A_locI 2 rfl (fun ra2 => ?_)
  exact b_Voice_keyOf_0 ha0  hb0 (H ra1 ra2)
def B_Voice_stepOf_37 (G : cx_T) (s : Nat) (a0 : Nat) (a1 : Int) (a2 : Int) (t0 : Int) (h : ah_T) (Q : Option av_T → ah_T → Prop) : Prop :=
 Q (some (av_I t0)) h
theorem b_Voice_stepOf_37 {G : cx_T} {s : Nat} {a0 : Nat} {a1 : Int} {a2 : Int} (ha0 : isV a0) {t0 : Int} {h : ah_T} {Q : Option av_T → ah_T → Prop} (hb0 : hb s h) (H : B_Voice_stepOf_37 G s a0 a1 a2 t0 h Q ) : aw G (rm_R 0 0 0) m_Voice_stepOf 0 0 37 [none, none, none, none] [av_I t0] h Q := by
  unfold B_Voice_stepOf_37 at H
  have hS : isS s := hb0.2.1
  exact A_iret d_Voice_stepOf_37 (by decide) rfl H
def B_Voice_stepOf_36 (G : cx_T) (s : Nat) (a0 : Nat) (a1 : Int) (a2 : Int) (h : ah_T) (Q : Option av_T → ah_T → Prop) : Prop :=
 B_Voice_stepOf_37 G s a0 a1 a2 (0) h Q 
theorem b_Voice_stepOf_36 {G : cx_T} {s : Nat} {a0 : Nat} {a1 : Int} {a2 : Int} (ha0 : isV a0) {h : ah_T} {Q : Option av_T → ah_T → Prop} (hb0 : hb s h) (H : B_Voice_stepOf_36 G s a0 a1 a2 h Q ) : aw G (rm_R 0 0 0) m_Voice_stepOf 0 0 36 [none, none, none, none] [] h Q := by
  unfold B_Voice_stepOf_36 at H
  have hS : isS s := hb0.2.1
  refine A_iconst d_Voice_stepOf_36 rfl ?_
  refine A_pc (pc' := 37) rfl ?_
  exact b_Voice_stepOf_37 ha0   hb0 H
def B_Voice_stepOf_0 (G : cx_T) (s : Nat) (a0 : Nat) (a1 : Int) (a2 : Int) (h : ah_T) (Q : Option av_T → ah_T → Prop) : Prop :=
 (0 ≤ a1 ∧ a1 < 300) ∧ ∀ x3 : Int, x3 = h.2.1 (a0 + 7) (a1).toNat → -2147483648 ≤ x3 → x3 ≤ 2147483647 → (0 ≤ x3 ∧ x3 < 301) ∧ ∀ x5 : Int, x5 = h.2.1 (a0 + 3) (x3).toNat → -2147483648 ≤ x5 → x5 ≤ 2147483647 → ((-2147483648) ≤ (x5 + a2) ∧ (x5 + a2) ≤ 2147483647) ∧ (((x5 + a2) < 0 → B_Voice_stepOf_36 G s a0 a1 a2 h Q ) ∧ (¬ (x5 + a2) < 0 → ((300 ≤ (x5 + a2) → B_Voice_stepOf_36 G s a0 a1 a2 h Q ) ∧ (¬ 300 ≤ (x5 + a2) → (0 ≤ (x5 + a2) ∧ (x5 + a2) < 300) ∧ ∀ x10 : Int, x10 = h.2.1 (a0 + 2) ((x5 + a2)).toNat → -2147483648 ≤ x10 → x10 ≤ 2147483647 → B_Voice_stepOf_37 G s a0 a1 a2 (x10) h Q ))))
theorem b_Voice_stepOf_0 {G : cx_T} {s : Nat} {a0 : Nat} {a1 : Int} {a2 : Int} (ha0 : isV a0) {h : ah_T} {Q : Option av_T → ah_T → Prop} (hb0 : hb s h) (H : B_Voice_stepOf_0 G s a0 a1 a2 h Q ) : aw G (rm_R 0 0 0) m_Voice_stepOf 0 0 0 [some (av_R (some a0)), some (av_I a1), some (av_I a2), none] [] h Q := by
  unfold B_Voice_stepOf_0 at H
  have hS : isS s := hb0.2.1
  refine A_aload_n 0 d_Voice_stepOf_0 rfl rfl ?_
  refine A_getAv (z := some (a0 + 3)) T_ok d_Voice_stepOf_1 f_Voice_18 (hs_V hb0 ha0) (hr_V_3 hb0 ha0) ?_
  refine A_aload_n 0 d_Voice_stepOf_4 rfl rfl ?_
  refine A_getAv (z := some (a0 + 7)) T_ok d_Voice_stepOf_5 f_Voice_31 (hs_V hb0 ha0) (hr_V_8 hb0 ha0) ?_
  refine A_iload_n 1 d_Voice_stepOf_8 rfl rfl ?_
  refine A_pc (pc' := 9) rfl ?_
  have g4 := H.1
  replace H := H.2
  refine A_ialoadf d_Voice_stepOf_9 (hs_V_8 hb0 ha0) g4.1 g4.2 (fun x3 ex3 lx3 ux3 => ?_)
  replace H := H x3 ex3 lx3 ux3
  have g6 := H.1
  replace H := H.2
  refine A_ialoadf d_Voice_stepOf_10 (hs_V_3 hb0 ha0) g6.1 g6.2 (fun x5 ex5 lx5 ux5 => ?_)
  replace H := H x5 ex5 lx5 ux5
  refine A_iload_n 2 d_Voice_stepOf_11 rfl rfl ?_
  have g7 := H.1
  replace H := H.2
  refine A_iaddv (z := (x5 + a2)) d_Voice_stepOf_12 (w32_to (by omega) (by unfold i32; omega)) ?_
  refine A_istore_n 3 (L' := [some (av_R (some a0)), some (av_I a1), some (av_I a2), some (av_I (x5 + a2))]) d_Voice_stepOf_13 rfl (Nat.le_of_ble_eq_true rfl) rfl ?_
  refine A_iload_n 3 d_Voice_stepOf_14 rfl rfl ?_
  refine A_pc (pc' := 15) rfl ?_
  refine A_if_lt (tgt := 36) d_Voice_stepOf_15 (by decide) (fun c => ?_) (fun c => ?_)
  · replace H := H.1 c
    refine A_pc (pc' := 36) rfl ?_
    refine A_free (L' := [none, none, none, none]) trivial ?_
    exact b_Voice_stepOf_36 ha0   hb0 H
  · replace H := H.2 c
    refine A_iload_n 3 d_Voice_stepOf_18 rfl rfl ?_
    refine A_aload_n 0 d_Voice_stepOf_19 rfl rfl ?_
    refine A_getAv (z := some (a0 + 2)) T_ok d_Voice_stepOf_20 f_Voice_15 (hs_V hb0 ha0) (hr_V_1 hb0 ha0) ?_
    refine A_alenN d_Voice_stepOf_23 (hs_V_1 hb0 ha0) (by decide) (by decide) ?_
    refine A_icmp_ge (tgt := 36) d_Voice_stepOf_24 (by decide) (fun c => ?_) (fun c => ?_)
    · replace H := H.1 c
      refine A_pc (pc' := 36) rfl ?_
      refine A_free (L' := [none, none, none, none]) trivial ?_
      exact b_Voice_stepOf_36 ha0   hb0 H
    · replace H := H.2 c
      refine A_aload_n 0 d_Voice_stepOf_27 rfl rfl ?_
      refine A_getAv (z := some (a0 + 2)) T_ok d_Voice_stepOf_28 f_Voice_15 (hs_V hb0 ha0) (hr_V_1 hb0 ha0) ?_
      refine A_iload_n 3 d_Voice_stepOf_31 rfl rfl ?_
      have g11 := H.1
      replace H := H.2
      refine A_ialoadf d_Voice_stepOf_32 (hs_V_1 hb0 ha0) g11.1 g11.2 (fun x10 ex10 lx10 ux10 => ?_)
      replace H := H x10 ex10 lx10 ux10
      refine A_goto (tgt := 37) d_Voice_stepOf_33 (by decide) ?_
      refine A_pc (pc' := 37) rfl ?_
      refine A_free (L' := [none, none, none, none]) trivial ?_
      exact b_Voice_stepOf_37 ha0   hb0 H
theorem c_Voice_stepOf {G : cx_T} {s : Nat} {a0 : Nat} {a1 : Int} {a2 : Int} (ha0 : isV a0) {h : ah_T} {Q : Option av_T → ah_T → Prop} (hb0 : hb s h) (H : i32 a1 → i32 a2 → B_Voice_stepOf_0 G s a0 a1 a2 h Q ) : con G 0 0 0 m_Voice_stepOf [av_R (some a0), av_I a1, av_I a2] h Q := by
  have hS : isS s := hb0.2.1
  refine con_of (L := [some (av_R (some a0)), some (av_I a1), some (av_I a2), none]) (by decide +kernel) (Nat.le_of_ble_eq_true rfl) rfl ?_
  refine A_locI 1 rfl (fun ra1 => ?_)
  refine A_locI 2 rfl (fun ra2 => ?_)
  exact b_Voice_stepOf_0 ha0  hb0 (H ra1 ra2)
def B_Voice_numberOf_0 (G : cx_T) (s : Nat) (a0 : Nat) (a1 : Int) (h : ah_T) (Q : Option av_T → ah_T → Prop) : Prop :=
 (0 ≤ a1 ∧ a1 < 300) ∧ ∀ x3 : Int, x3 = h.2.1 (a0 + 7) (a1).toNat → -2147483648 ≤ x3 → x3 ≤ 2147483647 → (0 ≤ x3 ∧ x3 < 300) ∧ ∀ x5 : Int, x5 = h.2.1 (a0 + 4) (x3).toNat → -2147483648 ≤ x5 → x5 ≤ 2147483647 → Q (some (av_I x5)) h
theorem b_Voice_numberOf_0 {G : cx_T} {s : Nat} {a0 : Nat} {a1 : Int} (ha0 : isV a0) {h : ah_T} {Q : Option av_T → ah_T → Prop} (hb0 : hb s h) (H : B_Voice_numberOf_0 G s a0 a1 h Q ) : aw G (rm_R 0 0 0) m_Voice_numberOf 0 0 0 [some (av_R (some a0)), some (av_I a1)] [] h Q := by
  unfold B_Voice_numberOf_0 at H
  have hS : isS s := hb0.2.1
  refine A_aload_n 0 d_Voice_numberOf_0 rfl rfl ?_
  refine A_getAv (z := some (a0 + 4)) T_ok d_Voice_numberOf_1 f_Voice_21 (hs_V hb0 ha0) (hr_V_4 hb0 ha0) ?_
  refine A_aload_n 0 d_Voice_numberOf_4 rfl rfl ?_
  refine A_getAv (z := some (a0 + 7)) T_ok d_Voice_numberOf_5 f_Voice_31 (hs_V hb0 ha0) (hr_V_8 hb0 ha0) ?_
  refine A_iload_n 1 d_Voice_numberOf_8 rfl rfl ?_
  refine A_pc (pc' := 9) rfl ?_
  have g4 := H.1
  replace H := H.2
  refine A_ialoadf d_Voice_numberOf_9 (hs_V_8 hb0 ha0) g4.1 g4.2 (fun x3 ex3 lx3 ux3 => ?_)
  replace H := H x3 ex3 lx3 ux3
  have g6 := H.1
  replace H := H.2
  refine A_ialoadf d_Voice_numberOf_10 (hs_V_4 hb0 ha0) g6.1 g6.2 (fun x5 ex5 lx5 ux5 => ?_)
  replace H := H x5 ex5 lx5 ux5
  exact A_iret d_Voice_numberOf_11 (by decide) rfl H
theorem c_Voice_numberOf {G : cx_T} {s : Nat} {a0 : Nat} {a1 : Int} (ha0 : isV a0) {h : ah_T} {Q : Option av_T → ah_T → Prop} (hb0 : hb s h) (H : i32 a1 → B_Voice_numberOf_0 G s a0 a1 h Q ) : con G 0 0 0 m_Voice_numberOf [av_R (some a0), av_I a1] h Q := by
  have hS : isS s := hb0.2.1
  refine con_of (L := [some (av_R (some a0)), some (av_I a1)]) (by decide +kernel) (Nat.le_of_ble_eq_true rfl) rfl ?_
  refine A_locI 1 rfl (fun ra1 => ?_)
  exact b_Voice_numberOf_0 ha0  hb0 (H ra1)
def B_Voice_isTied_0 (G : cx_T) (s : Nat) (a0 : Nat) (a1 : Int) (h : ah_T) (Q : Option av_T → ah_T → Prop) : Prop :=
 (0 ≤ a1 ∧ a1 < 300) ∧ ∀ x3 : Int, x3 = h.2.1 (a0 + 7) (a1).toNat → -2147483648 ≤ x3 → x3 ≤ 2147483647 → (0 ≤ x3 ∧ x3 < 300) ∧ ∀ x5 : Int, x5 = h.2.1 (a0 + 6) (x3).toNat → (x5 = 0 ∨ x5 = 1) → (x5 = 0 ∨ x5 = 1) ∧ Q (some (av_I x5)) h
theorem b_Voice_isTied_0 {G : cx_T} {s : Nat} {a0 : Nat} {a1 : Int} (ha0 : isV a0) {h : ah_T} {Q : Option av_T → ah_T → Prop} (hb0 : hb s h) (H : B_Voice_isTied_0 G s a0 a1 h Q ) : aw G (rm_R 0 0 0) m_Voice_isTied 0 0 0 [some (av_R (some a0)), some (av_I a1)] [] h Q := by
  unfold B_Voice_isTied_0 at H
  have hS : isS s := hb0.2.1
  refine A_aload_n 0 d_Voice_isTied_0 rfl rfl ?_
  refine A_getAv (z := some (a0 + 6)) T_ok d_Voice_isTied_1 f_Voice_27 (hs_V hb0 ha0) (hr_V_6 hb0 ha0) ?_
  refine A_aload_n 0 d_Voice_isTied_4 rfl rfl ?_
  refine A_getAv (z := some (a0 + 7)) T_ok d_Voice_isTied_5 f_Voice_31 (hs_V hb0 ha0) (hr_V_8 hb0 ha0) ?_
  refine A_iload_n 1 d_Voice_isTied_8 rfl rfl ?_
  refine A_pc (pc' := 9) rfl ?_
  have g4 := H.1
  replace H := H.2
  refine A_ialoadf d_Voice_isTied_9 (hs_V_8 hb0 ha0) g4.1 g4.2 (fun x3 ex3 lx3 ux3 => ?_)
  replace H := H x3 ex3 lx3 ux3
  have g6 := H.1
  replace H := H.2
  refine A_zaloadn d_Voice_isTied_10 (hs_V_6 hb0 ha0) g6.1 g6.2 (fun x5 ex5 bx5 => ?_)
  replace H := H x5 ex5 bx5
  exact A_zret d_Voice_isTied_11 (by decide) rfl H.1 H.2
theorem c_Voice_isTied {G : cx_T} {s : Nat} {a0 : Nat} {a1 : Int} (ha0 : isV a0) {h : ah_T} {Q : Option av_T → ah_T → Prop} (hb0 : hb s h) (H : i32 a1 → B_Voice_isTied_0 G s a0 a1 h Q ) : con G 0 0 0 m_Voice_isTied [av_R (some a0), av_I a1] h Q := by
  have hS : isS s := hb0.2.1
  refine con_of (L := [some (av_R (some a0)), some (av_I a1)]) (by decide +kernel) (Nat.le_of_ble_eq_true rfl) rfl ?_
  refine A_locI 1 rfl (fun ra1 => ?_)
  exact b_Voice_isTied_0 ha0  hb0 (H ra1)
def B_Voice_timeOf_0 (G : cx_T) (s : Nat) (a0 : Nat) (a1 : Int) (a2 : Int) (h : ah_T) (Q : Option av_T → ah_T → Prop) : Prop :=
 ((a2 = 0 → (0 ≤ a1 ∧ a1 < 301) ∧ ∀ x2 : Int, x2 = h.2.2.1 (a0 + 9) (a1).toNat → -9223372036854775808 ≤ x2 → x2 ≤ 9223372036854775807 → Q (some (av_L x2)) h) ∧ (a2 = 1 → (0 ≤ a1 ∧ a1 < 301) ∧ ∀ x5 : Int, x5 = h.2.2.1 (a0 + 10) (a1).toNat → -9223372036854775808 ≤ x5 → x5 ≤ 9223372036854775807 → Q (some (av_L x5)) h) ∧ (a2 = 2 → (0 ≤ a1 ∧ a1 < 300) ∧ ∀ x8 : Int, x8 = h.2.2.1 (a0 + 11) (a1).toNat → -9223372036854775808 ≤ x8 → x8 ≤ 9223372036854775807 → Q (some (av_L x8)) h) ∧ ((a2 < 0 ∨ 2 < a2) → (0 ≤ a1 ∧ a1 < 300) ∧ ∀ x11 : Int, x11 = h.2.2.1 (a0 + 12) (a1).toNat → -9223372036854775808 ≤ x11 → x11 ≤ 9223372036854775807 → Q (some (av_L x11)) h))
theorem b_Voice_timeOf_0 {G : cx_T} {s : Nat} {a0 : Nat} {a1 : Int} {a2 : Int} (ha0 : isV a0) {h : ah_T} {Q : Option av_T → ah_T → Prop} (hb0 : hb s h) (H : B_Voice_timeOf_0 G s a0 a1 a2 h Q ) : aw G (rm_R 0 0 0) m_Voice_timeOf 0 0 0 [some (av_R (some a0)), some (av_I a1), some (av_I a2)] [] h Q := by
  unfold B_Voice_timeOf_0 at H
  have hS : isS s := hb0.2.1
  refine A_iload_n 2 d_Voice_timeOf_0 rfl rfl ?_
  rcases (by omega : a2 = 0 ∨ a2 = 1 ∨ a2 = 2 ∨ (a2 < 0 ∨ 2 < a2)) with c | c | c | c
  · replace H := H.1 c
    refine A_tabIn (tgt := 28) d_Voice_timeOf_1 (by omega) (by omega) (by rw [c]; rfl) (by decide) ?_
    refine A_aload_n 0 d_Voice_timeOf_28 rfl rfl ?_
    refine A_getAv (z := some (a0 + 9)) T_ok d_Voice_timeOf_29 f_Voice_37 (hs_V hb0 ha0) (hr_V_10 hb0 ha0) ?_
    refine A_iload_n 1 d_Voice_timeOf_32 rfl rfl ?_
    have g3 := H.1
    replace H := H.2
    refine A_laloadf d_Voice_timeOf_33 (hs_V_10 hb0 ha0) g3.1 g3.2 (fun x2 ex2 lx2 ux2 => ?_)
    replace H := H x2 ex2 lx2 ux2
    exact A_lret d_Voice_timeOf_34 (by decide) rfl H
  · replace H := H.2.1 c
    refine A_tabIn (tgt := 35) d_Voice_timeOf_1 (by omega) (by omega) (by rw [c]; rfl) (by decide) ?_
    refine A_aload_n 0 d_Voice_timeOf_35 rfl rfl ?_
    refine A_getAv (z := some (a0 + 10)) T_ok d_Voice_timeOf_36 f_Voice_41 (hs_V hb0 ha0) (hr_V_11 hb0 ha0) ?_
    refine A_iload_n 1 d_Voice_timeOf_39 rfl rfl ?_
    have g6 := H.1
    replace H := H.2
    refine A_laloadf d_Voice_timeOf_40 (hs_V_11 hb0 ha0) g6.1 g6.2 (fun x5 ex5 lx5 ux5 => ?_)
    replace H := H x5 ex5 lx5 ux5
    exact A_lret d_Voice_timeOf_41 (by decide) rfl H
  · replace H := H.2.2.1 c
    refine A_tabIn (tgt := 42) d_Voice_timeOf_1 (by omega) (by omega) (by rw [c]; rfl) (by decide) ?_
    refine A_aload_n 0 d_Voice_timeOf_42 rfl rfl ?_
    refine A_getAv (z := some (a0 + 11)) T_ok d_Voice_timeOf_43 f_Voice_44 (hs_V hb0 ha0) (hr_V_12 hb0 ha0) ?_
    refine A_iload_n 1 d_Voice_timeOf_46 rfl rfl ?_
    have g9 := H.1
    replace H := H.2
    refine A_laloadf d_Voice_timeOf_47 (hs_V_12 hb0 ha0) g9.1 g9.2 (fun x8 ex8 lx8 ux8 => ?_)
    replace H := H x8 ex8 lx8 ux8
    exact A_lret d_Voice_timeOf_48 (by decide) rfl H
  · replace H := H.2.2.2 c
    refine A_tabOut (tgt := 49) d_Voice_timeOf_1 (by omega) (by decide) ?_
    refine A_aload_n 0 d_Voice_timeOf_49 rfl rfl ?_
    refine A_getAv (z := some (a0 + 12)) T_ok d_Voice_timeOf_50 f_Voice_47 (hs_V hb0 ha0) (hr_V_13 hb0 ha0) ?_
    refine A_iload_n 1 d_Voice_timeOf_53 rfl rfl ?_
    have g12 := H.1
    replace H := H.2
    refine A_laloadf d_Voice_timeOf_54 (hs_V_13 hb0 ha0) g12.1 g12.2 (fun x11 ex11 lx11 ux11 => ?_)
    replace H := H x11 ex11 lx11 ux11
    exact A_lret d_Voice_timeOf_55 (by decide) rfl H
theorem c_Voice_timeOf {G : cx_T} {s : Nat} {a0 : Nat} {a1 : Int} {a2 : Int} (ha0 : isV a0) {h : ah_T} {Q : Option av_T → ah_T → Prop} (hb0 : hb s h) (H : i32 a1 → i32 a2 → B_Voice_timeOf_0 G s a0 a1 a2 h Q ) : con G 0 0 0 m_Voice_timeOf [av_R (some a0), av_I a1, av_I a2] h Q := by
  have hS : isS s := hb0.2.1
  refine con_of (L := [some (av_R (some a0)), some (av_I a1), some (av_I a2)]) (by decide +kernel) (Nat.le_of_ble_eq_true rfl) rfl ?_
  refine A_locI 1 rfl (fun ra1 => ?_)
  refine A_locI 2 rfl (fun ra2 => ?_)
  exact b_Voice_timeOf_0 ha0  hb0 (H ra1 ra2)
def B_Voice_writingOf_51 (G : cx_T) (s : Nat) (a0 : Nat) (a1 : Int) (a2 : Int) (t0 : Int) (h : ah_T) (Q : Option av_T → ah_T → Prop) : Prop :=
 Q (some (av_I t0)) h
theorem b_Voice_writingOf_51 {G : cx_T} {s : Nat} {a0 : Nat} {a1 : Int} {a2 : Int} (ha0 : isV a0) {t0 : Int} {h : ah_T} {Q : Option av_T → ah_T → Prop} (hb0 : hb s h) (H : B_Voice_writingOf_51 G s a0 a1 a2 t0 h Q ) : aw G (rm_R 1 0 0) m_Voice_writingOf 0 0 51 [none, none, none] [av_I t0] h Q := by
  unfold B_Voice_writingOf_51 at H
  have hS : isS s := hb0.2.1
  exact A_iret d_Voice_writingOf_51 (by decide) rfl H
def B_Voice_writingOf_0 (G : cx_T) (s : Nat) (a0 : Nat) (a1 : Int) (a2 : Int) (h : ah_T) (Q : Option av_T → ah_T → Prop) : Prop :=
 ((a2 = 4 → con G 0 0 0 m_Voice_pitchesOf [av_R (some a0), av_I a1] h (fun r h1 => ∃ z3 : Int, r = some (av_I z3) ∧ hb s h1 ∧ Q (some (av_I z3)) h1)) ∧ (a2 = 5 → con G 0 0 0 m_Voice_isTied [av_R (some a0), av_I a1] h (fun r h4 => ∃ z6 : Int, r = some (av_I z6) ∧ hb s h4 ∧ ((z6 = 0 → B_Voice_writingOf_51 G s a0 a1 a2 (0) h4 Q ) ∧ (¬ z6 = 0 → B_Voice_writingOf_51 G s a0 a1 a2 (1) h4 Q )))) ∧ (a2 = 6 → (0 ≤ a1 ∧ a1 < 300) ∧ ∀ x8 : Int, x8 = h.2.1 (a0 + 8) (a1).toNat → -2147483648 ≤ x8 → x8 ≤ 2147483647 → Q (some (av_I x8)) h) ∧ (a2 = 7 → con G 0 0 0 m_Voice_numberOf [av_R (some a0), av_I a1] h (fun r h10 => ∃ z12 : Int, r = some (av_I z12) ∧ hb s h10 ∧ Q (some (av_I z12)) h10)) ∧ ((a2 < 4 ∨ 7 < a2) → (0 ≤ a1 ∧ a1 < 300) ∧ ∀ x15 : Int, x15 = h.2.1 (a0 + 7) (a1).toNat → -2147483648 ≤ x15 → x15 ≤ 2147483647 → (0 ≤ x15 ∧ x15 < 300) ∧ ∀ x17 : Int, x17 = h.2.1 (a0 + 5) (x15).toNat → -2147483648 ≤ x17 → x17 ≤ 2147483647 → Q (some (av_I x17)) h))
theorem b_Voice_writingOf_0 {G : cx_T} {s : Nat} {a0 : Nat} {a1 : Int} {a2 : Int} (ha0 : isV a0) {h : ah_T} {Q : Option av_T → ah_T → Prop} (hb0 : hb s h) (H : B_Voice_writingOf_0 G s a0 a1 a2 h Q ) : aw G (rm_R 1 0 0) m_Voice_writingOf 0 0 0 [some (av_R (some a0)), some (av_I a1), some (av_I a2)] [] h Q := by
  unfold B_Voice_writingOf_0 at H
  have hS : isS s := hb0.2.1
  refine A_iload_n 2 d_Voice_writingOf_0 rfl rfl ?_
  rcases (by omega : a2 = 4 ∨ a2 = 5 ∨ a2 = 6 ∨ a2 = 7 ∨ (a2 < 4 ∨ 7 < a2)) with c | c | c | c | c
  · replace H := H.1 c
    refine A_tabIn (tgt := 32) d_Voice_writingOf_1 (by omega) (by omega) (by rw [c]; rfl) (by decide) ?_
    refine A_aload_n 0 d_Voice_writingOf_32 rfl rfl ?_
    refine A_iload_n 1 d_Voice_writingOf_33 rfl rfl ?_
    refine A_callV1 m_Voice_pitchesOf T_ok d_Voice_writingOf_34 l_Voice_80 k_Voice_pitchesOf (hs_V hb0 ha0) rfl (by decide +kernel) (by decide) (Nat.le_of_ble_eq_true rfl) H (fun r h1 hq => ?_)
    clear H
    obtain ⟨z3, rfl, hb2, H⟩ := hq
    exact A_iret d_Voice_writingOf_37 (by decide) rfl H
  · replace H := H.2.1 c
    refine A_tabIn (tgt := 38) d_Voice_writingOf_1 (by omega) (by omega) (by rw [c]; rfl) (by decide) ?_
    refine A_aload_n 0 d_Voice_writingOf_38 rfl rfl ?_
    refine A_iload_n 1 d_Voice_writingOf_39 rfl rfl ?_
    refine A_callV1 m_Voice_isTied T_ok d_Voice_writingOf_40 l_Voice_84 k_Voice_isTied (hs_V hb0 ha0) rfl (by decide +kernel) (by decide) (Nat.le_of_ble_eq_true rfl) H (fun r h4 hq => ?_)
    clear H
    obtain ⟨z6, rfl, hb5, H⟩ := hq
    refine A_if_eq (tgt := 50) d_Voice_writingOf_43 (by decide) (fun c => ?_) (fun c => ?_)
    · replace H := H.1 c
      refine A_iconst d_Voice_writingOf_50 rfl ?_
      refine A_pc (pc' := 51) rfl ?_
      refine A_free (L' := [none, none, none]) trivial ?_
      exact b_Voice_writingOf_51 ha0   hb5 H
    · replace H := H.2 c
      refine A_iconst d_Voice_writingOf_46 rfl ?_
      refine A_goto (tgt := 51) d_Voice_writingOf_47 (by decide) ?_
      refine A_pc (pc' := 51) rfl ?_
      refine A_free (L' := [none, none, none]) trivial ?_
      exact b_Voice_writingOf_51 ha0   hb5 H
  · replace H := H.2.2.1 c
    refine A_tabIn (tgt := 52) d_Voice_writingOf_1 (by omega) (by omega) (by rw [c]; rfl) (by decide) ?_
    refine A_aload_n 0 d_Voice_writingOf_52 rfl rfl ?_
    refine A_getAv (z := some (a0 + 8)) T_ok d_Voice_writingOf_53 f_Voice_34 (hs_V hb0 ha0) (hr_V_9 hb0 ha0) ?_
    refine A_iload_n 1 d_Voice_writingOf_56 rfl rfl ?_
    have g9 := H.1
    replace H := H.2
    refine A_ialoadf d_Voice_writingOf_57 (hs_V_9 hb0 ha0) g9.1 g9.2 (fun x8 ex8 lx8 ux8 => ?_)
    replace H := H x8 ex8 lx8 ux8
    exact A_iret d_Voice_writingOf_58 (by decide) rfl H
  · replace H := H.2.2.2.1 c
    refine A_tabIn (tgt := 59) d_Voice_writingOf_1 (by omega) (by omega) (by rw [c]; rfl) (by decide) ?_
    refine A_aload_n 0 d_Voice_writingOf_59 rfl rfl ?_
    refine A_iload_n 1 d_Voice_writingOf_60 rfl rfl ?_
    refine A_callV1 m_Voice_numberOf T_ok d_Voice_writingOf_61 l_Voice_88 k_Voice_numberOf (hs_V hb0 ha0) rfl (by decide +kernel) (by decide) (Nat.le_of_ble_eq_true rfl) H (fun r h10 hq => ?_)
    clear H
    obtain ⟨z12, rfl, hb11, H⟩ := hq
    exact A_iret d_Voice_writingOf_64 (by decide) rfl H
  · replace H := H.2.2.2.2 c
    refine A_tabOut (tgt := 65) d_Voice_writingOf_1 (by omega) (by decide) ?_
    refine A_aload_n 0 d_Voice_writingOf_65 rfl rfl ?_
    refine A_getAv (z := some (a0 + 5)) T_ok d_Voice_writingOf_66 f_Voice_24 (hs_V hb0 ha0) (hr_V_5 hb0 ha0) ?_
    refine A_aload_n 0 d_Voice_writingOf_69 rfl rfl ?_
    refine A_getAv (z := some (a0 + 7)) T_ok d_Voice_writingOf_70 f_Voice_31 (hs_V hb0 ha0) (hr_V_8 hb0 ha0) ?_
    refine A_iload_n 1 d_Voice_writingOf_73 rfl rfl ?_
    refine A_pc (pc' := 74) rfl ?_
    have g16 := H.1
    replace H := H.2
    refine A_ialoadf d_Voice_writingOf_74 (hs_V_8 hb0 ha0) g16.1 g16.2 (fun x15 ex15 lx15 ux15 => ?_)
    replace H := H x15 ex15 lx15 ux15
    have g18 := H.1
    replace H := H.2
    refine A_ialoadf d_Voice_writingOf_75 (hs_V_5 hb0 ha0) g18.1 g18.2 (fun x17 ex17 lx17 ux17 => ?_)
    replace H := H x17 ex17 lx17 ux17
    exact A_iret d_Voice_writingOf_76 (by decide) rfl H
theorem c_Voice_writingOf {G : cx_T} {s : Nat} {a0 : Nat} {a1 : Int} {a2 : Int} (ha0 : isV a0) {h : ah_T} {Q : Option av_T → ah_T → Prop} (hb0 : hb s h) (H : i32 a1 → i32 a2 → B_Voice_writingOf_0 G s a0 a1 a2 h Q ) : con G 1 0 0 m_Voice_writingOf [av_R (some a0), av_I a1, av_I a2] h Q := by
  have hS : isS s := hb0.2.1
  refine con_of (L := [some (av_R (some a0)), some (av_I a1), some (av_I a2)]) (by decide +kernel) (Nat.le_of_ble_eq_true rfl) rfl ?_
  refine A_locI 1 rfl (fun ra1 => ?_)
  refine A_locI 2 rfl (fun ra2 => ?_)
  exact b_Voice_writingOf_0 ha0  hb0 (H ra1 ra2)
def B_PM_told_0 (G : cx_T) (s : Nat) (a1 : Int) (h : ah_T) (Q : Option av_T → ah_T → Prop) : Prop :=
 ((a1 = 0 → ∀ x2 : Int, x2 = h.2.1 (97 - s) 1 → -2147483648 ≤ x2 → x2 ≤ 2147483647 → Q (some (av_I x2)) h) ∧ (a1 = 1 → ∀ x4 : Int, x4 = h.2.1 (97 - s) 6 → -2147483648 ≤ x4 → x4 ≤ 2147483647 → Q (some (av_I x4)) h) ∧ (a1 = 2 → ∀ x6 : Int, x6 = h.2.1 (97 - s) 10 → -2147483648 ≤ x6 → x6 ≤ 2147483647 → Q (some (av_I x6)) h) ∧ (a1 = 3 → ∀ x8 : Int, x8 = h.2.1 (97 - s) 12 → -2147483648 ≤ x8 → x8 ≤ 2147483647 → Q (some (av_I x8)) h) ∧ (a1 = 4 → con G 1 0 0 m_Score_mostBars [av_R (some (97 - s))] h (fun r h10 => ∃ z12 : Int, r = some (av_I z12) ∧ hb s h10 ∧ Q (some (av_I z12)) h10)) ∧ (a1 = 5 → ∀ x14 : Int, x14 = h.2.1 (97 - s) 2 → -2147483648 ≤ x14 → x14 ≤ 2147483647 → Q (some (av_I x14)) h) ∧ (a1 = 6 → ∀ x16 : Int, x16 = h.2.1 (97 - s) 3 → -2147483648 ≤ x16 → x16 ≤ 2147483647 → Q (some (av_I x16)) h) ∧ ((a1 < 0 ∨ 6 < a1) → Q (some (av_I (-1))) h))
theorem b_PM_told_0 {G : cx_T} {s : Nat} {a1 : Int} {h : ah_T} {Q : Option av_T → ah_T → Prop} (hb0 : hb s h) (H : B_PM_told_0 G s a1 h Q ) : aw G (rm_R 2 0 0) m_PM_told 0 0 0 [some (av_R (some 0)), some (av_I a1)] [] h Q := by
  unfold B_PM_told_0 at H
  have hS : isS s := hb0.2.1
  refine A_iload_n 1 d_PM_told_0 rfl rfl ?_
  rcases (by omega : a1 = 0 ∨ a1 = 1 ∨ a1 = 2 ∨ a1 = 3 ∨ a1 = 4 ∨ a1 = 5 ∨ a1 = 6 ∨ (a1 < 0 ∨ 6 < a1)) with c | c | c | c | c | c | c | c
  · replace H := H.1 c
    refine A_tabIn (tgt := 44) d_PM_told_1 (by omega) (by omega) (by rw [c]; rfl) (by decide) ?_
    refine A_aload_n 0 d_PM_told_44 rfl rfl ?_
    refine A_getOv (z := some (97 - s)) T_ok d_PM_told_45 f_PM_27 (hb_s hb0 sf_0) hb0.2.2.1 ?_
    refine A_getIf T_ok d_PM_told_48 f_PM_104 (hs_S hb0 (isS_o hS)) (fun x2 ex2 lx2 ux2 => ?_)
    replace H := H x2 ex2 lx2 ux2
    exact A_iret d_PM_told_51 (by decide) rfl H
  · replace H := H.2.1 c
    refine A_tabIn (tgt := 52) d_PM_told_1 (by omega) (by omega) (by rw [c]; rfl) (by decide) ?_
    refine A_aload_n 0 d_PM_told_52 rfl rfl ?_
    refine A_getOv (z := some (97 - s)) T_ok d_PM_told_53 f_PM_27 (hb_s hb0 sf_0) hb0.2.2.1 ?_
    refine A_getIf T_ok d_PM_told_56 f_PM_107 (hs_S hb0 (isS_o hS)) (fun x4 ex4 lx4 ux4 => ?_)
    replace H := H x4 ex4 lx4 ux4
    exact A_iret d_PM_told_59 (by decide) rfl H
  · replace H := H.2.2.1 c
    refine A_tabIn (tgt := 60) d_PM_told_1 (by omega) (by omega) (by rw [c]; rfl) (by decide) ?_
    refine A_aload_n 0 d_PM_told_60 rfl rfl ?_
    refine A_getOv (z := some (97 - s)) T_ok d_PM_told_61 f_PM_27 (hb_s hb0 sf_0) hb0.2.2.1 ?_
    refine A_getIf T_ok d_PM_told_64 f_PM_110 (hs_S hb0 (isS_o hS)) (fun x6 ex6 lx6 ux6 => ?_)
    replace H := H x6 ex6 lx6 ux6
    exact A_iret d_PM_told_67 (by decide) rfl H
  · replace H := H.2.2.2.1 c
    refine A_tabIn (tgt := 68) d_PM_told_1 (by omega) (by omega) (by rw [c]; rfl) (by decide) ?_
    refine A_aload_n 0 d_PM_told_68 rfl rfl ?_
    refine A_getOv (z := some (97 - s)) T_ok d_PM_told_69 f_PM_27 (hb_s hb0 sf_0) hb0.2.2.1 ?_
    refine A_getIf T_ok d_PM_told_72 f_PM_113 (hs_S hb0 (isS_o hS)) (fun x8 ex8 lx8 ux8 => ?_)
    replace H := H x8 ex8 lx8 ux8
    exact A_iret d_PM_told_75 (by decide) rfl H
  · replace H := H.2.2.2.2.1 c
    refine A_tabIn (tgt := 76) d_PM_told_1 (by omega) (by omega) (by rw [c]; rfl) (by decide) ?_
    refine A_aload_n 0 d_PM_told_76 rfl rfl ?_
    refine A_getOv (z := some (97 - s)) T_ok d_PM_told_77 f_PM_27 (hb_s hb0 sf_0) hb0.2.2.1 ?_
    refine A_callV0 m_Score_mostBars T_ok d_PM_told_80 l_PM_116 k_Score_mostBars (hs_S hb0 (isS_o hS)) rfl (by decide +kernel) (by decide) (Nat.le_of_ble_eq_true rfl) H (fun r h10 hq => ?_)
    clear H
    obtain ⟨z12, rfl, hb11, H⟩ := hq
    exact A_iret d_PM_told_83 (by decide) rfl H
  · replace H := H.2.2.2.2.2.1 c
    refine A_tabIn (tgt := 84) d_PM_told_1 (by omega) (by omega) (by rw [c]; rfl) (by decide) ?_
    refine A_aload_n 0 d_PM_told_84 rfl rfl ?_
    refine A_getOv (z := some (97 - s)) T_ok d_PM_told_85 f_PM_27 (hb_s hb0 sf_0) hb0.2.2.1 ?_
    refine A_getIf T_ok d_PM_told_88 f_PM_119 (hs_S hb0 (isS_o hS)) (fun x14 ex14 lx14 ux14 => ?_)
    replace H := H x14 ex14 lx14 ux14
    exact A_iret d_PM_told_91 (by decide) rfl H
  · replace H := H.2.2.2.2.2.2.1 c
    refine A_tabIn (tgt := 92) d_PM_told_1 (by omega) (by omega) (by rw [c]; rfl) (by decide) ?_
    refine A_aload_n 0 d_PM_told_92 rfl rfl ?_
    refine A_getOv (z := some (97 - s)) T_ok d_PM_told_93 f_PM_27 (hb_s hb0 sf_0) hb0.2.2.1 ?_
    refine A_getIf T_ok d_PM_told_96 f_PM_122 (hs_S hb0 (isS_o hS)) (fun x16 ex16 lx16 ux16 => ?_)
    replace H := H x16 ex16 lx16 ux16
    exact A_iret d_PM_told_99 (by decide) rfl H
  · replace H := H.2.2.2.2.2.2.2 c
    refine A_tabOut (tgt := 100) d_PM_told_1 (by omega) (by decide) ?_
    refine A_iconst d_PM_told_100 rfl ?_
    exact A_iret d_PM_told_101 (by decide) rfl H
theorem c_PM_told {G : cx_T} {s : Nat} {a1 : Int} {h : ah_T} {Q : Option av_T → ah_T → Prop} (hb0 : hb s h) (H : i32 a1 → B_PM_told_0 G s a1 h Q ) : con G 2 0 0 m_PM_told [av_R (some 0), av_I a1] h Q := by
  have hS : isS s := hb0.2.1
  refine con_of (L := [some (av_R (some 0)), some (av_I a1)]) (by decide +kernel) (Nat.le_of_ble_eq_true rfl) rfl ?_
  refine A_locI 1 rfl (fun ra1 => ?_)
  exact b_PM_told_0   hb0 (H ra1)
def B_PM_count_37 (G : cx_T) (s : Nat) (a1 : Int) (a2 : Int) (t0 : Int) (h : ah_T) (Q : Option av_T → ah_T → Prop) : Prop :=
 Q (some (av_I t0)) h
theorem b_PM_count_37 {G : cx_T} {s : Nat} {a1 : Int} {a2 : Int} {t0 : Int} {h : ah_T} {Q : Option av_T → ah_T → Prop} (hb0 : hb s h) (H : B_PM_count_37 G s a1 a2 t0 h Q ) : aw G (rm_R 1 0 0) m_PM_count 0 0 37 [none, none, none, none] [av_I t0] h Q := by
  unfold B_PM_count_37 at H
  have hS : isS s := hb0.2.1
  exact A_iret d_PM_count_37 (by decide) rfl H
def B_PM_count_0 (G : cx_T) (s : Nat) (a1 : Int) (a2 : Int) (h : ah_T) (Q : Option av_T → ah_T → Prop) : Prop :=
 con G 0 0 0 m_Score_voiceAt [av_R (some (97 - s)), av_I a1] h (fun r h2 => ∃ oz4 : Option Nat, r = some (av_R oz4) ∧ hb s h2 ∧ ((oz4 = none ∧ Q (some (av_I (-1))) h2) ∨ ∃ z4 : Nat, oz4 = some z4 ∧ isV z4 ∧ ((a2 = 0 → ∀ x6 : Int, x6 = h2.2.1 z4 14 → -2147483648 ≤ x6 → x6 ≤ 2147483647 → Q (some (av_I x6)) h2) ∧ (¬ a2 = 0 → ((a2 = 1 → ∀ x5 : Int, x5 = h2.2.1 z4 16 → -2147483648 ≤ x5 → x5 ≤ 2147483647 → B_PM_count_37 G s a1 a2 (x5) h2 Q ) ∧ (¬ a2 = 1 → B_PM_count_37 G s a1 a2 ((-1)) h2 Q ))))))
theorem b_PM_count_0 {G : cx_T} {s : Nat} {a1 : Int} {a2 : Int} {h : ah_T} {Q : Option av_T → ah_T → Prop} (hb0 : hb s h) (H : B_PM_count_0 G s a1 a2 h Q ) : aw G (rm_R 1 0 0) m_PM_count 0 0 0 [some (av_R (some 0)), some (av_I a1), some (av_I a2), none] [] h Q := by
  unfold B_PM_count_0 at H
  have hS : isS s := hb0.2.1
  refine A_aload_n 0 d_PM_count_0 rfl rfl ?_
  refine A_getOv (z := some (97 - s)) T_ok d_PM_count_1 f_PM_27 (hb_s hb0 sf_0) hb0.2.2.1 ?_
  refine A_iload_n 1 d_PM_count_4 rfl rfl ?_
  refine A_callV1 m_Score_voiceAt T_ok d_PM_count_5 l_PM_125 k_Score_voiceAt (hs_S hb0 (isS_o hS)) rfl (by decide +kernel) (by decide) (Nat.le_of_ble_eq_true rfl) H (fun r h2 hq => ?_)
  clear H
  obtain ⟨oz4, rfl, hb3, H⟩ := hq
  rcases H with ⟨H1, H⟩ | ⟨z4, H1, tz4, H⟩
  · subst H1
    refine A_astore_n 3 (L' := [some (av_R (some 0)), some (av_I a1), some (av_I a2), some (av_R none)]) d_PM_count_8 rfl (Nat.le_of_ble_eq_true rfl) rfl ?_
    refine A_aload_n 3 d_PM_count_9 rfl rfl ?_
    refine A_ifnonnull (tgt := 15) d_PM_count_10 (by decide) (fun a q => by cases q) (fun _ => ?_)
    refine A_iconst d_PM_count_13 rfl ?_
    exact A_iret d_PM_count_14 (by decide) rfl H
  · subst H1
    refine A_astore_n 3 (L' := [some (av_R (some 0)), some (av_I a1), some (av_I a2), some (av_R (some z4))]) d_PM_count_8 rfl (Nat.le_of_ble_eq_true rfl) rfl ?_
    refine A_aload_n 3 d_PM_count_9 rfl rfl ?_
    refine A_ifnonnull (tgt := 15) d_PM_count_10 (by decide) (fun _ _ => ?_) (fun q => by cases q)
    refine A_iload_n 2 d_PM_count_15 rfl rfl ?_
    refine A_if_ne (tgt := 24) d_PM_count_16 (by decide) (fun c => ?_) (fun c => ?_)
    · replace H := H.2 c
      refine A_iload_n 2 d_PM_count_24 rfl rfl ?_
      refine A_iconst d_PM_count_25 rfl ?_
      refine A_icmp_ne (tgt := 36) d_PM_count_26 (by decide) (fun c => ?_) (fun c => ?_)
      · replace H := H.2 c
        refine A_iconst d_PM_count_36 rfl ?_
        refine A_pc (pc' := 37) rfl ?_
        refine A_free (L' := [none, none, none, none]) trivial ?_
        exact b_PM_count_37    hb3 H
      · replace H := H.1 c
        refine A_aload_n 3 d_PM_count_29 rfl rfl ?_
        refine A_getIf T_ok d_PM_count_30 f_PM_134 (hs_V hb3 tz4) (fun x5 ex5 lx5 ux5 => ?_)
        replace H := H x5 ex5 lx5 ux5
        refine A_goto (tgt := 37) d_PM_count_33 (by decide) ?_
        refine A_pc (pc' := 37) rfl ?_
        refine A_free (L' := [none, none, none, none]) trivial ?_
        exact b_PM_count_37    hb3 H
    · replace H := H.1 c
      refine A_aload_n 3 d_PM_count_19 rfl rfl ?_
      refine A_getIf T_ok d_PM_count_20 f_PM_129 (hs_V hb3 tz4) (fun x6 ex6 lx6 ux6 => ?_)
      replace H := H x6 ex6 lx6 ux6
      exact A_iret d_PM_count_23 (by decide) rfl H
theorem c_PM_count {G : cx_T} {s : Nat} {a1 : Int} {a2 : Int} {h : ah_T} {Q : Option av_T → ah_T → Prop} (hb0 : hb s h) (H : i32 a1 → i32 a2 → B_PM_count_0 G s a1 a2 h Q ) : con G 1 0 0 m_PM_count [av_R (some 0), av_I a1, av_I a2] h Q := by
  have hS : isS s := hb0.2.1
  refine con_of (L := [some (av_R (some 0)), some (av_I a1), some (av_I a2), none]) (by decide +kernel) (Nat.le_of_ble_eq_true rfl) rfl ?_
  refine A_locI 1 rfl (fun ra1 => ?_)
  refine A_locI 2 rfl (fun ra2 => ?_)
  exact b_PM_count_0   hb0 (H ra1 ra2)
def B_PM_event_143 (G : cx_T) (s : Nat) (a1 : Int) (a2 : Int) (a3 : Int) (h : ah_T) (Q : Option av_T → ah_T → Prop) : Prop :=
 Q (some (av_L 10000)) h
theorem b_PM_event_143 {G : cx_T} {s : Nat} {a1 : Int} {a2 : Int} {a3 : Int} {h : ah_T} {Q : Option av_T → ah_T → Prop} (hb0 : hb s h) (H : B_PM_event_143 G s a1 a2 a3 h Q ) : aw G (rm_R 2 0 0) m_PM_event 0 0 143 [none, none, none, none, none] [] h Q := by
  unfold B_PM_event_143 at H
  have hS : isS s := hb0.2.1
  refine A_ldc2 (z := 10000) d_PM_event_143 cst_PM_137 rfl ?_
  exact A_lret d_PM_event_146 (by decide) rfl H
def B_PM_event_106 (G : cx_T) (s : Nat) (a1 : Int) (a2 : Int) (a3 : Int) (v4 : Nat) (h : ah_T) (Q : Option av_T → ah_T → Prop) : Prop :=
 ((a3 < 20 → B_PM_event_143 G s a1 a2 a3 h Q ) ∧ (¬ a3 < 20 → ((23 < a3 → B_PM_event_143 G s a1 a2 a3 h Q ) ∧ (¬ 23 < a3 → ((-2147483648) ≤ (a3 - 20) ∧ (a3 - 20) ≤ 2147483647) ∧ con G 0 0 0 m_Voice_pitchesOf [av_R (some v4), av_I a2] h (fun r h2 => ∃ z4 : Int, r = some (av_I z4) ∧ hb s h2 ∧ ((z4 ≤ (a3 - 20) → B_PM_event_143 G s a1 a2 a3 h2 Q ) ∧ (¬ z4 ≤ (a3 - 20) → con G 0 0 0 m_Voice_stepOf [av_R (some v4), av_I a2, av_I (a3 - 20)] h2 (fun r h5 => ∃ z7 : Int, r = some (av_I z7) ∧ hb s h5 ∧ Q (some (av_L z7)) h5))))))))
theorem b_PM_event_106 {G : cx_T} {s : Nat} {a1 : Int} {a2 : Int} {a3 : Int} {v4 : Nat} {h : ah_T} {Q : Option av_T → ah_T → Prop} (hv4 : isV v4) (hb0 : hb s h) (H : B_PM_event_106 G s a1 a2 a3 v4 h Q ) : aw G (rm_R 2 0 0) m_PM_event 0 0 106 [none, none, some (av_I a2), some (av_I a3), some (av_R (some v4))] [] h Q := by
  unfold B_PM_event_106 at H
  have hS : isS s := hb0.2.1
  refine A_iload_n 3 d_PM_event_106 rfl rfl ?_
  refine A_bipush d_PM_event_107 rfl ?_
  refine A_icmp_lt (tgt := 143) d_PM_event_109 (by decide) (fun c => ?_) (fun c => ?_)
  · replace H := H.1 c
    refine A_pc (pc' := 143) rfl ?_
    refine A_free (L' := [none, none, none, none, none]) trivial ?_
    exact b_PM_event_143    hb0 H
  · replace H := H.2 c
    refine A_iload_n 3 d_PM_event_112 rfl rfl ?_
    refine A_bipush d_PM_event_113 rfl ?_
    refine A_icmp_gt (tgt := 143) d_PM_event_115 (by decide) (fun c => ?_) (fun c => ?_)
    · replace H := H.1 c
      refine A_pc (pc' := 143) rfl ?_
      refine A_free (L' := [none, none, none, none, none]) trivial ?_
      exact b_PM_event_143    hb0 H
    · replace H := H.2 c
      refine A_iload_n 3 d_PM_event_118 rfl rfl ?_
      refine A_bipush d_PM_event_119 rfl ?_
      have g1 := H.1
      replace H := H.2
      refine A_isubv (z := (a3 - 20)) d_PM_event_121 (w32_to (by omega) (by unfold i32; omega)) ?_
      refine A_aload d_PM_event_122 rfl ?_
      refine A_iload_n 2 d_PM_event_124 rfl rfl ?_
      refine A_pc (pc' := 125) rfl ?_
      refine A_callV1 m_Voice_pitchesOf T_ok d_PM_event_125 l_PM_147 k_Voice_pitchesOf (hs_V hb0 hv4) rfl (by decide +kernel) (by decide) (Nat.le_of_ble_eq_true rfl) H (fun r h2 hq => ?_)
      clear H
      obtain ⟨z4, rfl, hb3, H⟩ := hq
      refine A_icmp_ge (tgt := 143) d_PM_event_128 (by decide) (fun c => ?_) (fun c => ?_)
      · replace H := H.1 c
        refine A_pc (pc' := 143) rfl ?_
        refine A_free (L' := [none, none, none, none, none]) trivial ?_
        exact b_PM_event_143    hb3 H
      · replace H := H.2 c
        refine A_aload d_PM_event_131 rfl ?_
        refine A_iload_n 2 d_PM_event_133 rfl rfl ?_
        refine A_iload_n 3 d_PM_event_134 rfl rfl ?_
        refine A_bipush d_PM_event_135 rfl ?_
        refine A_isubv (z := (a3 - 20)) d_PM_event_137 (w32_to (by omega) (by unfold i32; omega)) ?_
        refine A_pc (pc' := 138) rfl ?_
        refine A_callV2 m_Voice_stepOf T_ok d_PM_event_138 l_PM_154 k_Voice_stepOf (hs_V hb3 hv4) rfl (by decide +kernel) (by decide) (Nat.le_of_ble_eq_true rfl) H (fun r h5 hq => ?_)
        clear H
        obtain ⟨z7, rfl, hb6, H⟩ := hq
        refine A_i2l d_PM_event_141 ?_
        exact A_lret d_PM_event_142 (by decide) rfl H
def B_PM_event_69 (G : cx_T) (s : Nat) (a1 : Int) (a2 : Int) (a3 : Int) (v4 : Nat) (h : ah_T) (Q : Option av_T → ah_T → Prop) : Prop :=
 ((a3 < 10 → B_PM_event_106 G s a1 a2 a3 v4 h Q ) ∧ (¬ a3 < 10 → ((13 < a3 → B_PM_event_106 G s a1 a2 a3 v4 h Q ) ∧ (¬ 13 < a3 → ((-2147483648) ≤ (a3 - 10) ∧ (a3 - 10) ≤ 2147483647) ∧ con G 0 0 0 m_Voice_pitchesOf [av_R (some v4), av_I a2] h (fun r h2 => ∃ z4 : Int, r = some (av_I z4) ∧ hb s h2 ∧ ((z4 ≤ (a3 - 10) → B_PM_event_106 G s a1 a2 a3 v4 h2 Q ) ∧ (¬ z4 ≤ (a3 - 10) → con G 0 0 0 m_Voice_keyOf [av_R (some v4), av_I a2, av_I (a3 - 10)] h2 (fun r h5 => ∃ z7 : Int, r = some (av_I z7) ∧ hb s h5 ∧ Q (some (av_L z7)) h5))))))))
theorem b_PM_event_69 {G : cx_T} {s : Nat} {a1 : Int} {a2 : Int} {a3 : Int} {v4 : Nat} {h : ah_T} {Q : Option av_T → ah_T → Prop} (hv4 : isV v4) (hb0 : hb s h) (H : B_PM_event_69 G s a1 a2 a3 v4 h Q ) : aw G (rm_R 2 0 0) m_PM_event 0 0 69 [none, none, some (av_I a2), some (av_I a3), some (av_R (some v4))] [] h Q := by
  unfold B_PM_event_69 at H
  have hS : isS s := hb0.2.1
  refine A_iload_n 3 d_PM_event_69 rfl rfl ?_
  refine A_bipush d_PM_event_70 rfl ?_
  refine A_icmp_lt (tgt := 106) d_PM_event_72 (by decide) (fun c => ?_) (fun c => ?_)
  · replace H := H.1 c
    refine A_pc (pc' := 106) rfl ?_
    exact b_PM_event_106   hv4 hb0 H
  · replace H := H.2 c
    refine A_iload_n 3 d_PM_event_75 rfl rfl ?_
    refine A_bipush d_PM_event_76 rfl ?_
    refine A_icmp_gt (tgt := 106) d_PM_event_78 (by decide) (fun c => ?_) (fun c => ?_)
    · replace H := H.1 c
      refine A_pc (pc' := 106) rfl ?_
      exact b_PM_event_106   hv4 hb0 H
    · replace H := H.2 c
      refine A_iload_n 3 d_PM_event_81 rfl rfl ?_
      refine A_bipush d_PM_event_82 rfl ?_
      have g1 := H.1
      replace H := H.2
      refine A_isubv (z := (a3 - 10)) d_PM_event_84 (w32_to (by omega) (by unfold i32; omega)) ?_
      refine A_aload d_PM_event_85 rfl ?_
      refine A_iload_n 2 d_PM_event_87 rfl rfl ?_
      refine A_pc (pc' := 88) rfl ?_
      refine A_callV1 m_Voice_pitchesOf T_ok d_PM_event_88 l_PM_147 k_Voice_pitchesOf (hs_V hb0 hv4) rfl (by decide +kernel) (by decide) (Nat.le_of_ble_eq_true rfl) H (fun r h2 hq => ?_)
      clear H
      obtain ⟨z4, rfl, hb3, H⟩ := hq
      refine A_icmp_ge (tgt := 106) d_PM_event_91 (by decide) (fun c => ?_) (fun c => ?_)
      · replace H := H.1 c
        refine A_pc (pc' := 106) rfl ?_
        exact b_PM_event_106   hv4 hb3 H
      · replace H := H.2 c
        refine A_aload d_PM_event_94 rfl ?_
        refine A_iload_n 2 d_PM_event_96 rfl rfl ?_
        refine A_iload_n 3 d_PM_event_97 rfl rfl ?_
        refine A_bipush d_PM_event_98 rfl ?_
        refine A_isubv (z := (a3 - 10)) d_PM_event_100 (w32_to (by omega) (by unfold i32; omega)) ?_
        refine A_pc (pc' := 101) rfl ?_
        refine A_callV2 m_Voice_keyOf T_ok d_PM_event_101 l_PM_151 k_Voice_keyOf (hs_V hb3 hv4) rfl (by decide +kernel) (by decide) (Nat.le_of_ble_eq_true rfl) H (fun r h5 hq => ?_)
        clear H
        obtain ⟨z7, rfl, hb6, H⟩ := hq
        refine A_i2l d_PM_event_104 ?_
        exact A_lret d_PM_event_105 (by decide) rfl H
def B_PM_event_49 (G : cx_T) (s : Nat) (a1 : Int) (a2 : Int) (a3 : Int) (v4 : Nat) (h : ah_T) (Q : Option av_T → ah_T → Prop) : Prop :=
 ((a3 < 4 → B_PM_event_69 G s a1 a2 a3 v4 h Q ) ∧ (¬ a3 < 4 → ((8 < a3 → B_PM_event_69 G s a1 a2 a3 v4 h Q ) ∧ (¬ 8 < a3 → con G 1 0 0 m_Voice_writingOf [av_R (some v4), av_I a2, av_I a3] h (fun r h1 => ∃ z3 : Int, r = some (av_I z3) ∧ hb s h1 ∧ Q (some (av_L z3)) h1)))))
theorem b_PM_event_49 {G : cx_T} {s : Nat} {a1 : Int} {a2 : Int} {a3 : Int} {v4 : Nat} {h : ah_T} {Q : Option av_T → ah_T → Prop} (hv4 : isV v4) (hb0 : hb s h) (H : B_PM_event_49 G s a1 a2 a3 v4 h Q ) : aw G (rm_R 2 0 0) m_PM_event 0 0 49 [none, none, some (av_I a2), some (av_I a3), some (av_R (some v4))] [] h Q := by
  unfold B_PM_event_49 at H
  have hS : isS s := hb0.2.1
  refine A_iload_n 3 d_PM_event_49 rfl rfl ?_
  refine A_iconst d_PM_event_50 rfl ?_
  refine A_icmp_lt (tgt := 69) d_PM_event_51 (by decide) (fun c => ?_) (fun c => ?_)
  · replace H := H.1 c
    refine A_pc (pc' := 69) rfl ?_
    exact b_PM_event_69   hv4 hb0 H
  · replace H := H.2 c
    refine A_iload_n 3 d_PM_event_54 rfl rfl ?_
    refine A_bipush d_PM_event_55 rfl ?_
    refine A_icmp_gt (tgt := 69) d_PM_event_57 (by decide) (fun c => ?_) (fun c => ?_)
    · replace H := H.1 c
      refine A_pc (pc' := 69) rfl ?_
      exact b_PM_event_69   hv4 hb0 H
    · replace H := H.2 c
      refine A_aload d_PM_event_60 rfl ?_
      refine A_iload_n 2 d_PM_event_62 rfl rfl ?_
      refine A_iload_n 3 d_PM_event_63 rfl rfl ?_
      refine A_callV2 m_Voice_writingOf T_ok d_PM_event_64 l_PM_143 k_Voice_writingOf (hs_V hb0 hv4) rfl (by decide +kernel) (by decide) (Nat.le_of_ble_eq_true rfl) H (fun r h1 hq => ?_)
      clear H
      obtain ⟨z3, rfl, hb2, H⟩ := hq
      refine A_i2l d_PM_event_67 ?_
      exact A_lret d_PM_event_68 (by decide) rfl H
def B_PM_event_28 (G : cx_T) (s : Nat) (a1 : Int) (a2 : Int) (a3 : Int) (h : ah_T) (Q : Option av_T → ah_T → Prop) : Prop :=
 Q (some (av_L 10000)) h
theorem b_PM_event_28 {G : cx_T} {s : Nat} {a1 : Int} {a2 : Int} {a3 : Int} {h : ah_T} {Q : Option av_T → ah_T → Prop} (hb0 : hb s h) (H : B_PM_event_28 G s a1 a2 a3 h Q ) : aw G (rm_R 2 0 0) m_PM_event 0 0 28 [none, none, none, none, none] [] h Q := by
  unfold B_PM_event_28 at H
  have hS : isS s := hb0.2.1
  refine A_ldc2 (z := 10000) d_PM_event_28 cst_PM_137 rfl ?_
  exact A_lret d_PM_event_31 (by decide) rfl H
def B_PM_event_0 (G : cx_T) (s : Nat) (a1 : Int) (a2 : Int) (a3 : Int) (h : ah_T) (Q : Option av_T → ah_T → Prop) : Prop :=
 con G 0 0 0 m_Score_voiceAt [av_R (some (97 - s)), av_I a1] h (fun r h2 => ∃ oz4 : Option Nat, r = some (av_R oz4) ∧ hb s h2 ∧ ((oz4 = none ∧ B_PM_event_28 G s a1 a2 a3 h2 Q ) ∨ ∃ z4 : Nat, oz4 = some z4 ∧ isV z4 ∧ ((a2 < 0 → B_PM_event_28 G s a1 a2 a3 h2 Q ) ∧ (¬ a2 < 0 → ∀ x5 : Int, x5 = h2.2.1 z4 14 → -2147483648 ≤ x5 → x5 ≤ 2147483647 → ((a2 < x5 → ((a3 < 0 → B_PM_event_49 G s a1 a2 a3 z4 h2 Q ) ∧ (¬ a3 < 0 → ((3 < a3 → B_PM_event_49 G s a1 a2 a3 z4 h2 Q ) ∧ (¬ 3 < a3 → con G 0 0 0 m_Voice_timeOf [av_R (some z4), av_I a2, av_I a3] h2 (fun r h6 => ∃ z8 : Int, r = some (av_L z8) ∧ hb s h6 ∧ Q (some (av_L z8)) h6)))))) ∧ (¬ a2 < x5 → B_PM_event_28 G s a1 a2 a3 h2 Q ))))))
theorem b_PM_event_0 {G : cx_T} {s : Nat} {a1 : Int} {a2 : Int} {a3 : Int} {h : ah_T} {Q : Option av_T → ah_T → Prop} (hb0 : hb s h) (H : B_PM_event_0 G s a1 a2 a3 h Q ) : aw G (rm_R 2 0 0) m_PM_event 0 0 0 [some (av_R (some 0)), some (av_I a1), some (av_I a2), some (av_I a3), none] [] h Q := by
  unfold B_PM_event_0 at H
  have hS : isS s := hb0.2.1
  refine A_aload_n 0 d_PM_event_0 rfl rfl ?_
  refine A_getOv (z := some (97 - s)) T_ok d_PM_event_1 f_PM_27 (hb_s hb0 sf_0) hb0.2.2.1 ?_
  refine A_iload_n 1 d_PM_event_4 rfl rfl ?_
  refine A_callV1 m_Score_voiceAt T_ok d_PM_event_5 l_PM_125 k_Score_voiceAt (hs_S hb0 (isS_o hS)) rfl (by decide +kernel) (by decide) (Nat.le_of_ble_eq_true rfl) H (fun r h2 hq => ?_)
  clear H
  obtain ⟨oz4, rfl, hb3, H⟩ := hq
  rcases H with ⟨H1, H⟩ | ⟨z4, H1, tz4, H⟩
  · subst H1
    refine A_astore (L' := [some (av_R (some 0)), some (av_I a1), some (av_I a2), some (av_I a3), some (av_R none)]) d_PM_event_8 (Nat.le_of_ble_eq_true rfl) rfl ?_
    refine A_aload d_PM_event_10 rfl ?_
    refine A_ifnull (tgt := 28) d_PM_event_12 (by decide) (fun _ => ?_) (fun a q => by cases q)
    refine A_pc (pc' := 28) rfl ?_
    refine A_free (L' := [none, none, none, none, none]) trivial ?_
    exact b_PM_event_28    hb3 H
  · subst H1
    refine A_astore (L' := [some (av_R (some 0)), some (av_I a1), some (av_I a2), some (av_I a3), some (av_R (some z4))]) d_PM_event_8 (Nat.le_of_ble_eq_true rfl) rfl ?_
    refine A_aload d_PM_event_10 rfl ?_
    refine A_ifnull (tgt := 28) d_PM_event_12 (by decide) (fun q => by cases q) (fun _ _ => ?_)
    refine A_iload_n 2 d_PM_event_15 rfl rfl ?_
    refine A_if_lt (tgt := 28) d_PM_event_16 (by decide) (fun c => ?_) (fun c => ?_)
    · replace H := H.1 c
      refine A_pc (pc' := 28) rfl ?_
      refine A_free (L' := [none, none, none, none, none]) trivial ?_
      exact b_PM_event_28    hb3 H
    · replace H := H.2 c
      refine A_iload_n 2 d_PM_event_19 rfl rfl ?_
      refine A_aload d_PM_event_20 rfl ?_
      refine A_getIf T_ok d_PM_event_22 f_PM_129 (hs_V hb3 tz4) (fun x5 ex5 lx5 ux5 => ?_)
      replace H := H x5 ex5 lx5 ux5
      refine A_icmp_lt (tgt := 32) d_PM_event_25 (by decide) (fun c => ?_) (fun c => ?_)
      · replace H := H.1 c
        refine A_iload_n 3 d_PM_event_32 rfl rfl ?_
        refine A_if_lt (tgt := 49) d_PM_event_33 (by decide) (fun c => ?_) (fun c => ?_)
        · replace H := H.1 c
          refine A_pc (pc' := 49) rfl ?_
          refine A_free (L' := [none, none, some (av_I a2), some (av_I a3), some (av_R (some z4))]) (And.intro rfl (And.intro rfl (And.intro rfl trivial))) ?_
          exact b_PM_event_49   tz4 hb3 H
        · replace H := H.2 c
          refine A_iload_n 3 d_PM_event_36 rfl rfl ?_
          refine A_iconst d_PM_event_37 rfl ?_
          refine A_icmp_gt (tgt := 49) d_PM_event_38 (by decide) (fun c => ?_) (fun c => ?_)
          · replace H := H.1 c
            refine A_pc (pc' := 49) rfl ?_
            refine A_free (L' := [none, none, some (av_I a2), some (av_I a3), some (av_R (some z4))]) (And.intro rfl (And.intro rfl (And.intro rfl trivial))) ?_
            exact b_PM_event_49   tz4 hb3 H
          · replace H := H.2 c
            refine A_aload d_PM_event_41 rfl ?_
            refine A_iload_n 2 d_PM_event_43 rfl rfl ?_
            refine A_iload_n 3 d_PM_event_44 rfl rfl ?_
            refine A_callV2 m_Voice_timeOf T_ok d_PM_event_45 l_PM_139 k_Voice_timeOf (hs_V hb3 tz4) rfl (by decide +kernel) (by decide) (Nat.le_of_ble_eq_true rfl) H (fun r h6 hq => ?_)
            clear H
            obtain ⟨z8, rfl, hb7, H⟩ := hq
            exact A_lret d_PM_event_48 (by decide) rfl H
      · replace H := H.2 c
        refine A_pc (pc' := 28) rfl ?_
        refine A_free (L' := [none, none, none, none, none]) trivial ?_
        exact b_PM_event_28    hb3 H
theorem c_PM_event {G : cx_T} {s : Nat} {a1 : Int} {a2 : Int} {a3 : Int} {h : ah_T} {Q : Option av_T → ah_T → Prop} (hb0 : hb s h) (H : i32 a1 → i32 a2 → i32 a3 → B_PM_event_0 G s a1 a2 a3 h Q ) : con G 2 0 0 m_PM_event [av_R (some 0), av_I a1, av_I a2, av_I a3] h Q := by
  have hS : isS s := hb0.2.1
  refine con_of (L := [some (av_R (some 0)), some (av_I a1), some (av_I a2), some (av_I a3), none]) (by decide +kernel) (Nat.le_of_ble_eq_true rfl) rfl ?_
  refine A_locI 1 rfl (fun ra1 => ?_)
  refine A_locI 2 rfl (fun ra2 => ?_)
  refine A_locI 3 rfl (fun ra3 => ?_)
  exact b_PM_event_0   hb0 (H ra1 ra2 ra3)
