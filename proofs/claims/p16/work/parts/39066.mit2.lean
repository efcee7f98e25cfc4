/-! ===== the reference: a voice, an item ===== -/
theorem WM_Jb : ∀ a k, WM a k → WJb a k := fun a k q => Or.inl (WM_J a k q)
theorem WV_Jc : ∀ a k, WVm a k → a ≤ 184 ∨ 201 ≤ a := fun a k w => by omega
theorem t_MD_voiceItem {G : cx_T} {s : Nat} {h : ah_T} {X : tx_T} {i : Nat} {μ : pm_T} (hb0 : hb s h) (hA : XA X) (H : RMs X i μ h) (hR : RH μ h) (HV : RVw μ h) (hk : tK X.2.2.1 i = 262) :
    con G 6 0 0 m_MD_voiceItem [av_R (some 170)] h (QIm s X (sp_voice X.2.2.1 i μ) h) := by
  have b7 := H.2.1.2.1.2.2.2.2
  have h172 := H.2.1.1.2.2.2.2.2.2
  obtain ⟨n, hn⟩ : ∃ n : Nat, μ 0 7 = (n : Int) := ⟨(μ 0 7).toNat, by omega⟩
  have en : (μ 0 7).toNat = n := by omega
  generalize et : X.2.2.1 = t at *
  have e3 : sp_voice t i μ = if μ 0 7 < 4 then bnd (sp_parts t 3000 (i + 1) par0) (fun q => if 2000 < walk q.2 0 0 ∨ 300 < walk q.2 0 1 ∨ 100 < walk q.2 0 2 then .inl (3, tP t i) else if walk q.2 0 3 = 0 then .inr (q.1 + 1, addV μ q.2 (walk q.2)) else .inl (6, tP t i)) else .inl (3, tP t i) := rfl
  generalize sp_voice t i μ = RR at e3 ⊢
  generalize ep : sp_parts t 3000 (i + 1) par0 = Rp at e3
  refine c_MD_voiceItem (X45 := fun v1 hh => v1 = tP t i ∧ μ 0 7 < 4 ∧ fr WJb h hh ∧ RH μ hh ∧ RVw μ hh ∧ ∃ (j f : Nat) (π : pm_T), VEm X j μ π hh ∧ (f : Int) + π 0 0 = 2999 ∧ Rp = sp_parts t (f + 1) j π) ?_ hb0 ?_
  · refine lp_MD_voiceItem_45 _ (fun _ hh => (2100 - hh.2.1 170 43).toNat) ?_
    rintro v1 hh hb1 ⟨rfl, h4, hf, hR1, HV1, j, f, π, V, hfu, er⟩
    rw [if_pos h4] at e3
    obtain ⟨Hj, Rj, Pj, Wj, Mj, hpj⟩ := id V
    have hj2 := RMs_i hA Hj
    have p0 := Pj.1.1
    have p1 := Pj.1.2.1
    have k61 : ¬ (tK t j = 59 ∧ π 0 1 ≤ 0) → B_MD_voiceItem_61 G s (tP t i) hh (QIm s X RR h) (fun v1' h' => (v1' = tP t i ∧ μ 0 7 < 4 ∧ fr WJb h h' ∧ RH μ h' ∧ RVw μ h' ∧ ∃ (j f : Nat) (π : pm_T), VEm X j μ π h' ∧ (f : Int) + π 0 0 = 2999 ∧ Rp = sp_parts t (f + 1) j π) ∧ (2100 - h'.2.1 170 43).toNat < (2100 - hh.2.1 170 43).toNat) := by
      intro hc
      rw [sp_parts_e hc] at er
      unfold B_MD_voiceItem_61
      refine con_mono (t_MD_voicePart hb1 hA V) ?_
      rw [et]
      rintro r h1 ⟨z, rfl, hb2, f2, z01, p⟩
      have ff : fr WJb h h1 := fr_t hf f2 WV_J
      refine ⟨z, rfl, hb2, fun z0 => ?_, fun z1 => ?_⟩
      · rcases e : sp_part t j π with q | q
        · rw [e] at p er
          refine ⟨0, rfl, hb2, ff, Or.inl rfl, ?_⟩
          rw [e3, er]; exact ⟨rfl, p.2⟩
        · rw [e] at p; exact absurd p.1 (by omega)
      · rcases e : sp_part t j π with q | q
        · rw [e] at p; exact absurd p.1 z1
        · rw [e] at p er
          obtain ⟨-, V'⟩ := p
          have k0 := sp_part_0 Pj e
          obtain ⟨f', rfl⟩ : ∃ f', f = f' + 1 := ⟨f - 1, by omega⟩
          refine ⟨⟨rfl, h4, ff, RH_f hR1 f2 (fun k h1 h2 w => by omega), RVw_V HV1 f2 WV_Jc, q.1, f', q.2, V', by omega, er⟩, ?_⟩
          have := V'.2.1.1
          rw [this, Rj.1, k0]; omega
    unfold B_MD_voiceItem_45
    intro x1 e1 _ _
    have ex1 : x1 = π 0 1 := e1.trans Rj.2.1.1
    refine ⟨fun c => k61 (fun w => by omega), fun c => ?_⟩
    refine con_mono (t_MD_isSign hb1 hA Hj (k := 59) (by unfold isSg; omega)) ?_
    rw [et]
    rintro r h2 ⟨z4, rfl, hb2, rfl, -, z02⟩
    refine ⟨z4, rfl, hb2, fun cz => k61 (fun w => z02.mp cz w.1), fun cz => ?_⟩
    have y59 : tK t j = 59 := Classical.not_not.mp (fun w => cz (z02.mpr w))
    have ed : sp_parts t (f + 1) j π = .inr (j, π) := by rw [sp_parts, if_pos ⟨y59, by omega⟩]
    rw [ed] at er
    have hG := (sp_parts_RG (ep.trans er)).1
    rw [er] at e3
    simp only [bnd] at e3
    refine con_mono (t_MD_walk (n := n) (v := n + 4) hb2 (by rw [Hj.2.1.1.2.2.2.2.2.2, hn]) (by omega) rfl Pj (by omega) Rj hG Mj (by unfold dp; omega) Hj.2.2) ?_
    rintro r h5 ⟨z7, rfl, hb5, f5, q⟩
    have f5J : fr WJb h2 h5 := fr_w f5 (WWf_J (by omega))
    rcases q with ⟨kz, rfl, h11, T⟩ | ⟨kz, rfl, w1, w2⟩
    · refine ⟨1, rfl, hb5, fun d => absurd d (by decide), fun _ x9 e9 _ _ => ?_⟩
      have hw : ¬ (2000 < walk π 0 0 ∨ 300 < walk π 0 1 ∨ 100 < walk π 0 2) ∧ walk π 0 3 = 0 := by
        unfold wkF at kz
        split at kz
        · cases kz
        · rename_i q
          split at kz
          · rename_i q2; exact ⟨q, q2⟩
          · cases kz
      rw [if_neg hw.1, if_pos hw.2] at e3
      have ex9 : x9 = μ 0 7 := by
        rw [e9, fr_g f5 (by omega)]; exact Hj.2.1.1.2.2.2.2.2.2
      refine ⟨⟨by omega, by omega⟩, fun h11' e11 => ?_⟩
      have f11 : fr (fun a k => a = 172 ∧ k = 1) h5 h11' := fr_i fr_0 e11 ⟨rfl, rfl⟩
      have HS : RSn (up2 μ 0 7 (μ 0 7 + 1)) h11' := by
        obtain ⟨⟨a1, a2, a3, a4, a5, a6, a7⟩, ⟨b1, b2, b3, b4, b5⟩, l, ru, ro, na⟩ := RSn_f (W := fun a k => WWf (n + 4) a k) Hj.2.1 f5 (fun a k w => by omega)
        have g : ∀ a k, ¬ (a = 172 ∧ k = 1) → h11'.2.1 a k = h5.2.1 a k := fun a k q => fr_g f11 q
        have o : ∀ a k, ¬ (a = 0 ∧ k = 7) → up2 μ 0 7 (μ 0 7 + 1) a k = μ a k := fun a k q => up2_o q
        refine ⟨⟨?_, ?_, ?_, ?_, ?_, ?_, ?_⟩, ⟨b1, b2, b3, b4, ⟨?_, ?_⟩⟩, fun j hj => ?_, fun j hj => ?_, fun j hj => ?_, fun j hj => ?_⟩
        · rw [g _ _ (by omega), o _ _ (by omega)]; exact a1
        · rw [g _ _ (by omega), o _ _ (by omega)]; exact a2
        · rw [g _ _ (by omega), o _ _ (by omega)]; exact a3
        · rw [g _ _ (by omega), o _ _ (by omega)]; exact a4
        · rw [g _ _ (by omega), o _ _ (by omega)]; exact a5
        · rw [g _ _ (by omega), o _ _ (by omega)]; exact a6
        · rw [mv_i e11, up2_at, ex9]
        · rw [up2_at]; omega
        · rw [up2_at]; omega
        · rw [g _ _ (by omega), o _ _ (by omega)]; exact l j hj
        · rw [g _ _ (by omega), g _ _ (by omega), g _ _ (by omega), o _ _ (by omega), o _ _ (by omega), o _ _ (by omega)]; exact ru j hj
        · rw [g _ _ (by omega), o _ _ (by omega)]; exact ro j hj
        · rw [fr_gl f11 (by omega), o _ _ (by omega)]; exact na j hj
      have HM : RMs X j (addV μ π (walk π)) h11' := ⟨RMt_f (RMt_f Hj.1 f5 (fun a k w => by omega)) f11 (fun a k w => by omega), RSn_v HS, by rw [fr_g f11 (by omega)]; exact h11⟩
      refine con_mono (t_MD_step (hb_i hb5 e11) hA HM (by rw [et, y59]; exact ⟨by decide, by decide⟩)) ?_
      rintro r h13 ⟨z, rfl, hb13, f13, H13, rfl⟩
      have fJ : fr WJb h2 h13 := fr_t (fr_t f5J f11 (fun a k w => Or.inl (Or.inr (Or.inl ⟨by omega, w.2⟩)))) f13 WM_Jb
      refine ⟨1, rfl, hb13, Or.inr rfl, 1, rfl, hb13, fr_t hf fJ (fun _ _ w => w), Or.inr rfl, ?_⟩
      rw [e3]
      refine ⟨rfl, H13, ?_, fun m hm => ?_⟩
      · have r5 := RH_f hR1 f5 (fun k h1 h2 w => by omega)
        have r11 := RH_f r5 f11 (fun k h1 h2 w => by omega)
        have r13 := RH_f r11 f13 (fun k h1 h2 w => by omega)
        have goal : RH (addV μ π (walk π)) h13 := by
          unfold RH at r13 ⊢
          rw [addV_o (by decide) (by omega), addV_o (by decide) (by omega), addV_o (by decide) (by omega)]
          exact r13
        exact goal
      · have e7 : addV μ π (walk π) 0 7 = μ 0 7 + 1 := addV_7
        by_cases c : m = n
        · subst c
          have T13 := RVm_w (μ := μ) en.symm T Pj
          have : 4 + m = m + 4 := by omega
          rw [this]
          exact RVm_g T13 (fun a k q => by unfold vcel at q; exact ⟨by rw [fr_g f13 (by omega), fr_g f11 (by omega)], by rw [fr_gl f13 (by omega), fr_gl f11 (by omega)]⟩)
        · have hm2 : (m : Int) < μ 0 7 := by
            have hm' : (m : Int) < addV μ π (walk π) 0 7 := hm
            omega
          have V5 := RVm_g (HV1 m hm2) (h' := h5) (fun a k q => by
            have nn : ¬ WWf (n + 4) a k := fun w => WWf_c (v := n + 4) (w := 4 + m) (by omega) w q
            exact ⟨fr_g f5 nn, fr_gl f5 nn⟩)
          have V13 := RVm_g V5 (h' := h13) (fun a k q => by unfold vcel at q; exact ⟨by rw [fr_g f13 (by omega), fr_g f11 (by omega)], by rw [fr_gl f13 (by omega), fr_gl f11 (by omega)]⟩)
          exact RVm_m V13 (fun a k q => addV_b (n := m) (by omega) q (by omega))
    · refine ⟨0, rfl, hb5, fun _ => ⟨0, rfl, hb5, fr_t hf f5J (fun _ _ w => w), Or.inl rfl, ?_⟩, fun d => absurd rfl d⟩
      have : RR = .inl (wkF π, tP t i) := by
        rw [e3]
        unfold wkF
        split
        · rfl
        · rename_i q
          split
          · rename_i q2
            exfalso; apply kz; unfold wkF; rw [if_neg q, if_pos q2]
          · rfl
      rw [this]
      exact ⟨rfl, w1, w2⟩
  · unfold B_MD_voiceItem_0
    intro x1 e1 _ _ x3 e3' _ _
    have ex1 : x1 = tP t i := by rw [e1, H.1.2.2.1, et]
    have ex3 : x3 = μ 0 7 := e3'.trans h172
    subst ex1
    refine ⟨fun c => ?_, fun c => ?_⟩
    · rw [if_neg (by omega)] at e3
      refine con_mono (t_MD_wrong hb0 H.2.2) ?_
      rintro r h' ⟨z, rfl, hb2, f2, rfl, w1, w2⟩
      exact ⟨0, rfl, hb2, Or.inl rfl, 0, rfl, hb2, fr_w f2 WJ_b, Or.inl rfl, by rw [e3]; exact ⟨rfl, w1, w2⟩⟩
    · refine con_mono (t_MD_step hb0 hA H (by rw [et, hk]; exact ⟨by decide, by decide⟩)) ?_
      rintro r h4 ⟨z, rfl, hb4, f4, H4, rfl⟩
      refine ⟨1, rfl, hb4, fun h7 e7 h9 e9 h11 e11 => ?_⟩
      have f11 : fr (fun a k => a = 170 ∧ (k = 43 ∨ k = 63 ∨ k = 64)) h4 h11 := fr_i (fr_i (fr_i fr_0 e7 (by omega)) e9 (by omega)) e11 (by omega)
      have fJ : fr WJb h h11 := fr_t (fr_w f4 WM_Jb) f11 (fun a k w => Or.inl (Or.inl ⟨w.1, Or.inr (by omega)⟩))
      refine ⟨rfl, by omega, fJ, RH_f (RH_M hR f4) f11 (fun k h1 h2 w => by omega), RVw_V (RVw_V HV f4 (fun a k w => by omega)) f11 (fun a k w => by omega), i + 1, 2999, par0, ⟨RMs_V H4 f11 (fun a k w => by omega), ⟨?_, ⟨?_, ?_⟩, fun d hd => absurd hd (by show ¬ (d : Int) < 0; omega), fun j hj => absurd hj (by show ¬ (j : Int) < 0; omega)⟩, PW_0, WC_0, MKm_0, by show (0 : Int) + 1 ≤ ((i + 1 : Nat) : Int); omega⟩, by decide, ep.symm⟩
      · rw [mm_i e11 (by omega), mm_i e9 (by omega), mv_i e7]; rfl
      · rw [mm_i e11 (by omega), mv_i e9]; rfl
      · rw [mv_i e11]; rfl
