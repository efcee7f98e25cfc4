/-! ===== the reference's reader, 2: time, line ===== -/
theorem RMs_f {X : tx_T} {i : Nat} {μ : pm_T} {W : Nat → Nat → Prop} {h h' : ah_T} (H : RMs X i μ h) (f : fr W h h') (hW : ∀ a k, W a k → (a = 170 ∧ 12 < k) ∨ (a ≠ 170 ∧ a ≠ 171)) (h2 : RSn μ h') : RMs X i μ h' :=
  ⟨RMt_f H.1 f (fun a k q => by have := hW a k q; omega), h2, (fr_g f (fun q => by have := hW _ _ q; omega)).trans H.2.2⟩
theorem RMs_m {X : tx_T} {i : Nat} {μ μ' : pm_T} {h : ah_T} (H : RMs X i μ h) (h2 : RSn μ' h) : RMs X i μ' h := ⟨H.1, h2, H.2.2⟩
/-- numbers and pitches of a text are small -/
theorem sw_b {b : Int} (h0 : 65 ≤ b) (h1 : b ≤ 71) : 0 ≤ sw b ∧ sw b ≤ 6 := by unfold sw; split <;> omega
theorem XA_g {X : tx_T} (hA : XA X) : TG X.2.2.1 X.2.2.2.1 := by
  refine ⟨fun i hi hg => TkA_n hA hi hg, fun i hi hk => ?_, fun i hi hk => ?_⟩
  · obtain ⟨h1, h2, h3, h4⟩ := hA.2.1 i hi
    have w : X.2.2.2.2.1 i < X.2.1 := by
      rcases Nat.lt_or_ge (X.2.2.2.2.1 i) X.2.1 with w | w
      · exact w
      · have := (h3 (by omega)).1; omega
    obtain ⟨⟨t1, t2, t3, t4⟩, -⟩ := h4 w
    generalize X.2.2.2.2.1 i = p at *
    by_cases c1 : 65 ≤ X.1 p ∧ X.1 p ≤ 71
    · obtain ⟨q1, q2⟩ := t1 c1
      by_cases d : 48 ≤ tb X.1 X.2.1 (p + 1 + mk X.1 X.2.1 p) ∧ tb X.1 X.2.1 (p + 1 + mk X.1 X.2.1 p) ≤ 56
      · have := (q1 d).1; omega
      · have := q2 d; omega
    · by_cases c2 : isSm (X.1 p)
      · obtain ⟨-, s1, s2⟩ := t2 c2
        by_cases c : 8 < X.2.2.2.2.2 i - p
        · have := s1 c; omega
        · have := (s2 (by omega)).1; have := knm_b (x := lvl X.1 p (X.2.2.2.2.2 i - p)); omega
      · by_cases c3 : isDg (X.1 p)
        · obtain ⟨⟨⟨r1, r2⟩, r3, r4⟩, s1, s2⟩ := t3 c3
          by_cases c : 4 < X.2.2.2.2.2 i - p
          · have := s1 c; omega
          · have e := (s2 (by omega)).2
            have hb := nvl_b (T := X.1) (p := p) (X.2.2.2.2.2 i - p) (fun j a b => r3 j a (by omega))
            have h10 : (10 : Int) ^ (X.2.2.2.2.2 i - p) ≤ 10000 := by
              have : X.2.2.2.2.2 i - p = 0 ∨ X.2.2.2.2.2 i - p = 1 ∨ X.2.2.2.2.2 i - p = 2 ∨ X.2.2.2.2.2 i - p = 3 ∨ X.2.2.2.2.2 i - p = 4 := by omega
              rcases this with w | w | w | w | w <;> rw [w] <;> decide
            omega
        · obtain ⟨-, a2, a3⟩ := t4 c1 c2 c3
          by_cases c : isSg (X.1 p)
          · have := a2 c; unfold isSg at c; omega
          · have := a3 c; omega
  · obtain ⟨h1, h2, h3, h4⟩ := hA.2.1 i hi
    have w : X.2.2.2.2.1 i < X.2.1 := by
      rcases Nat.lt_or_ge (X.2.2.2.2.1 i) X.2.1 with w | w
      · exact w
      · have := (h3 (by omega)).1; omega
    obtain ⟨⟨t1, t2, t3, t4⟩, -⟩ := h4 w
    generalize X.2.2.2.2.1 i = p at *
    by_cases c1 : 65 ≤ X.1 p ∧ X.1 p ≤ 71
    · obtain ⟨q1, q2⟩ := t1 c1
      by_cases d : 48 ≤ tb X.1 X.2.1 (p + 1 + mk X.1 X.2.1 p) ∧ tb X.1 X.2.1 (p + 1 + mk X.1 X.2.1 p) ≤ 56
      · obtain ⟨-, e2, e3, -⟩ := q1 d
        have := wh_b (b := X.1 p)
        have := sw_b c1.1 c1.2
        have := mk_2 (T := X.1) (n := X.2.1) (p := p)
        have e4 : -2 ≤ (if tb X.1 X.2.1 (p + 1) = 35 then (mk X.1 X.2.1 p : Int) else -(mk X.1 X.2.1 p : Int)) ∧ (if tb X.1 X.2.1 (p + 1) = 35 then (mk X.1 X.2.1 p : Int) else -(mk X.1 X.2.1 p : Int)) ≤ 2 := by split <;> omega
        omega
      · have := q2 d; omega
    · by_cases c2 : isSm (X.1 p)
      · obtain ⟨-, s1, s2⟩ := t2 c2
        by_cases c : 8 < X.2.2.2.2.2 i - p
        · have := s1 c; omega
        · have := (s2 (by omega)).1; have := knm_b (x := lvl X.1 p (X.2.2.2.2.2 i - p)); omega
      · by_cases c3 : isDg (X.1 p)
        · obtain ⟨-, s1, s2⟩ := t3 c3
          by_cases c : 4 < X.2.2.2.2.2 i - p
          · have := s1 c; omega
          · have := (s2 (by omega)).1; omega
        · obtain ⟨-, a2, a3⟩ := t4 c1 c2 c3
          by_cases c : isSg (X.1 p)
          · have := a2 c; unfold isSg at c; omega
          · have := a3 c; omega
theorem sg_47 : isSg 47 := by unfold isSg; decide
theorem sg_59 : isSg 59 := by unfold isSg; decide
theorem sg_61 : isSg 61 := by unfold isSg; decide
theorem sg_58 : isSg 58 := by unfold isSg; decide
theorem gk_s {K k : Int} (h : K = k) (hs : isSg k) : gk K := by unfold isSg at hs; exact ⟨by omega, by omega⟩
theorem t_MD_timeItem {G : cx_T} {s : Nat} {h : ah_T} {X : tx_T} {i : Nat} {μ : pm_T} (hb0 : hb s h) (hA : XA X) (H : RMs X i μ h) (hR : RH μ h) (hg : gk (tK X.2.2.1 i)) : con G 4 0 0 m_MD_timeItem [av_R (some 170)] h (QC s X (sp_time X.2.2.1 i μ) h) := by
  have h59 := hR.1
  refine c_MD_timeItem hb0 ?_
  unfold B_MD_timeItem_0
  intro x1 e1 _
  refine ⟨fun c h2 e2 => ?_, fun c x45 e45 _ _ => ?_⟩
  · rw [sp_time, if_pos (by omega)]
    have hb2 := hb_i hb0 e2
    have f2 := fr_i (W := WJ) fr_0 e2 (Or.inl ⟨rfl, Or.inr (by decide)⟩)
    have g2 := fr_i (W := fun a k => a = 170 ∧ k = 59) fr_0 e2 ⟨rfl, rfl⟩
    have H2 := RMs_f H g2 (fun a k q => by omega) (RSn_f H.2.1 g2 (fun a k q => by omega))
    refine con_mono (t_MD_step hb2 hA H2 hg) ?_
    rintro r h4 ⟨z6, rfl, hb4, f4, H4, -⟩
    have f24 := fr_t f2 f4 WM_J
    have n4 := H4.1.2.2.2.1
    have r5 := H4.1.2.2.1
    refine ⟨z6, rfl, hb4, fun x7 e7 _ _ => ⟨fun c1 x8 e8 _ _ => ?_, fun c1 => ?_⟩⟩
    · have hk : tK X.2.2.1 (i + 1) = 259 := ek_3.mp (by rw [← n4, ← e7]; exact c1)
      have ev : x8 = tV' X.2.2.1 (i + 1) := e8.trans (H4.1.2.2.2.2.2.2.1 hk)
      have bad : ¬ (1 ≤ tV' X.2.2.1 (i + 1) ∧ tV' X.2.2.1 (i + 1) ≤ 32) → B_MD_timeItem_57 G s h4 (QC s X (bnd (sp_num X.2.2.1 (i + 1) 32 false) fun a => bnd (sp_take X.2.2.1 (i + 2) 47) fun _ => bnd (sp_num X.2.2.1 (i + 3) 32 true) fun b => bnd (sp_take X.2.2.1 (i + 4) 59) fun _ => .inr (i + 5, up2 (up2 (up2 μ 0 0 1) 0 1 a) 0 2 b)) h) := by
        intro hn
        unfold B_MD_timeItem_57
        intro y ey _ _
        refine con_mono (t_MD_wrong hb4 H4.2.2) ?_
        rintro r h' ⟨z, rfl, hb5, f5, rfl, q1, q2⟩
        refine ⟨0, rfl, hb5, Or.inl rfl, 0, rfl, hb5, fr_t f24 f5 (fun _ _ w => w), Or.inl rfl, ?_⟩
        rw [sp_num, if_pos hk, if_neg (fun w => hn w.1)]
        exact ⟨rfl, q1, by rw [q2, ey, r5]⟩
      refine ⟨fun d => bad (by omega), fun d => ⟨fun d1 h12 e12 => ?_, fun d1 => bad (by omega)⟩⟩
      have hn : sp_num X.2.2.1 (i + 1) 32 false = .inr x8 := by rw [sp_num, if_pos hk, if_pos ⟨⟨by omega, by omega⟩, Or.inl rfl⟩, ev]
      rw [hn]
      simp only [bnd]
      have hb12 := hb_i hb4 e12
      have f12 := fr_i f24 e12 (Or.inr (Or.inl ⟨by decide, rfl⟩))
      have g12 := fr_i (W := fun a k => a = 173 ∧ k = 1) fr_0 e12 ⟨rfl, rfl⟩
      -- the memory so far
      have R12 : RSn (up2 (up2 μ 0 0 1) 0 1 x8) h12 := by
        obtain ⟨⟨a1, a2, a3, a4, a5, a6, a7⟩, b, l, ru, ro, na⟩ := H4.2.1
        have g : ∀ a k, a ≠ 173 → h12.2.1 a k = h4.2.1 a k := fun a k q => fr_g g12 (fun w => q w.1)
        refine ⟨⟨mv_i e12, (g _ _ (by decide)).trans a2, (g _ _ (by decide)).trans a3, (g _ _ (by decide)).trans a4, (g _ _ (by decide)).trans a5, (g _ _ (by decide)).trans a6, (g _ _ (by decide)).trans a7⟩, b, fun j hj => (g _ _ (by decide)).trans (l j hj), fun j hj => ?_, fun j hj => (g _ _ (by decide)).trans (ro j hj), fun j hj => (fr_gl g12 (fun w => absurd w.1 (by decide))).trans (na j hj)⟩
        rw [g _ _ (by decide), g _ _ (by decide), g _ _ (by decide)]; exact ru j hj
      have H12 : RMs X (i + 1) (up2 (up2 μ 0 0 1) 0 1 x8) h12 := ⟨RMt_f H4.1 g12 (fun a k q => by omega), R12, (fr_g g12 (by omega)).trans H4.2.2⟩
      have RH4 : RH (up2 (up2 μ 0 0 1) 0 1 x8) h4 := by
        refine ⟨?_, ?_, ?_⟩
        · rw [fr_g f4 (by omega), mv_i e2]; rfl
        · rw [fr_g f4 (by omega), mm_i e2 (by decide)]; exact hR.2.1
        · rw [fr_g f4 (by omega), mm_i e2 (by decide)]; exact hR.2.2
      have RH12 := RH_f RH4 g12 (fun k _ _ q => by omega)
      refine con_mono (t_MD_step hb12 hA H12 (gk_of hk (by decide) (by decide))) ?_
      rintro r h14 ⟨z16, rfl, hb14, f14, H14, -⟩
      have f124 := fr_t f12 f14 WM_J
      refine ⟨z16, rfl, hb14, ?_⟩
      refine con_mono (t_MD_want hb14 hA H14 (RH_M RH12 f14) sg_47) ?_
      rintro r h17 ⟨z19, rfl, hb17, f17, -, p17⟩
      have f1417 := fr_t f124 f17 (fun _ _ w => w)
      rcases e2' : sp_take X.2.2.1 (i + 2) 47 with q | u
      · rw [show i + 1 + 1 = i + 2 from rfl, e2'] at p17
        obtain ⟨rfl, p17⟩ := p17
        exact ⟨0, rfl, hb17, fun _ => ⟨0, rfl, hb17, f1417, Or.inl rfl, rfl, p17⟩, fun d => absurd rfl d⟩
      rw [show i + 1 + 1 = i + 2 from rfl, e2'] at p17
      obtain ⟨rfl, H17, RH17⟩ := p17
      have H17' : RMs X (i + 3) (up2 (up2 μ 0 0 1) 0 1 x8) h17 := H17
      have n17 := H17'.1.2.2.2.1
      have r17 := H17'.1.2.2.1
      dsimp only
      refine ⟨1, rfl, hb17, fun d => absurd d (by decide), fun _ x20 e20 _ _ => ⟨fun c2 x21 e21 _ _ => ?_, fun c2 => ?_⟩⟩
      · have hk3 : tK X.2.2.1 (i + 3) = 259 := ek_3.mp (by rw [← n17, ← e20]; exact c2)
        have ev3 : x21 = tV' X.2.2.1 (i + 3) := e21.trans (H17'.1.2.2.2.2.2.2.1 hk3)
        refine con_mono (t_MD_isPower hb17 (by decide)) ?_
        rintro r h22 ⟨z24, rfl, hb22, rfl, -, z02⟩
        refine ⟨z24, rfl, hb22, fun d2 y ey _ _ => ?_, fun d2 x26 e26 _ _ h27 e27 => ?_⟩
        · refine con_mono (t_MD_wrong hb22 H17'.2.2) ?_
          rintro r h' ⟨z, rfl, hb5, f5, rfl, q1, q2⟩
          refine ⟨0, rfl, hb5, Or.inl rfl, 0, rfl, hb5, fr_t f1417 f5 (fun _ _ w => w), Or.inl rfl, ?_⟩
          rw [sp_num, if_pos hk3, if_neg (fun w => z02.mp d2 ⟨by rw [ev3]; exact w.1, w.2.elim (fun q => by cases q) (fun q => by rw [ev3]; exact q)⟩)]
          exact ⟨rfl, q1, by rw [q2, ey, r17]⟩
        · have hgood := Classical.not_not.mp (fun w => d2 (z02.mpr w))
          have e26' : x26 = x21 := e26.trans e21.symm
          have hn3 : sp_num X.2.2.1 (i + 3) 32 true = .inr x26 := by
            rw [sp_num, if_pos hk3, if_pos ⟨by rw [← ev3]; exact hgood.1, Or.inr (by rw [← ev3]; exact hgood.2)⟩, e26', ev3]
          rw [hn3]
          dsimp only
          have hb27 := hb_i hb22 e27
          have f27 := fr_i f1417 e27 (Or.inr (Or.inl ⟨by decide, rfl⟩))
          have g27 := fr_i (W := fun a k => a = 174 ∧ k = 1) fr_0 e27 ⟨rfl, rfl⟩
          have R27 : RSn (up2 (up2 (up2 μ 0 0 1) 0 1 x8) 0 2 x26) h27 := by
            obtain ⟨⟨a1, a2, a3, a4, a5, a6, a7⟩, b, l, ru, ro, na⟩ := H17'.2.1
            have g : ∀ a k, a ≠ 174 → h27.2.1 a k = h22.2.1 a k := fun a k q => fr_g g27 (fun w => q w.1)
            refine ⟨⟨(g _ _ (by decide)).trans a1, mv_i e27, (g _ _ (by decide)).trans a3, (g _ _ (by decide)).trans a4, (g _ _ (by decide)).trans a5, (g _ _ (by decide)).trans a6, (g _ _ (by decide)).trans a7⟩, b, fun j hj => (g _ _ (by decide)).trans (l j hj), fun j hj => ?_, fun j hj => (g _ _ (by decide)).trans (ro j hj), fun j hj => (fr_gl g27 (fun w => absurd w.1 (by decide))).trans (na j hj)⟩
            rw [g _ _ (by decide), g _ _ (by decide), g _ _ (by decide)]; exact ru j hj
          have H27 : RMs X (i + 3) (up2 (up2 (up2 μ 0 0 1) 0 1 x8) 0 2 x26) h27 := ⟨RMt_f H17'.1 g27 (fun a k q => by omega), R27, (fr_g g27 (by omega)).trans H17'.2.2⟩
          have RH27 : RH (up2 (up2 (up2 μ 0 0 1) 0 1 x8) 0 2 x26) h27 := RH_f RH17 g27 (fun k _ _ q => by omega)
          refine con_mono (t_MD_step hb27 hA H27 (gk_of hk3 (by decide) (by decide))) ?_
          rintro r h29 ⟨z31, rfl, hb29, f29, H29, -⟩
          refine ⟨z31, rfl, hb29, ?_⟩
          refine con_mono (t_MD_want hb29 hA H29 (RH_M RH27 f29) sg_59) ?_
          rintro r h32 ⟨z34, rfl, hb32, f32, z01, p32⟩
          exact ⟨z34, rfl, hb32, z01, z34, rfl, hb32, fr_t (fr_t f27 f29 WM_J) f32 (fun _ _ w => w), z01, p32⟩
      · have hk3 : ¬ tK X.2.2.1 (i + 3) = 259 := fun w => c2 (by rw [e20, n17]; exact ek_3.mpr w)
        refine con_mono (t_MD_cant hb17 H17') ?_
        rintro r h' ⟨z, rfl, hb5, f5, rfl, q1, q2⟩
        refine ⟨0, rfl, hb5, Or.inl rfl, 0, rfl, hb5, fr_t f1417 f5 (fun _ _ w => w), Or.inl rfl, ?_⟩
        rw [sp_num, if_neg hk3]
        exact ⟨rfl, q1, q2⟩
    · have hk : ¬ tK X.2.2.1 (i + 1) = 259 := fun w => c1 (by rw [e7, n4]; exact ek_3.mpr w)
      refine con_mono (t_MD_cant hb4 H4) ?_
      rintro r h' ⟨z, rfl, hb5, f5, rfl, q1, q2⟩
      refine ⟨0, rfl, hb5, Or.inl rfl, 0, rfl, hb5, fr_t f24 f5 (fun _ _ w => w), Or.inl rfl, ?_⟩
      rw [sp_num, if_neg hk]
      exact ⟨rfl, q1, q2⟩
  · rw [sp_time, if_neg (by omega)]
    refine con_mono (t_MD_wrong hb0 H.2.2) ?_
    rintro r h' ⟨z, rfl, hb1, f1, rfl, q1, q2⟩
    exact ⟨0, rfl, hb1, Or.inl rfl, 0, rfl, hb1, f1, Or.inl rfl, rfl, q1, by rw [q2, e45, H.1.2.2.1]⟩
theorem t_MD_lineItem {G : cx_T} {s : Nat} {h : ah_T} {X : tx_T} {i : Nat} {μ : pm_T} (hb0 : hb s h) (hA : XA X) (H : RMs X i μ h) (hR : RH μ h) (hg : gk (tK X.2.2.1 i)) : con G 3 0 0 m_MD_lineItem [av_R (some 170)] h (QC s X (sp_line X.2.2.1 i μ) h) := by
  -- within the item: the line's mark is set
  let I : ah_T → Prop := fun hh => fr WJ h hh ∧ ∃ (j : Nat) (ν : pm_T) (f : Nat), RMs X j ν hh ∧ (hh.2.1 170 59 = ν 0 0 ∧ hh.2.1 170 60 ≠ 0 ∧ (hh.2.1 170 61 = 0 ↔ ν 0 5 ≤ 0)) ∧ (f : Int) = 10 - ν 0 3 ∧ sp_line X.2.2.1 i μ = sp_pits X.2.2.1 f j ν
  refine c_MD_lineItem (X27 := I) ?_ hb0 ?_
  · refine lp_MD_lineItem_27 _ (fun hh => (10 - hh.2.1 175 1).toNat) ?_
    rintro hh hb1 ⟨hf, j, ν, f, Hj, ⟨k59, k60, k61⟩, ef, es⟩
    have n4 := Hj.1.2.2.2.1
    have r5 := Hj.1.2.2.1
    have e3 := Hj.2.1.1.2.2.1
    have hb8 := Hj.2.1.2.1.1
    obtain ⟨f', rfl⟩ : ∃ f', f = f' + 1 := ⟨f - 1, by omega⟩
    rw [sp_pits] at es
    unfold B_MD_lineItem_27
    intro x1 e1 _ _
    refine ⟨fun c x3 ex3 _ _ => ⟨fun c1 y ey _ _ => ?_, fun c1 => ?_⟩, fun c => ?_⟩
    · have hk : tK X.2.2.1 j = 258 := ek_1.mp (by rw [← n4, ← e1]; exact c)
      rw [if_pos hk, if_pos (by omega)] at es
      refine con_mono (t_MD_wrong hb1 Hj.2.2) ?_
      rintro r h' ⟨z, rfl, hb5, f5, rfl, q1, q2⟩
      exact ⟨0, rfl, hb5, Or.inl rfl, 0, rfl, hb5, fr_t hf f5 (fun _ _ w => w), Or.inl rfl, by rw [es]; exact ⟨rfl, q1, by rw [q2, ey, r5]⟩⟩
    · have hk : tK X.2.2.1 j = 258 := ek_1.mp (by rw [← n4, ← e1]; exact c)
      rw [if_pos hk, if_neg (by omega)] at es
      refine ⟨⟨by omega, by omega⟩, fun x8 e8 _ _ => ⟨⟨by omega, by omega⟩, fun h10 e10 => ⟨⟨by omega, by omega⟩, fun h15 e15 => ?_⟩⟩⟩
      have ev : x8 = tV' X.2.2.1 j := e8.trans (Hj.1.2.2.2.2.2.2.2.1 hk).1
      have hb15 := hb_i (hb_i hb1 e10) e15
      have f15 := fr_i (fr_i hf e10 (Or.inr (Or.inr (Or.inl ⟨rfl, by omega⟩)))) e15 (Or.inr (Or.inl ⟨by decide, rfl⟩))
      have g15 := fr_i (fr_i (W := fun a k => a = 176 ∨ (a = 175 ∧ k = 1)) fr_0 e10 (Or.inl rfl)) e15 (Or.inr ⟨rfl, rfl⟩)
      have ix : (x3 + 8).toNat = 8 + (ν 0 3).toNat := by omega
      rw [ix] at e10
      have R15 : RSn (pit X.2.2.1 j ν) h15 := by
        obtain ⟨⟨a1, a2, a3, a4, a5, a6, a7⟩, ⟨b3, b⟩, l, ru, ro, na⟩ := Hj.2.1
        have g : ∀ a k, a ≠ 176 → a ≠ 175 → h15.2.1 a k = hh.2.1 a k := fun a k q1 q2 => fr_g g15 (by omega)
        unfold pit
        refine ⟨⟨(g _ _ (by decide) (by decide)).trans a1, (g _ _ (by decide) (by decide)).trans a2, ?_, (g _ _ (by decide) (by decide)).trans a4, (g _ _ (by decide) (by decide)).trans a5, (g _ _ (by decide) (by decide)).trans a6, (g _ _ (by decide) (by decide)).trans a7⟩, ⟨⟨?_, ?_⟩, b⟩, fun j hj => ?_, fun j hj => ?_, fun j hj => (g _ _ (by decide) (by decide)).trans (ro j hj), fun j hj => (fr_gl g15 (by omega)).trans (na j hj)⟩
        · rw [mv_i e15]; show x3 + 1 = ν 0 3 + 1; omega
        · show 0 ≤ ν 0 3 + 1; omega
        · show ν 0 3 + 1 ≤ 8; omega
        · have hj : (j : Int) < ν 0 3 + 1 := hj
          show h15.2.1 176 (8 + j) = up2 ν 1 (ν 0 3).toNat (tV' X.2.2.1 _) 1 j
          rw [mm_i e15 (by omega)]
          by_cases hc : j = (ν 0 3).toNat
          · rw [hc, mv_i e10, up2_at]; exact ev
          · rw [mm_i e10 (by omega), up2_o (fun q => hc q.2)]; exact l j (by omega)
        · rw [g _ _ (by decide) (by decide), g _ _ (by decide) (by decide), g _ _ (by decide) (by decide)]; exact ru j hj
      have H15 : RMs X j (pit X.2.2.1 j ν) h15 := ⟨RMt_f Hj.1 g15 (fun a k q => by omega), R15, (fr_g g15 (by omega)).trans Hj.2.2⟩
      refine con_mono (t_MD_step hb15 hA H15 (gk_of hk (by decide) (by decide))) ?_
      rintro r h17 ⟨z19, rfl, hb17, f17, H17, -⟩
      have f157 := fr_t f15 f17 WM_J
      have y59 : h17.2.1 170 59 = ν 0 0 := by rw [fr_g f17 (by omega), fr_g g15 (by omega)]; exact k59
      have y60 : h17.2.1 170 60 ≠ 0 := by rw [fr_g f17 (by omega), fr_g g15 (by omega)]; exact k60
      have y61 : h17.2.1 170 61 = 0 ↔ ν 0 5 ≤ 0 := by rw [fr_g f17 (by omega), fr_g g15 (by omega)]; exact k61
      have e175 : h17.2.1 175 1 = x3 + 1 := by rw [fr_g f17 (by omega), mv_i e15]
      refine ⟨z19, rfl, hb17, ?_⟩
      refine con_mono (t_MD_isSign hb17 hA H17 sg_59) ?_
      rintro r h20 ⟨z22, rfl, hb20, rfl, -, z02⟩
      refine ⟨z22, rfl, hb20, fun d => ⟨⟨f157, j + 1, pit X.2.2.1 j ν, f', H17, ⟨y59, y60, y61⟩, ?_, ?_⟩, by omega⟩, fun d => ?_⟩
      · show (f' : Int) = 10 - (ν 0 3 + 1); omega
      · rw [es, if_neg (z02.mp d)]
      · have hk9 : tK X.2.2.1 (j + 1) = 59 := Classical.not_not.mp (fun w => d (z02.mpr w))
        rw [if_pos hk9] at es
        refine con_mono (t_MD_step hb20 hA H17 (gk_s hk9 sg_59)) ?_
        rintro r h' ⟨z, rfl, hb5, f5, H5, rfl⟩
        refine ⟨1, rfl, hb5, Or.inr rfl, 1, rfl, hb5, fr_t f157 f5 WM_J, Or.inr rfl, ?_⟩
        rw [es]
        refine ⟨rfl, H5, ?_, ?_, ?_⟩
        · rw [fr_g f5 (by omega)]; exact y59
        · rw [fr_g f5 (by omega)]
          exact ⟨fun w => absurd w y60, fun w => by
            have w : ν 0 3 + 1 ≤ 0 := w
            omega⟩
        · rw [fr_g f5 (by omega)]; exact y61
    · have hk : ¬ tK X.2.2.1 j = 258 := fun w => c (by rw [e1, n4]; exact ek_1.mpr w)
      rw [if_neg hk] at es
      refine con_mono (t_MD_cant hb1 Hj) ?_
      rintro r h' ⟨z, rfl, hb5, f5, rfl, q1, q2⟩
      exact ⟨0, rfl, hb5, Or.inl rfl, 0, rfl, hb5, fr_t hf f5 (fun _ _ w => w), Or.inl rfl, by rw [es]; exact ⟨rfl, q1, q2⟩⟩
  · unfold B_MD_lineItem_0
    intro x1 e1 _
    have h60 := hR.2.1
    refine ⟨fun c h2 e2 => ?_, fun c x7 e7 _ _ => ?_⟩
    · have hb2 := hb_i hb0 e2
      have f2 := fr_i (W := WJ) fr_0 e2 (Or.inl ⟨rfl, Or.inr (by decide)⟩)
      have g2 := fr_i (W := fun a k => a = 170 ∧ k = 60) fr_0 e2 ⟨rfl, rfl⟩
      have H2 := RMs_f H g2 (fun a k q => by omega) (RSn_f H.2.1 g2 (fun a k q => by omega))
      refine con_mono (t_MD_step hb2 hA H2 hg) ?_
      rintro r h4 ⟨z6, rfl, hb4, f4, H4, -⟩
      have h3 : μ 0 3 ≤ 0 := h60.mp (by omega)
      have h30 := H.2.1.2.1.1
      refine ⟨z6, rfl, hb4, fr_t f2 f4 WM_J, i + 1, μ, 10, H4, ⟨?_, ?_, ?_⟩, by omega, ?_⟩
      · rw [fr_g f4 (by omega), mm_i e2 (by decide)]; exact hR.1
      · rw [fr_g f4 (by omega), mv_i e2]; decide
      · rw [fr_g f4 (by omega), mm_i e2 (by decide)]; exact hR.2.2
      · rw [sp_line, if_pos h3]
    · have h3 : ¬ μ 0 3 ≤ 0 := fun w => c (by have := h60.mpr w; omega)
      rw [sp_line, if_neg h3]
      refine con_mono (t_MD_wrong hb0 H.2.2) ?_
      rintro r h' ⟨z, rfl, hb1, f1, rfl, q1, q2⟩
      exact ⟨0, rfl, hb1, Or.inl rfl, 0, rfl, hb1, f1, Or.inl rfl, rfl, q1, by rw [q2, e7, H.1.2.2.1]⟩
