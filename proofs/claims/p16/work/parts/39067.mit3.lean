/-! ===== the reference: a text read ===== -/
theorem TkA_s {T : Nat → Int} {n : Nat} {t : tk_T} {m : Nat} {a b : Nat → Nat} (H : TkA T n t m a b) {i : Nat} : ∀ j, i < j → j < m → a i < a j
  | 0, h, _ => absurd h (Nat.not_lt_zero _)
  | j + 1, h, hm => by
    obtain ⟨g, s⟩ := H.2.2.1 j hm
    obtain ⟨h1, h2, h3, h4⟩ := H.2.1 j (by omega)
    have hs := s.1.1
    have key : a j < a (j + 1) := by
      rcases Nat.lt_or_ge (a j) n with w | w
      · have := (Tok_lt (h4 w).1 w g.2).1; omega
      · exact absurd (h3 (by omega)).1 g.1
    by_cases c : i = j
    · subst c; exact key
    · have := TkA_s (i := i) H j (by omega) (by omega); omega
def PRm (X : tx_T) (R : F_T ⊕ pm_T) (z : Int) (h' : ah_T) : Prop := match R with
  | .inl q => z = 0 ∧ q.1 ≠ 0 ∧ h'.2.1 170 11 = q.1 ∧ h'.2.1 170 12 = q.2
  | .inr μ => z = 1 ∧ ∃ i, RMs X i μ h' ∧ RVw μ h'
theorem PIm_of {s : Nat} {X : tx_T} {μ : pm_T} {R : F_T ⊕ (Nat × pm_T)} {z : Int} {h h' : ah_T} (HV : RVw μ h) (f : fr WJ h h') (k : ∀ q, R = .inr q → kr μ q.2) (p : PBm X R z h') : PIm X R z h' := by
  rcases R with q | q
  · exact p
  · obtain ⟨e, H, Hr⟩ := p
    have kk := k q rfl
    have HV' := RVw_V HV f WJ_c
    exact ⟨e, H, Hr, fun n hn => RVm_m (HV' n (by have := kk.1; omega)) (fun a j w => kk.2.1 a j (by unfold vrow at w; omega))⟩
theorem t_MD_parse {G : cx_T} {s : Nat} {h : ah_T} {X : tx_T} (hb0 : hb s h) (hA : XA X) (hM : MT X.1 X.2.1 h) (h3 : h.2.1 170 3 = 0) (h11 : h.2.1 170 11 = 0) :
    con G 7 0 0 m_MD_parse [av_R (some 170)] h (fun r h' => ∃ z, r = some (av_I z) ∧ hb s h' ∧ fr WJb h h' ∧ (z = 0 ∨ z = 1) ∧ PRm X (sp_score X.2.2.1) z h') := by
  have hn := hM.2.1
  have hm0 := hA.2.2.2.2
  generalize es : sp_score X.2.2.1 = R
  refine c_MD_parse (X69 := fun hh => fr WJb h hh ∧ ∃ (j f : Nat) (μ : pm_T), RMs X j μ hh ∧ RH μ hh ∧ RVw μ hh ∧ 2999 ≤ f + j ∧ R = sp_items X.2.2.1 (f + 1) j μ) ?_ hb0 ?_
  · refine lp_MD_parse_69 _ (fun hh => (2001 - hh.2.1 170 5).toNat) ?_
    rintro hh hb1 ⟨hf, j, f, μ, Hj, Hr, HV, hfu, er⟩
    have hj2 := RMs_i hA Hj
    have jm := Hj.1.2.1
    have e5 : hh.2.1 170 5 = (X.2.2.2.2.1 j : Int) := Hj.1.2.2.1.trans (hA.2.1 j jm).1
    have a5 := (TkA_a hA j jm).2
    generalize et : X.2.2.1 = t at *
    unfold B_MD_parse_69
    intro x1 e1 _ _
    have k0 : x1 = 0 ↔ tK t j = 256 := by rw [e1, Hj.1.2.2.2.1, et]; exact ek_0
    refine ⟨fun c => ?_, fun c => ?_⟩
    · rw [sp_items, if_pos (k0.mp c)] at er
      exact ⟨1, rfl, hb1, hf, Or.inr rfl, by rw [er]; exact ⟨rfl, j, Hj, HV⟩⟩
    have n256 : ¬ tK t j = 256 := fun w => c (k0.mpr w)
    rw [sp_items_e n256] at er
    obtain ⟨f', rfl⟩ : ∃ f', f = f' + 1 := ⟨f - 1, by omega⟩
    -- behind an item
    have nx : ∀ (h1 : ah_T) (z : Int), hb s h1 → fr WJb hh h1 → (z = 0 ∨ z = 1) → PIm X (sp_item t j μ) z h1 → B_MD_parse_161 G s z h1 (fun r h' => ∃ z, r = some (av_I z) ∧ hb s h' ∧ fr WJb h h' ∧ (z = 0 ∨ z = 1) ∧ PRm X R z h') (fun h' => (fr WJb h h' ∧ ∃ (j f : Nat) (μ : pm_T), RMs X j μ h' ∧ RH μ h' ∧ RVw μ h' ∧ 2999 ≤ f + j ∧ R = sp_items t (f + 1) j μ) ∧ (2001 - h'.2.1 170 5).toNat < (2001 - hh.2.1 170 5).toNat) := by
      intro h1 z hb2 f1 z01 p
      have ff := fr_t hf f1 (fun _ _ w => w)
      unfold B_MD_parse_161
      rcases e : sp_item t j μ with q | q
      · rw [e] at p er
        obtain ⟨rfl, w1, w2⟩ := p
        refine ⟨fun _ => ⟨0, rfl, hb2, ff, Or.inl rfl, ?_⟩, fun d => absurd rfl d⟩
        rw [er]
        exact ⟨rfl, NF_item q e, w1, w2⟩
      · rw [e] at p er
        obtain ⟨rfl, H1, Hr1, HV1⟩ := p
        have ii := item_i e
        have q5 : h1.2.1 170 5 = (X.2.2.2.2.1 q.1 : Int) := H1.1.2.2.1.trans (hA.2.1 q.1 H1.1.2.1).1
        have lt := TkA_s hA (i := j) q.1 (by omega) H1.1.2.1
        refine ⟨fun d => absurd d (by decide), fun _ => ⟨⟨ff, q.1, f', q.2, H1, Hr1, HV1, by omega, er⟩, ?_⟩⟩
        rw [q5, e5]; omega
    have gkj : ∀ k : Int, 261 ≤ k → tK t j = k → gk (tK t j) := fun k hk w => ⟨by omega, by omega⟩
    refine con_mono (t_MD_isWord hb1 Hj (k := 0) (by omega)) ?_
    rw [et]
    rintro r h2 ⟨z4, rfl, hb2, rfl, -, z02⟩
    refine ⟨z4, rfl, hb2, fun c0 => ?_, fun c0 => ?_⟩
    case refine_2 =>
      have y : tK t j = 261 := by have := Classical.not_not.mp (fun w => c0 (z02.mpr w)); omega
      have ei : sp_item t j μ = sp_time t j μ := by unfold sp_item; rw [if_pos y]
      refine con_mono (t_MD_timeItem hb2 hA Hj Hr (by rw [et]; exact gkj 261 (by omega) y)) ?_
      rw [et]
      rintro r h3 ⟨z, rfl, hb3, f3, z01, p3⟩
      exact ⟨z, rfl, hb3, nx h3 z hb3 (fr_w f3 WJ_b) z01 (by rw [ei]; exact PIm_of (s := s) HV f3 (fun q e => time_k e) p3)⟩
    have n261 : ¬ tK t j = 261 := by have := z02.mp c0; omega
    refine con_mono (t_MD_isWord hb2 Hj (k := 1) (by omega)) ?_
    rw [et]
    rintro r h5 ⟨z7, rfl, hb5, rfl, -, z03⟩
    refine ⟨z7, rfl, hb5, fun c1 => ?_, fun c1 => ?_⟩
    case refine_2 =>
      have y : tK t j = 262 := by have := Classical.not_not.mp (fun w => c1 (z03.mpr w)); omega
      have ei : sp_item t j μ = sp_voice t j μ := by unfold sp_item; rw [if_neg n261, if_pos y]
      refine con_mono (t_MD_voiceItem hb5 hA Hj Hr HV (by rw [et]; exact y)) ?_
      rw [et]
      rintro r h3 ⟨z, rfl, hb3, f3, z01, p3⟩
      exact ⟨z, rfl, hb3, nx h3 z hb3 f3 z01 (by rw [ei]; exact p3)⟩
    have n262 : ¬ tK t j = 262 := by have := z03.mp c1; omega
    refine con_mono (t_MD_isWord hb5 Hj (k := 2) (by omega)) ?_
    rw [et]
    rintro r h8 ⟨z10, rfl, hb8, rfl, -, z04⟩
    refine ⟨z10, rfl, hb8, fun c2 => ?_, fun c2 => ?_⟩
    case refine_2 =>
      have y : tK t j = 263 := by have := Classical.not_not.mp (fun w => c2 (z04.mpr w)); omega
      have ei : sp_item t j μ = sp_line t j μ := by unfold sp_item; rw [if_neg n261, if_neg n262, if_pos y]
      refine con_mono (t_MD_lineItem hb8 hA Hj Hr (by rw [et]; exact gkj 263 (by omega) y)) ?_
      rw [et]
      rintro r h3 ⟨z, rfl, hb3, f3, z01, p3⟩
      exact ⟨z, rfl, hb3, nx h3 z hb3 (fr_w f3 WJ_b) z01 (by rw [ei]; exact PIm_of (s := s) HV f3 (fun q e => line_k e) p3)⟩
    have n263 : ¬ tK t j = 263 := by have := z04.mp c2; omega
    refine con_mono (t_MD_isWord hb8 Hj (k := 3) (by omega)) ?_
    rw [et]
    rintro r h11' ⟨z13, rfl, hb11, rfl, -, z05⟩
    refine ⟨z13, rfl, hb11, fun c3 => ?_, fun c3 => ?_⟩
    case refine_2 =>
      have y : tK t j = 264 := by have := Classical.not_not.mp (fun w => c3 (z05.mpr w)); omega
      have ei : sp_item t j μ = sp_rule t j μ := by unfold sp_item; rw [if_neg n261, if_neg n262, if_neg n263, if_pos y]
      refine con_mono (t_MD_ruleItem hb11 hA Hj Hr (by rw [et]; exact gkj 264 (by omega) y)) ?_
      rw [et]
      rintro r h3 ⟨z, rfl, hb3, f3, z01, p3⟩
      exact ⟨z, rfl, hb3, nx h3 z hb3 (fr_w f3 WJ_b) z01 (by rw [ei]; exact PIm_of (s := s) HV f3 (fun q e => rule_k e) p3)⟩
    have n264 : ¬ tK t j = 264 := by have := z05.mp c3; omega
    refine con_mono (t_MD_isWord hb11 Hj (k := 4) (by omega)) ?_
    rw [et]
    rintro r h14 ⟨z16, rfl, hb14, rfl, -, z06⟩
    refine ⟨z16, rfl, hb14, fun c4 => ?_, fun c4 => ?_⟩
    case refine_2 =>
      have y : tK t j = 265 := by have := Classical.not_not.mp (fun w => c4 (z06.mpr w)); omega
      have ei : sp_item t j μ = sp_row t j μ := by unfold sp_item; rw [if_neg n261, if_neg n262, if_neg n263, if_neg n264, if_pos y]
      refine con_mono (t_MD_rowItem hb14 hA Hj Hr (by rw [et]; exact gkj 265 (by omega) y)) ?_
      rw [et]
      rintro r h3 ⟨z, rfl, hb3, f3, z01, p3⟩
      exact ⟨z, rfl, hb3, nx h3 z hb3 (fr_w f3 WJ_b) z01 (by rw [ei]; exact PIm_of (s := s) HV f3 (fun q e => row_k e) p3)⟩
    have n265 : ¬ tK t j = 265 := by have := z06.mp c4; omega
    have ei : sp_item t j μ = .inl (cn t j) := by unfold sp_item; rw [if_neg n261, if_neg n262, if_neg n263, if_neg n264, if_neg n265]
    refine con_mono (t_MD_cantk hb14 Hj) ?_
    rw [et]
    rintro r h3 ⟨z, rfl, hb3, f3, rfl, q1, q2⟩
    exact ⟨0, rfl, hb3, nx h3 0 hb3 (fr_w f3 (fun a k w => WJ_b a k (WK_J a k w))) (Or.inl rfl) (by rw [ei]; exact ⟨rfl, q1, q2⟩)⟩
  · unfold B_MD_parse_0
    intro h2 e2 h5 e5 h8 e8 h11' e11 h14 e14 h17 e17 h20 e20 h22 e22 h24 e24 h26 e26
    have w17 : ∀ a, (a = 172 ∨ a = 173 ∨ a = 174 ∨ a = 175 ∨ a = 177 ∨ a = 181 ∨ a = 183) → WJ a 1 := fun a q => Or.inr (Or.inl ⟨q, rfl⟩)
    have w170 : ∀ k, 59 ≤ k → k ≤ 61 → WJ 170 k := fun k q1 q2 => Or.inl ⟨rfl, Or.inr (by omega)⟩
    have f26 : fr WJ h h26 := fr_i (fr_i (fr_i (fr_i (fr_i (fr_i (fr_i (fr_i (fr_i (fr_i fr_0 e2 (w17 _ (by omega))) e5 (w17 _ (by omega))) e8 (w17 _ (by omega))) e11 (w17 _ (by omega))) e14 (w17 _ (by omega))) e17 (w17 _ (by omega))) e20 (w17 _ (by omega))) e22 (w170 _ (by omega) (by omega))) e24 (w170 _ (by omega) (by omega))) e26 (w170 _ (by omega) (by omega))
    have fs : fr (fun a k => (172 ≤ a ∧ a ≤ 183 ∧ k = 1) ∨ (a = 170 ∧ 59 ≤ k ∧ k ≤ 61)) h h26 := fr_i (fr_i (fr_i (fr_i (fr_i (fr_i (fr_i (fr_i (fr_i (fr_i fr_0 e2 (by omega)) e5 (by omega)) e8 (by omega)) e11 (by omega)) e14 (by omega)) e17 (by omega)) e20 (by omega)) e22 (by omega)) e24 (by omega)) e26 (by omega)
    have hb26 : hb s h26 := hb_i (hb_i (hb_i (hb_i (hb_i (hb_i (hb_i (hb_i (hb_i (hb_i hb0 e2) e5) e8) e11) e14) e17) e20) e22) e24) e26
    have M26 : MT X.1 X.2.1 h26 := MT_f hM fs (by omega) (fun j => by omega)
    refine con_mono (t_MD_next0 (p0 := 0) hb26 M26 (by rw [fr_g fs (by omega)]; exact h3) hA hm0 hA.1) ?_
    rintro r h28 ⟨z, rfl, hb28, f28, R28, rfl⟩
    have g : ∀ a k, ¬ (a = 170 ∧ 3 ≤ k ∧ k ≤ 10) → h28.2.1 a k = h26.2.1 a k := fun a k q => fr_g f28 q
    refine ⟨1, rfl, hb28, fr_t (fr_w f26 WJ_b) f28 (fun a k w => WJ_b a k (WM_J a k w)), 0, 2999, sco0, ⟨R28, ⟨⟨?_, ?_, ?_, ?_, ?_, ?_, ?_⟩, ⟨⟨by decide, by decide⟩, ⟨by decide, by decide⟩, ⟨by decide, by decide⟩, ⟨by decide, by decide⟩, by decide, by decide⟩, fun j hj => absurd hj (by show ¬ (j : Int) < 0; omega), fun j hj => absurd hj (by show ¬ (j : Int) < 0; omega), fun j hj => absurd hj (by show ¬ (j : Int) < 0; omega), fun j hj => absurd hj (by show ¬ (j : Int) < 0; omega)⟩, ?_⟩, ⟨?_, ?_, ?_⟩, fun n hn => absurd hn (by show ¬ (n : Int) < 0; omega), by omega, es.symm⟩
    · rw [g _ _ (by omega), mm_i e26 (by omega), mm_i e24 (by omega), mm_i e22 (by omega), mm_i e20 (by omega), mm_i e17 (by omega), mm_i e14 (by omega), mm_i e11 (by omega), mm_i e8 (by omega), mv_i e5]; rfl
    · rw [g _ _ (by omega), mm_i e26 (by omega), mm_i e24 (by omega), mm_i e22 (by omega), mm_i e20 (by omega), mm_i e17 (by omega), mm_i e14 (by omega), mm_i e11 (by omega), mv_i e8]; rfl
    · rw [g _ _ (by omega), mm_i e26 (by omega), mm_i e24 (by omega), mm_i e22 (by omega), mm_i e20 (by omega), mm_i e17 (by omega), mm_i e14 (by omega), mv_i e11]; rfl
    · rw [g _ _ (by omega), mm_i e26 (by omega), mm_i e24 (by omega), mm_i e22 (by omega), mm_i e20 (by omega), mm_i e17 (by omega), mv_i e14]; rfl
    · rw [g _ _ (by omega), mm_i e26 (by omega), mm_i e24 (by omega), mm_i e22 (by omega), mm_i e20 (by omega), mv_i e17]; rfl
    · rw [g _ _ (by omega), mm_i e26 (by omega), mm_i e24 (by omega), mm_i e22 (by omega), mv_i e20]; rfl
    · rw [g _ _ (by omega), mm_i e26 (by omega), mm_i e24 (by omega), mm_i e22 (by omega), mm_i e20 (by omega), mm_i e17 (by omega), mm_i e14 (by omega), mm_i e11 (by omega), mm_i e8 (by omega), mm_i e5 (by omega), mv_i e2]; rfl
    · rw [g _ _ (by omega), fr_g fs (by omega)]; exact h11
    · rw [g _ _ (by omega), mm_i e26 (by omega), mm_i e24 (by omega), mv_i e22]; rfl
    · rw [g _ _ (by omega), mm_i e26 (by omega), mv_i e24]; exact ⟨fun _ => by decide, fun _ => rfl⟩
    · rw [g _ _ (by omega), mv_i e26]; exact ⟨fun _ => by decide, fun _ => rfl⟩
