/-! ===== the class's reader, 4: names, rules, rows ===== -/
def PMc (t : tk_T) (m i s : Nat) (R : F_T ⊕ (Int × pm_T)) (z : Int) (h' : ah_T) : Prop := match R with
  | .inl q => z < 0 ∧ h'.2.1 2 6 = q.1 ∧ h'.2.1 2 7 = q.2
  | .inr v => z = v.1 ∧ 0 ≤ v.1 ∧ v.1 ≤ 15 ∧ RCs t m (i + 1) v.2 s h'
theorem t_Reader_readName {G : cx_T} {s : Nat} {h : ah_T} {t : tk_T} {m i : Nat} {μ : pm_T} (hb0 : hb s h) (hT : TG t m) (H : RCs t m i μ s h) : con G 1 0 0 m_Reader_readName [av_R (some 2)] h (fun r h' => ∃ z, r = some (av_I z) ∧ hb s h' ∧ fr (WR s) h h' ∧ PMc t m i s (sp_name t i μ) z h') := by
  have hs : s = 17 ∨ s = 80 := hb0.2.1
  obtain ⟨c9, c10, c11, -⟩ := RCs_b H
  have hna := H.2.1.2.2.2.2.2
  have h6 := H.2.1.2.1.2.2.2.1
  have e6 : h.2.1 2 3 = μ 0 6 := H.2.1.1.2.2.2.2.2.2.1
  refine c_Reader_readName (X22 := fun v1 hh => hh = h ∧ tK t i = 260 ∧ ∃ k : Nat, v1 = (k : Int) ∧ (k : Int) ≤ μ 0 6 ∧ ∀ j, j < k → μ 6 j ≠ tV' t i) ?_ hb0 ?_
  · refine lp_Reader_readName_22 _ (fun v1 _ => (17 - v1).toNat) ?_
    rintro v1 hh hb1 ⟨rfl, hk, k, rfl, k1, k2⟩
    have k117 : ∀ (hx : ah_T) (z : Int) (ν : pm_T), hb s hx → fr (WR s) hh hx → RCs t m i ν s hx → sp_name t i μ = .inr (z, ν) → 0 ≤ z → z ≤ 15 → B_Reader_readName_117 G s z hx (fun r h' => ∃ z, r = some (av_I z) ∧ hb s h' ∧ fr (WR s) hh h' ∧ PMc t m i s (sp_name t i μ) z h') := by
      intro hx z ν hbx fx Hx es z0 z1
      unfold B_Reader_readName_117
      refine con_mono (t_Reader_step hbx Hx (hT.1 _ H.1.2.2.1 (gk_of hk (by decide) (by decide)))) ?_
      rintro r h' ⟨rfl, hb2, f2, H2⟩
      exact ⟨rfl, hb2, z, rfl, hb2, fr_t fx f2 (fun _ _ w => w), by rw [es]; exact ⟨rfl, z0, z1, H2⟩⟩
    -- found, or at the end
    have k62 : (((k : Int) < μ 0 6 ∧ μ 6 k = tV' t i) ∨ (k : Int) = μ 0 6) → B_Reader_readName_62 G s (k : Int) hh (fun r h' => ∃ z, r = some (av_I z) ∧ hb s h' ∧ fr (WR s) hh h' ∧ PMc t m i s (sp_name t i μ) z h') := by
      intro hc
      unfold B_Reader_readName_62
      refine ⟨fun c x2 e2 _ _ => ⟨fun c1 x5 e5 _ _ => ⟨⟨by omega, by omega⟩, ?_⟩, fun c1 => ?_⟩, fun c x14 e14 _ _ => ?_⟩
      · -- a new one
        have hk6 : (k : Int) = μ 0 6 := by omega
        have ek : (μ 0 6).toNat = k := by omega
        rw [tn_c]
        intro h7 e7
        refine ⟨⟨by omega, by omega⟩, fun h11 e11 => ?_⟩
        have fx := fr_i (fr_l (W := WR s) fr_0 e7 (Or.inr (Or.inr (Or.inl rfl)))) e11 (Or.inr (Or.inl ⟨rfl, by decide⟩))
        have f9 := fr_i (fr_l (W := fun a k => a = 16 ∨ (a = 2 ∧ k = 3)) fr_0 e7 (Or.inl rfl)) e11 (Or.inr ⟨rfl, rfl⟩)
        refine k117 h11 (k : Int) (up2 (up2 μ 6 k (tV' t i)) 0 6 (μ 0 6 + 1)) (hb_i (hb_l hb1 e7) e11) fx ⟨RCt_f H.1 f9 (fun a k q => by omega), ?_, (fr_g f9 (by omega)).trans H.2.2⟩ ?_ (by omega) (by omega)
        · obtain ⟨⟨a0, a1, a2, a3, a4, a5, a6, a7⟩, ⟨b3, b4, b5, b6, b7⟩, l, ru, ro, na⟩ := H.2.1
          have g : ∀ x j, ¬ (x = 2 ∧ j = 3) → h11.2.1 x j = hh.2.1 x j := fun x j q => (mm_i e11 q).trans (mm_lo e7)
          refine ⟨⟨(g _ _ (by omega)).trans a0, (g _ _ (by omega)).trans a1, (g _ _ (by omega)).trans a2, (g _ _ (by omega)).trans a3, (g _ _ (by omega)).trans a4, (g _ _ (by omega)).trans a5, ?_, (g _ _ (by omega)).trans a7⟩, ⟨b3, b4, b5, ⟨?_, ?_⟩, b7⟩, fun j hj => (g _ _ (by omega)).trans (l j hj), fun j hj => ?_, fun j hj => (g _ _ (by omega)).trans (ro j hj), fun j hj => ?_⟩
          · rw [mv_i e11]; show x2 + 1 = μ 0 6 + 1; omega
          · show 0 ≤ μ 0 6 + 1; omega
          · show μ 0 6 + 1 ≤ 16; omega
          · rw [g _ _ (by omega), g _ _ (by omega), g _ _ (by omega)]; exact ru j hj
          · have hj : (j : Int) < μ 0 6 + 1 := hj
            show h11.2.2.1 16 j = up2 μ 6 k (tV' t i) 6 j
            rw [mm_io e11]
            by_cases hc : j = k
            · rw [hc, mv_l e7, up2_at, e5, c11]
            · rw [mm_l e7 (by omega), up2_o (fun q => hc q.2)]; exact na j (by omega)
        · rw [sp_name, if_pos hk, ek, fnd_no k k2, if_neg (by omega), if_neg (by omega), hk6]
      · -- an old one
        have hlt : (k : Int) < μ 0 6 ∧ μ 6 k = tV' t i := by omega
        refine k117 hh (k : Int) μ hb1 fr_0 H ?_ (by omega) (by omega)
        rw [sp_name, if_pos hk, fnd_at k2 hlt.2 _ (by omega), if_pos hlt.1]
      · refine con_mono (t_Reader_blame hb1) ?_
        rintro r h' ⟨z, rfl, hb2, f2, rfl, r1, r2⟩
        have hk6 : (k : Int) = μ 0 6 := by omega
        have ek : (μ 0 6).toNat = k := by omega
        refine ⟨0, rfl, hb2, -1, rfl, hb2, f2, ?_⟩
        rw [sp_name, if_pos hk, ek, fnd_no k k2, if_neg (by omega), if_pos (by omega)]
        exact ⟨by decide, r1, by rw [r2, e14, c10]⟩
    unfold B_Reader_readName_22
    intro x1 e1 _ _
    refine ⟨fun c => k62 (Or.inr (by omega)), fun c => ⟨fun c1 => by omega, fun c1 => ⟨⟨by omega, by omega⟩, ?_⟩⟩⟩
    rw [tn_c]
    intro x4 e4 _ _ x7 e7 _ _
    have ex4 : x4 = μ 6 k := e4.trans (hna k (by omega))
    refine ⟨fun c2 => k62 (Or.inl ⟨by omega, by rw [← ex4, c2, e7, c11]⟩), fun c2 => ⟨⟨by omega, by omega⟩, ⟨rfl, hk, k + 1, by omega, by omega, fun j hj => ?_⟩, by omega⟩⟩
    by_cases hjk : j = k
    · subst hjk; rw [← ex4, ← c11, ← e7]; exact c2
    · exact k2 j (by omega)
  · unfold B_Reader_readName_0
    intro x2 e2 _ _
    refine ⟨fun c => ⟨rfl, by omega, 0, rfl, by omega, fun j hj => absurd hj (by omega)⟩, fun c => ?_⟩
    refine con_mono (t_Reader_refuse hb0 H.1) ?_
    rintro r h' ⟨z, rfl, hb1, f1, rfl, r1, r2⟩
    refine ⟨0, rfl, hb1, -1, rfl, hb1, f1, ?_⟩
    rw [sp_name, if_neg (by omega)]
    exact ⟨by decide, r1, r2⟩
theorem sp_name_4 {t : tk_T} {i : Nat} {μ : pm_T} {v : Int × pm_T} (e : sp_name t i μ = .inr v) : v.2 0 4 = μ 0 4 ∧ v.2 0 5 = μ 0 5 ∧ v.2 0 3 = μ 0 3 ∧ v.2 0 7 = μ 0 7 ∧ v.2 0 0 = μ 0 0 := by
  unfold sp_name at e
  split at e
  · split at e
    · cases e; exact ⟨rfl, rfl, rfl, rfl, rfl⟩
    · split at e
      · cases e
      · cases e; exact ⟨rfl, rfl, rfl, rfl, rfl⟩
  · cases e
theorem t_Reader_readRule {G : cx_T} {s : Nat} {h : ah_T} {t : tk_T} {m i : Nat} {μ : pm_T} (hb0 : hb s h) (hT : TG t m) (H : RCs t m i μ s h) (hg : gk (tK t i)) : con G 2 0 0 m_Reader_readRule [av_R (some 2)] h (QB t m s (sp_rule t i μ) h) := by
  have hs : s = 17 ∨ s = 80 := hb0.2.1
  obtain ⟨c9, c10, -, -⟩ := RCs_b H
  have h4 := H.2.1.2.1.2.1
  -- the end: the rule is told, then a ;
  have k89 : ∀ (hh : ah_T) (j : Nat) (ν : pm_T) (a b c : Int), hb s hh → fr (WR s) h hh → RCs t m j ν s hh → ν 0 4 = μ 0 4 → μ 0 4 < 24 → sp_rule t i μ = bnd (sp_take t j 59) (fun _ => .inr (j + 1, addr ν a b c)) → B_Reader_readRule_89 G s a b c hh (QB t m s (sp_rule t i μ) h) := by
    intro hh j ν a b c hb1 hf Hj e4 hlt es
    unfold B_Reader_readRule_89
    refine con_mono (t_Score_addRule hb1 Hj.2.1 (by omega)) ?_
    rintro r h2 ⟨rfl, hb2, f2, R2⟩
    have H2 := RCs_sc Hj f2 (by omega) (fun a k w => w) R2
    refine ⟨rfl, hb2, ?_⟩
    refine con_mono (t_Reader_take (k := 59) hb2 H2 (fun w => hT.1 _ H2.1.2.2.1 (gk_of w (by decide) (by decide)))) ?_
    rintro r h' ⟨z, rfl, hb3, f3, z01, p3⟩
    exact ⟨z, rfl, hb3, z01, z, rfl, hb3, fr_t (fr_t hf f2 (WR_s hs)) f3 (fun _ _ w => w), z01, by rw [es]; exact p3⟩
  refine c_Reader_readRule hb0 ?_
  unfold B_Reader_readRule_0 B_Reader_readRule_50
  intro x2 e2 _ _
  have em : x2 = μ 0 4 := e2.trans H.2.1.1.2.2.2.2.1
  refine ⟨fun c => ?_, fun c x22 e22 _ _ => ?_⟩
  · have ed : sp_rule t i μ = bnd (sp_name t (i + 1) μ) fun a => bnd (sp_take t (i + 2) 61) fun _ => bnd (sp_name t (i + 3) a.2) fun b => if tK t (i + 4) = 260 then bnd (sp_name t (i + 4) b.2) fun c => bnd (sp_take t (i + 5) 59) fun _ => .inr (i + 6, addr c.2 a.1 b.1 c.1) else bnd (sp_take t (i + 4) 59) fun _ => .inr (i + 5, addr b.2 a.1 b.1 (-1)) := by
      rw [sp_rule, if_pos (by omega)]
    refine con_mono (t_Reader_step hb0 H (hT.1 i H.1.2.2.1 hg)) ?_
    rintro r h4 ⟨rfl, hb4, f4, H4⟩
    refine ⟨rfl, hb4, ?_⟩
    refine con_mono (t_Reader_readName hb4 hT H4) ?_
    rintro r h7 ⟨z9, rfl, hb7, f7, p7⟩
    have f47 := fr_t f4 f7 (fun _ _ w => w)
    rcases n1 : sp_name t (i + 1) μ with q | v1
    · rw [n1] at p7 ed
      obtain ⟨z0, p7⟩ := p7
      exact ⟨z9, rfl, hb7, fun _ => ⟨0, rfl, hb7, f47, Or.inl rfl, by rw [ed]; exact ⟨rfl, p7⟩⟩, fun d => absurd z0 d⟩
    rw [n1] at p7 ed
    obtain ⟨rfl, z0, z1, H7⟩ := p7
    have q1 := sp_name_4 n1
    refine ⟨v1.1, rfl, hb7, fun d => by omega, fun _ => ?_⟩
    refine con_mono (t_Reader_take (k := 61) hb7 H7 (fun w => hT.1 _ H7.1.2.2.1 (gk_of w (by decide) (by decide)))) ?_
    rintro r h10 ⟨z12, rfl, hb10, f10, -, p10⟩
    have f710 := fr_t f47 f10 (fun _ _ w => w)
    simp only [bnd] at ed
    rcases t1 : sp_take t (i + 2) 61 with q | u
    · rw [t1] at p10 ed
      obtain ⟨rfl, p10⟩ := p10
      exact ⟨0, rfl, hb10, fun _ => ⟨0, rfl, hb10, f710, Or.inl rfl, by rw [ed]; exact ⟨rfl, p10⟩⟩, fun d => absurd rfl d⟩
    rw [t1] at p10 ed
    obtain ⟨rfl, H10⟩ := p10
    refine ⟨1, rfl, hb10, fun d => absurd d (by decide), fun _ => ?_⟩
    dsimp only at ed
    refine con_mono (t_Reader_readName hb10 hT H10) ?_
    rintro r h13 ⟨z15, rfl, hb13, f13, p13⟩
    have f1013 := fr_t f710 f13 (fun _ _ w => w)
    rcases n2 : sp_name t (i + 3) v1.2 with q | v2
    · rw [n2] at p13 ed
      obtain ⟨z0, p13⟩ := p13
      exact ⟨z15, rfl, hb13, fun d => by omega, fun _ => ⟨0, rfl, hb13, f1013, Or.inl rfl, by rw [ed]; exact ⟨rfl, p13⟩⟩⟩
    rw [n2] at p13 ed
    obtain ⟨rfl, y0, y1, H13⟩ := p13
    have q2 := sp_name_4 n2
    dsimp only at ed
    have d13 : h13.2.1 3 9 = tK t (i + 4) := (RCs_b H13).1
    refine ⟨v2.1, rfl, hb13, fun _ x17 e17 _ _ => ⟨fun c1 => ?_, fun c1 => ?_⟩, fun d => by omega⟩
    · have hk : tK t (i + 4) = 260 := by have := e17.trans d13; omega
      rw [if_pos hk] at ed
      refine con_mono (t_Reader_readName hb13 hT H13) ?_
      rintro r h18 ⟨z20, rfl, hb18, f18, p18⟩
      have f1318 := fr_t f1013 f18 (fun _ _ w => w)
      have n3' : sp_name t (i + 3 + 1) v2.2 = sp_name t (i + 4) v2.2 := rfl
      rcases n3 : sp_name t (i + 4) v2.2 with q | v3
      · rw [n3', n3] at p18; rw [n3] at ed
        obtain ⟨z0, p18⟩ := p18
        exact ⟨z20, rfl, hb18, fun d => by omega, fun _ => ⟨0, rfl, hb18, f1318, Or.inl rfl, by rw [ed]; exact ⟨rfl, p18⟩⟩⟩
      · rw [n3', n3] at p18; rw [n3] at ed
        obtain ⟨rfl, w0, w1, H18⟩ := p18
        have q3 := sp_name_4 n3
        exact ⟨v3.1, rfl, hb18, fun _ => k89 h18 (i + 5) v3.2 _ _ _ hb18 f1318 H18 (by omega) (by omega) (by rw [ed]; rfl), fun d => by omega⟩
    · have hk : ¬ tK t (i + 4) = 260 := by have := e17.trans d13; omega
      rw [if_neg hk] at ed
      exact k89 h13 (i + 4) v2.2 _ _ _ hb13 f1013 H13 (by omega) (by omega) (by rw [ed]; rfl)
  · refine con_mono (t_Reader_blame hb0) ?_
    rintro r h' ⟨z, rfl, hb1, f1, rfl, r1, r2⟩
    refine ⟨0, rfl, hb1, Or.inl rfl, 0, rfl, hb1, f1, Or.inl rfl, ?_⟩
    rw [sp_rule, if_neg (by omega)]
    exact ⟨rfl, r1, by rw [r2, e22, c10]⟩
theorem t_Reader_readRow {G : cx_T} {s : Nat} {h : ah_T} {t : tk_T} {m i : Nat} {μ : pm_T} (hb0 : hb s h) (hT : TG t m) (H : RCs t m i μ s h) (hg : gk (tK t i)) : con G 2 0 0 m_Reader_readRow [av_R (some 2)] h (QB t m s (sp_row t i μ) h) := by
  have hs : s = 17 ∨ s = 80 := hb0.2.1
  obtain ⟨c9, c10, -, -⟩ := RCs_b H
  have k119 : ∀ (hh : ah_T) (j : Nat) (ν : pm_T), hb s hh → fr (WR s) h hh → RCs t m j ν s hh → sp_row t i μ = bnd (sp_take t j 59) (fun _ => .inr (j + 1, ν)) → B_Reader_readRow_119 G s hh (QB t m s (sp_row t i μ) h) := by
    intro hh j ν hb1 hf Hj e
    unfold B_Reader_readRow_119
    refine con_mono (t_Reader_take (k := 59) hb1 Hj (fun w => hT.1 _ Hj.1.2.2.1 (gk_of w (by decide) (by decide)))) ?_
    rintro r h' ⟨z, rfl, hb2, f2, z01, p2⟩
    exact ⟨z, rfl, hb2, z01, z, rfl, hb2, fr_t hf f2 (fun _ _ w => w), z01, by rw [e]; exact p2⟩
  refine c_Reader_readRow (X50 := fun v1 hh => fr (WR s) h hh ∧ ∃ (j : Nat) (ν : pm_T) (f : Nat), RCs t m j ν s hh ∧ ν 0 5 = v1 ∧ (f : Int) = 14 - v1 ∧ (v1 = 0 → tK t j = 260) ∧ sp_row t i μ = (if tK t j = 59 then .inr (j + 1, ν) else sp_rows t f j ν)) ?_ hb0 ?_
  · refine lp_Reader_readRow_50 _ (fun v1 _ => (14 - v1).toNat) ?_
    rintro v1 hh hb1 ⟨hf, j, ν, f, Hj, e3, ef, e0, es⟩
    obtain ⟨d9, d10, d11, -⟩ := RCs_b Hj
    have hb8 := Hj.2.1.2.1.2.2.1
    unfold B_Reader_readRow_50
    refine ⟨fun c => by omega, fun c x2 e2 _ _ => ⟨fun c1 x4 e4 _ _ => ?_, fun c1 => k119 hh j ν hb1 hf Hj ?_⟩⟩
    · have hk : tK t j = 260 := by omega
      have e5 : x4 = ν 0 5 := e4.trans Hj.2.1.1.2.2.2.2.2.1
      obtain ⟨f', rfl⟩ : ∃ f', f = f' + 1 := ⟨f - 1, by omega⟩
      rw [if_neg (by omega), sp_rows, if_pos hk] at es
      refine ⟨fun c2 => ?_, fun c2 x14 e14 _ _ => ?_⟩
      · rw [if_pos (by omega)] at es
        refine con_mono (t_Reader_readName hb1 hT Hj) ?_
        rintro r h5 ⟨z7, rfl, hb5, f5, p5⟩
        have f15 := fr_t hf f5 (fun _ _ w => w)
        rcases n1 : sp_name t j ν with q | v
        · rw [n1] at p5 es
          obtain ⟨z0, p5⟩ := p5
          exact ⟨z7, rfl, hb5, fun d => by omega, fun _ => ⟨0, rfl, hb5, f15, Or.inl rfl, by rw [es]; exact ⟨rfl, p5⟩⟩⟩
        rw [n1] at p5 es
        obtain ⟨rfl, z0, z1, H5⟩ := p5
        have q1 := sp_name_4 n1
        dsimp only [bnd] at es
        refine ⟨v.1, rfl, hb5, fun _ => ?_, fun d => by omega⟩
        refine con_mono (t_Score_addToRow hb5 H5.2.1 (by omega)) ?_
        rintro r h9 ⟨rfl, hb9, f9, R9⟩
        have H9 := RCs_sc H5 f9 (by omega) (fun a k w => w) R9
        refine ⟨rfl, hb9, ⟨by omega, by omega⟩, ⟨fr_t f15 f9 (WR_s hs), j + 1, rowa v.2 v.1, f', H9, ?_, by omega, fun d => by omega, es⟩, by omega⟩
        show v.2 0 5 + 1 = v1 + 1
        omega
      · rw [if_neg (by omega)] at es
        refine con_mono (t_Reader_blame hb1) ?_
        rintro r h' ⟨z, rfl, hb2, f2, rfl, r1, r2⟩
        exact ⟨0, rfl, hb2, Or.inl rfl, 0, rfl, hb2, fr_t hf f2 (fun _ _ w => w), Or.inl rfl, by rw [es]; exact ⟨rfl, r1, by rw [r2, e14, d10]⟩⟩
    · rw [es]
      obtain ⟨f', rfl⟩ : ∃ f', f = f' + 1 := ⟨f - 1, by omega⟩
      rw [sp_take, sp_rows]
      by_cases hk : tK t j = 59
      · rw [if_pos hk, if_pos hk]; rfl
      · rw [if_neg hk, if_neg hk, if_neg (by omega)]; rfl
  · unfold B_Reader_readRow_0
    intro x2 e2 _ _
    have em : x2 = μ 0 5 := e2.trans H.2.1.1.2.2.2.2.2.1
    refine ⟨fun c => ?_, fun c x13 e13 _ _ => ?_⟩
    · refine con_mono (t_Reader_step hb0 H (hT.1 i H.1.2.2.1 hg)) ?_
      rintro r h4 ⟨rfl, hb4, f4, H4⟩
      obtain ⟨d9, d10, -, -⟩ := RCs_b H4
      refine ⟨rfl, hb4, fun x8 e8 _ _ => ⟨fun c1 => ?_, fun c1 => ?_⟩⟩
      · have hk : tK t (i + 1) = 260 := by omega
        have h05 : μ 0 5 = 0 := by have := H.2.1.2.1.2.2.1; omega
        refine ⟨f4, i + 1, μ, 14, H4, h05, by decide, fun _ => hk, ?_⟩
        rw [sp_row, if_pos (by omega), if_neg (by omega)]
      · refine con_mono (t_Reader_refuse hb4 H4.1) ?_
        rintro r h' ⟨z, rfl, hb1, f1, rfl, r1, r2⟩
        refine ⟨0, rfl, hb1, Or.inl rfl, 0, rfl, hb1, fr_t f4 f1 (fun _ _ w => w), Or.inl rfl, ?_⟩
        rw [sp_row, if_pos (by omega), sp_rows, if_neg (by omega)]
        exact ⟨rfl, r1, r2⟩
    · refine con_mono (t_Reader_blame hb0) ?_
      rintro r h' ⟨z, rfl, hb1, f1, rfl, r1, r2⟩
      refine ⟨0, rfl, hb1, Or.inl rfl, 0, rfl, hb1, f1, Or.inl rfl, ?_⟩
      rw [sp_row, if_neg (by omega)]
      exact ⟨rfl, r1, by rw [r2, e13, c10]⟩

/-! ===== what a text means: the parts of a voice =====
rows of the memory of parts: 0: size, depth, admitted, sounds, pitches; 1 kinds; 2 number or a; 3 dots or b; 4 tied; 5 how many pitches; 6..9 keys; 10..13 steps; 14 links; 15 opened; 16 last mark; 17 signs; 18 number of the sound; 19 pitches ahead of it -/
def sz (π : pm_T) : Nat := (π 0 0).toNat
def dp (π : pm_T) : Nat := (π 0 1).toNat
def sp_adm (t : tk_T) (i : Nat) (π : pm_T) : F_T ⊕ pm_T := if π 0 2 < 300 then .inr (up2 π 0 2 (π 0 2 + 1)) else .inl (3, tP t i)
def pch (t : tk_T) (i : Nat) (g : Int) (π : pm_T) : pm_T := up2 (up2 (up2 (up2 (up2 π (6 + (π 5 (sz π)).toNat) (sz π) (tV' t i)) (10 + (π 5 (sz π)).toNat) (sz π) (tS t i)) 17 (sz π) (π 17 (sz π) + g)) 5 (sz π) (π 5 (sz π) + 1)) 0 4 (π 0 4 + 1)
def snd0 (π : pm_T) : pm_T := up2 (up2 (up2 π 5 (sz π) 0) 17 (sz π) 0) 19 (sz π) (π 0 4)
/-- how many # and b a PITCH has, by its KEY and STEP -/
def sgk (v st : Int) : Int := if 0 ≤ v - (12 * (st / 7) + wh ((st % 7 + 2) % 7 + 65)) then v - (12 * (st / 7) + wh ((st % 7 + 2) % 7 + 65)) else -(v - (12 * (st / 7) + wh ((st % 7 + 2) % 7 + 65)))
def sgt (t : tk_T) (i : Nat) : Int := sgk (tV' t i) (tS t i)
def sp_chord (t : tk_T) : Nat → Nat → pm_T → F_T ⊕ (Nat × pm_T)
  | 0, _, _ => .inl (1, 0)
  | f + 1, i, π => if tK t i = 258 then (if π 5 (sz π) = 4 then .inl (3, tP t i) else if 0 < π 5 (sz π) ∧ tV' t i ≤ π (5 + (π 5 (sz π)).toNat) (sz π) then .inl (if π 0 2 < 300 then 4 else 3, tP t i) else
      bnd (sp_adm t i π) fun π1 => if tK t (i + 1) = 62 then .inr (i + 2, pch t i (sgt t i) π1) else sp_chord t f (i + 1) (pch t i (sgt t i) π1)) else .inl (cn t i)
def sp_sound (t : tk_T) (i : Nat) (π : pm_T) : F_T ⊕ (Nat × pm_T) :=
  if tK t i = 266 then bnd (sp_adm t i (snd0 π)) fun π1 => .inr (i + 1, π1)
  else if tK t i = 258 then bnd (sp_adm t i (snd0 π)) fun π1 => .inr (i + 1, pch t i (sgt t i) π1)
  else sp_chord t 5 (i + 1) (snd0 π)
def sp_dots (t : tk_T) : Nat → Nat → Int → F_T ⊕ (Nat × Int)
  | 0, _, _ => .inl (1, 0)
  | f + 1, i, d => if tK t i = 46 then (if d = 3 then .inl (3, tP t i) else sp_dots t f (i + 1) (d + 1)) else .inr (i, d)
def addE (π : pm_T) (n d w : Int) : pm_T := up2 (up2 (up2 (up2 (up2 (up2 (up2 (up2 π 1 (sz π) 256) 2 (sz π) n) 3 (sz π) d) 4 (sz π) w) 14 (sz π) (π 0 0)) 18 (sz π) (π 0 3)) 0 3 (π 0 3 + 1)) 0 0 (π 0 0 + 1)
def sp_event (t : tk_T) (i : Nat) (π : pm_T) : F_T ⊕ (Nat × pm_T) :=
  bnd (sp_sound t i π) fun a => bnd (sp_num t a.1 64 true) fun n => bnd (sp_dots t 4 (a.1 + 1) 0) fun d =>
    if tK t d.1 = 126 then (if tK t i = 266 then .inl (7, tP t d.1) else .inr (d.1 + 1, addE a.2 n d.2 1)) else .inr (d.1, addE a.2 n d.2 0)
/-- a part that isn't an event: kind, two numbers -/
def addP (π : pm_T) (k a b : Int) : pm_T := up2 (up2 (up2 (up2 (up2 π 1 (sz π) k) 2 (sz π) a) 3 (sz π) b) 14 (sz π) (π 0 0)) 0 0 (π 0 0 + 1)
def opn (π : pm_T) : pm_T := up2 (up2 (up2 π 15 (dp π) (π 0 0)) 16 (dp π) (π 0 0)) 0 1 (π 0 1 + 1)
/-- the innermost [ or { -/
def top (π : pm_T) : Nat := (π 15 (dp π - 1)).toNat
def mrk (π : pm_T) : pm_T := up2 (up2 π 14 (π 16 (dp π - 1)).toNat (π 0 0)) 16 (dp π - 1) (π 0 0)
def addM (π : pm_T) (k : Int) : pm_T := if k = 58 then addP (mrk π) k 0 0 else up2 (addP (mrk π) k 0 0) 0 1 (π 0 1 - 1)
def sp_times (t : tk_T) (i : Nat) (π : pm_T) : F_T ⊕ (Nat × pm_T) :=
  bnd (sp_num t (i + 1) 16 false) fun a => bnd (sp_take t (i + 2) 47) fun _ => bnd (sp_num t (i + 3) 16 false) fun b => bnd (sp_take t (i + 4) 58) fun _ => .inr (i + 5, addP (opn π) 123 a b)
def isMk (π : pm_T) (K : Int) : Prop := 0 < π 0 1 ∧ ((K = 58 ∧ π 1 (top π) = 91) ∨ (K = 93 ∧ π 1 (top π) = 91) ∨ (K = 125 ∧ π 1 (top π) = 123))
theorem isMk_dec (π : pm_T) (K : Int) : isMk π K ∨ ¬ isMk π K := Classical.em _
def mkb (π : pm_T) (K : Int) : Bool := decide (0 < π 0 1) && ((K == 58 && π 1 (top π) == 91) || (K == 93 && π 1 (top π) == 91) || (K == 125 && π 1 (top π) == 123))
def sp_part (t : tk_T) (i : Nat) (π : pm_T) : F_T ⊕ (Nat × pm_T) :=
  if mkb π (tK t i) = true then .inr (i + 1, addM π (tK t i))
  else if tK t i = 258 ∨ tK t i = 266 ∨ tK t i = 60 then (if π 0 1 ≤ 6 then sp_event t i π else .inl (3, tP t i))
  else if tK t i = 124 then (if π 0 1 ≤ 6 then .inr (i + 1, addP π 124 0 0) else .inl (3, tP t i))
  else if tK t i = 91 then (if π 0 1 ≤ 6 then .inr (i + 1, addP (opn π) 91 0 0) else .inl (3, tP t i))
  else if tK t i = 123 then (if π 0 1 ≤ 6 then sp_times t i π else .inl (3, tP t i))
  else .inl (cn t i)
def sp_parts (t : tk_T) : Nat → Nat → pm_T → F_T ⊕ (Nat × pm_T)
  | 0, _, _ => .inl (1, 0)
  | f + 1, i, π => if tK t i = 59 ∧ π 0 1 ≤ 0 then .inr (i, π) else bnd (sp_part t i π) fun q => sp_parts t f q.1 q.2
def par0 : pm_T := fun _ _ => 0
/-! the WALK: rows of its memory: 0: steps, events, lines, far, now (two); 1 the part of an event; 2 its bar; 3, 4 START; 5, 6 LENGTH; 7 the first event of a bar -/
def isFr (a b : Int) : Bool := decide (1000 * b < a) || decide (1000000 < b)
def rdT (a b : Int) : Int := a / (Int.gcd a b : Int)
def rdB (a b : Int) : Int := b / (Int.gcd a b : Int)
def lnT (π : pm_T) (j : Nat) (sT : Int) : Int := sT * (2 ^ ((π 3 j).toNat + 1) - 1)
def lnB (π : pm_T) (j : Nat) (sB : Int) : Int := sB * π 2 j * 2 ^ (π 3 j).toNat
def wk_ev (π : pm_T) (j : Nat) (sT sB : Int) (α : pm_T) : pm_T :=
  let α1 := up2 α 0 1 (α 0 1 + 1)
  if α 0 3 = 0 ∧ α 0 1 < 300 then
    let e := (α 0 1).toNat
    let lT := rdT (lnT π j sT) (lnB π j sB)
    let lB := rdB (lnT π j sT) (lnB π j sB)
    let α2 := up2 (up2 (up2 (up2 (up2 (up2 α1 1 e (j : Int)) 2 e (α 0 2)) 3 e (α 0 4)) 4 e (α 0 5)) 5 e lT) 6 e lB
    if isFr lT lB = true then up2 α2 0 3 1 else
      let nT := rdT (α 0 4 * lB + lT * α 0 5) (α 0 5 * lB)
      let nB := rdB (α 0 4 * lB + lT * α 0 5) (α 0 5 * lB)
      up2 (up2 (up2 α2 0 4 nT) 0 5 nB) 0 3 (if isFr nT nB = true then 1 else 0)
  else α1
def wk_ln (α : pm_T) : pm_T := up2 (if α 0 2 < 100 then up2 α 7 ((α 0 2).toNat + 1) (α 0 1) else α) 0 2 (α 0 2 + 1)
def wk_st (α : pm_T) : pm_T := up2 α 0 0 (α 0 0 + 1)
def lk (π : pm_T) (j : Nat) : Nat := (π 14 j).toNat
/-- where the ] of the [ stands: along the marks -/
def cls (π : pm_T) : Nat → Nat → Nat
  | 0, j => j
  | f + 1, j => if π 1 j = 58 then cls π f (lk π j) else j
/-- mode true: from part x up to part y; mode false: [ at x is walked on from its mark y -/
def wk (π : pm_T) : Nat → Bool → Nat → Nat → Int → Int → pm_T → pm_T
  | 0, _, _, _, _, _, α => α
  | f + 1, true, x, y, sT, sB, α => if y ≤ x then α else
      if π 1 x = 91 then wk π f true (cls π f (lk π x) + 1) y sT sB
        (if π 1 (lk π x) = 58 then wk π f false x (lk π x) sT sB (wk_st α)
         else wk π f true (x + 1) (lk π x) sT sB (wk_st (wk π f true (x + 1) (lk π x) sT sB (wk_st (wk_st α)))))
      else if π 1 x = 123 then wk π f true (lk π x + 1) y sT sB (wk π f true (x + 1) (lk π x) (sT * π 3 x) (sB * π 2 x) (wk_st α))
      else if π 1 x = 124 then wk π f true (x + 1) y sT sB (wk_ln (wk_st α))
      else if π 1 x = 256 then wk π f true (x + 1) y sT sB (wk_ev π x sT sB (wk_st α))
      else wk π f true (x + 1) y sT sB (wk_st α)
  | f + 1, false, x, y, sT, sB, α => if π 1 y = 58 then wk π f false x (lk π y) sT sB (wk π f true (y + 1) (lk π y) sT sB (wk π f true (x + 1) (lk π x) sT sB (wk_st α))) else α
def wk0 : pm_T := up2 (fun _ _ => 0) 0 5 1
def walk (π : pm_T) : pm_T := wk π 5000 true 0 (sz π) 1 1 wk0
/-- a voice's walk in the score's memory: 10 + v: events, bars; 100 + 40 v + what: of an event -/
def addV (μ π α : pm_T) : pm_T := fun a k =>
  if a = 0 ∧ k = 7 then μ 0 7 + 1 else
  if a = 10 + (μ 0 7).toNat ∧ k = 0 then α 0 1 else if a = 10 + (μ 0 7).toNat ∧ k = 1 then α 0 2 + 1 else
  if 100 + 40 * (μ 0 7).toNat ≤ a ∧ a < 140 + 40 * (μ 0 7).toNat then
    (let w := a - (100 + 40 * (μ 0 7).toNat)
     let j := (α 1 k).toNat
     if w < 4 then α (3 + w) k else if w = 4 then π 5 j else if w = 5 then π 4 j else if w = 6 then α 2 k else if w = 7 then π 2 j else if w = 8 then π 3 j else if w = 9 then π 17 j
     else if 10 ≤ w ∧ w < 14 then π (w - 4) j else if 20 ≤ w ∧ w < 24 then π (w - 10) j else if w = 30 then α 7 k else if w = 31 then α 0 (4 + k) else 0)
  else μ a k
def sp_voice (t : tk_T) (i : Nat) (μ : pm_T) : F_T ⊕ (Nat × pm_T) :=
  if μ 0 7 < 4 then bnd (sp_parts t 3000 (i + 1) par0) fun q =>
    if 2000 < walk q.2 0 0 ∨ 300 < walk q.2 0 1 ∨ 100 < walk q.2 0 2 then .inl (3, tP t i) else if walk q.2 0 3 = 0 then .inr (q.1 + 1, addV μ q.2 (walk q.2)) else .inl (6, tP t i)
  else .inl (3, tP t i)
def sp_items (t : tk_T) : Nat → Nat → pm_T → F_T ⊕ pm_T
  | 0, _, _ => .inl (1, 0)
  | f + 1, i, μ => if tK t i = 256 then .inr μ else
      bnd (if tK t i = 261 then sp_time t i μ else if tK t i = 262 then sp_voice t i μ else if tK t i = 263 then sp_line t i μ else if tK t i = 264 then sp_rule t i μ else if tK t i = 265 then sp_row t i μ else .inl (cn t i)) fun q => sp_items t f q.1 q.2
def sco0 : pm_T := up2 (up2 (fun _ _ => 0) 0 1 4) 0 2 4
def sp_score (t : tk_T) : F_T ⊕ pm_T := sp_items t 3000 0 sco0
