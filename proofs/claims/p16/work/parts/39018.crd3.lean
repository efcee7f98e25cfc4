/-! ===== the class's reader, 3: line, names, rules, rows ===== -/
theorem t_Score_addToLine {G : cx_T} {s : Nat} {h : ah_T} {a : Int} {μ : pm_T} (hb0 : hb s h) (H : RSc μ s h) : con G 0 0 0 m_Score_addToLine [av_R (some s), av_I a] h (fun r h' => ∃ z, r = some (av_I z) ∧ hb s h' ∧ fr (fun x _ => x = s ∨ x = s + 2) h h' ∧ ((z = 0 ∧ μ 0 3 = 8 ∧ h' = h) ∨ (z = 1 ∧ μ 0 3 < 8 ∧ RSc (up2 (up2 μ 1 (μ 0 3).toNat a) 0 3 (μ 0 3 + 1)) s h'))) := by
  have hs : s = 17 ∨ s = 80 := hb0.2.1
  obtain ⟨⟨a0, a1, a2, a3, a4, a5, a6, a7⟩, ⟨b3, b⟩, l, ru, ro, na⟩ := H
  refine c_Score_addToLine hb0 (fun _ => ?_)
  unfold B_Score_addToLine_0
  intro x1 e1 _ _
  have ex : x1 = μ 0 3 := e1.trans a3
  subst ex
  refine ⟨fun c => ⟨⟨by omega, by omega⟩, fun h6 e6 => ⟨⟨by omega, by omega⟩, fun h10 e10 => ?_⟩⟩, fun c => ⟨0, rfl, hb0, fr_0, Or.inl ⟨rfl, by omega, rfl⟩⟩⟩
  refine ⟨1, rfl, hb_i (hb_i hb0 e6) e10, fr_i (fr_i fr_0 e6 (Or.inr rfl)) e10 (Or.inl rfl), Or.inr ⟨rfl, c, ?_⟩⟩
  have g : ∀ x k, ¬ (x = s ∧ k = 6) → ¬ (x = s + 2 ∧ k = (μ 0 3).toNat) → h10.2.1 x k = h.2.1 x k := fun x k q1 q2 => (mm_i e10 q1).trans (mm_i e6 q2)
  refine ⟨⟨(g _ _ (by omega) (by omega)).trans a0, (g _ _ (by omega) (by omega)).trans a1, (g _ _ (by omega) (by omega)).trans a2, mv_i e10, (g _ _ (by omega) (by omega)).trans a4, (g _ _ (by omega) (by omega)).trans a5, (g _ _ (by omega) (by omega)).trans a6, (g _ _ (by omega) (by omega)).trans a7⟩, ⟨⟨?_, ?_⟩, b⟩, fun j hj => ?_, fun j hj => ?_, fun j hj => ?_, fun j hj => ?_⟩
  · show 0 ≤ μ 0 3 + 1; omega
  · show μ 0 3 + 1 ≤ 8; omega
  · have hj : (j : Int) < μ 0 3 + 1 := hj
    show h10.2.1 (s + 2) j = up2 μ 1 (μ 0 3).toNat a 1 j
    by_cases hc : j = (μ 0 3).toNat
    · rw [hc, mm_i e10 (by omega), mv_i e6, up2_at]
    · rw [g _ _ (by omega) (by omega), up2_o (fun q => hc q.2)]
      exact l j (by omega)
  · rw [g _ _ (by omega) (by omega), g _ _ (by omega) (by omega), g _ _ (by omega) (by omega)]; exact ru j hj
  · rw [g _ _ (by omega) (by omega)]; exact ro j hj
  · rw [mm_io e10, mm_io e6]; exact na j hj
theorem t_Score_addRule {G : cx_T} {s : Nat} {h : ah_T} {a b c : Int} {μ : pm_T} (hb0 : hb s h) (H : RSc μ s h) (hlt : μ 0 4 < 24) : con G 0 0 0 m_Score_addRule [av_R (some s), av_I a, av_I b, av_I c] h (fun r h' => r = none ∧ hb s h' ∧ fr (fun x _ => s ≤ x ∧ x ≤ s + 6) h h' ∧ RSc (addr μ a b c) s h') := by
  have hs : s = 17 ∨ s = 80 := hb0.2.1
  obtain ⟨⟨a0, a1, a2, a3, a4, a5, a6, a7⟩, ⟨b3, b4, bb⟩, l, ru, ro, na⟩ := H
  refine c_Score_addRule hb0 (fun _ _ _ => ?_)
  unfold B_Score_addRule_0 B_Score_addRule_52
  intro x1 e1 _ _
  have ex : x1 = μ 0 4 := e1.trans a4
  subst ex
  refine ⟨fun w => by omega, fun w => ⟨⟨by omega, by omega⟩, fun h6 e6 h10 e10 h14 e14 => ⟨⟨by omega, by omega⟩, fun h18 e18 => ?_⟩⟩⟩
  refine ⟨rfl, hb_i (hb_i (hb_i (hb_i hb0 e6) e10) e14) e18, fr_i (fr_i (fr_i (fr_i fr_0 e6 ⟨by omega, by omega⟩) e10 ⟨by omega, by omega⟩) e14 ⟨by omega, by omega⟩) e18 ⟨by omega, by omega⟩, ?_⟩
  have g : ∀ x k, ¬ (x = s ∧ k = 10) → ¬ ((x = s + 3 ∨ x = s + 4 ∨ x = s + 5) ∧ k = (μ 0 4).toNat) → h18.2.1 x k = h.2.1 x k := fun x k q1 q2 => (mm_i e18 q1).trans ((mm_i e14 (by omega)).trans ((mm_i e10 (by omega)).trans (mm_i e6 (by omega))))
  unfold addr
  refine ⟨⟨(g _ _ (by omega) (by omega)).trans a0, (g _ _ (by omega) (by omega)).trans a1, (g _ _ (by omega) (by omega)).trans a2, (g _ _ (by omega) (by omega)).trans a3, mv_i e18, (g _ _ (by omega) (by omega)).trans a5, (g _ _ (by omega) (by omega)).trans a6, (g _ _ (by omega) (by omega)).trans a7⟩, ⟨b3, ⟨?_, ?_⟩, bb⟩, fun j hj => ?_, fun j hj => ?_, fun j hj => ?_, fun j hj => ?_⟩
  · show 0 ≤ μ 0 4 + 1; omega
  · show μ 0 4 + 1 ≤ 24; omega
  · rw [g _ _ (by omega) (by omega)]; exact l j hj
  · have hj : (j : Int) < μ 0 4 + 1 := hj
    show h18.2.1 (s + 3) j = up2 μ 2 (μ 0 4).toNat a 2 j ∧ h18.2.1 (s + 4) j = up2 μ 3 (μ 0 4).toNat b 3 j ∧ h18.2.1 (s + 5) j = up2 μ 4 (μ 0 4).toNat c 4 j
    by_cases hc : j = (μ 0 4).toNat
    · rw [hc, mm_i e18 (by omega), mm_i e14 (by omega), mm_i e10 (by omega), mv_i e6, mm_i e18 (by omega), mm_i e14 (by omega), mv_i e10, mm_i e18 (by omega), mv_i e14, up2_at, up2_at, up2_at]
      exact ⟨rfl, rfl, rfl⟩
    · rw [g _ _ (by omega) (by omega), g _ _ (by omega) (by omega), g _ _ (by omega) (by omega), up2_o (fun q => hc q.2), up2_o (fun q => hc q.2), up2_o (fun q => hc q.2)]
      exact ru j (by omega)
  · rw [g _ _ (by omega) (by omega)]; exact ro j hj
  · rw [mm_io e18, mm_io e14, mm_io e10, mm_io e6]; exact na j hj
theorem t_Score_addToRow {G : cx_T} {s : Nat} {h : ah_T} {a : Int} {μ : pm_T} (hb0 : hb s h) (H : RSc μ s h) (hlt : μ 0 5 < 12) : con G 0 0 0 m_Score_addToRow [av_R (some s), av_I a] h (fun r h' => r = none ∧ hb s h' ∧ fr (fun x _ => s ≤ x ∧ x ≤ s + 6) h h' ∧ RSc (rowa μ a) s h') := by
  have hs : s = 17 ∨ s = 80 := hb0.2.1
  obtain ⟨⟨a0, a1, a2, a3, a4, a5, a6, a7⟩, ⟨b3, b4, b5, bb⟩, l, ru, ro, na⟩ := H
  refine c_Score_addToRow hb0 (fun _ => ?_)
  unfold B_Score_addToRow_0 B_Score_addToRow_32
  intro x1 e1 _ _
  have ex : x1 = μ 0 5 := e1.trans a5
  subst ex
  refine ⟨fun w => by omega, fun w => ⟨⟨by omega, by omega⟩, fun h6 e6 => ⟨⟨by omega, by omega⟩, fun h10 e10 => ?_⟩⟩⟩
  refine ⟨rfl, hb_i (hb_i hb0 e6) e10, fr_i (fr_i fr_0 e6 ⟨by omega, by omega⟩) e10 ⟨by omega, by omega⟩, ?_⟩
  have g : ∀ x k, ¬ (x = s ∧ k = 12) → ¬ (x = s + 6 ∧ k = (μ 0 5).toNat) → h10.2.1 x k = h.2.1 x k := fun x k q1 q2 => (mm_i e10 q1).trans (mm_i e6 q2)
  unfold rowa
  refine ⟨⟨(g _ _ (by omega) (by omega)).trans a0, (g _ _ (by omega) (by omega)).trans a1, (g _ _ (by omega) (by omega)).trans a2, (g _ _ (by omega) (by omega)).trans a3, (g _ _ (by omega) (by omega)).trans a4, mv_i e10, (g _ _ (by omega) (by omega)).trans a6, (g _ _ (by omega) (by omega)).trans a7⟩, ⟨b3, b4, ⟨?_, ?_⟩, bb⟩, fun j hj => ?_, fun j hj => ?_, fun j hj => ?_, fun j hj => ?_⟩
  · show 0 ≤ μ 0 5 + 1; omega
  · show μ 0 5 + 1 ≤ 12; omega
  · rw [g _ _ (by omega) (by omega)]; exact l j hj
  · rw [g _ _ (by omega) (by omega), g _ _ (by omega) (by omega), g _ _ (by omega) (by omega)]; exact ru j hj
  · have hj : (j : Int) < μ 0 5 + 1 := hj
    show h10.2.1 (s + 6) j = up2 μ 5 (μ 0 5).toNat a 5 j
    by_cases hc : j = (μ 0 5).toNat
    · rw [hc, mm_i e10 (by omega), mv_i e6, up2_at]
    · rw [g _ _ (by omega) (by omega), up2_o (fun q => hc q.2)]
      exact ro j (by omega)
  · rw [mm_io e10, mm_io e6]; exact na j hj
theorem WR_s {s : Nat} (hs : s = 17 ∨ s = 80) : ∀ a k, (s ≤ a ∧ a ≤ s + 6) → WR s a k := fun a _ q => Or.inr (Or.inr (Or.inr ⟨q.1, by omega⟩))
theorem t_Reader_readLine {G : cx_T} {s : Nat} {h : ah_T} {t : tk_T} {m i : Nat} {μ : pm_T} (hb0 : hb s h) (hT : TG t m) (H : RCs t m i μ s h) (hg : gk (tK t i)) : con G 2 0 0 m_Reader_readLine [av_R (some 2)] h (QB t m s (sp_line t i μ) h) := by
  have hs : s = 17 ∨ s = 80 := hb0.2.1
  obtain ⟨c9, c10, -, -⟩ := RCs_b H
  have k113 : ∀ (hh : ah_T) (j : Nat) (ν : pm_T), hb s hh → fr (WR s) h hh → RCs t m j ν s hh → sp_line t i μ = bnd (sp_take t j 59) (fun _ => .inr (j + 1, ν)) → B_Reader_readLine_113 G s hh (QB t m s (sp_line t i μ) h) := by
    intro hh j ν hb1 hf Hj e
    unfold B_Reader_readLine_113
    refine con_mono (t_Reader_take (k := 59) hb1 Hj (fun w => hT.1 _ Hj.1.2.2.1 (gk_of w (by decide) (by decide)))) ?_
    rintro r h' ⟨z, rfl, hb2, f2, z01, p2⟩
    exact ⟨z, rfl, hb2, z01, z, rfl, hb2, fr_t hf f2 (fun _ _ w => w), z01, by rw [e]; exact p2⟩
  refine c_Reader_readLine (X50 := fun v1 hh => fr (WR s) h hh ∧ ∃ (j : Nat) (ν : pm_T) (f : Nat), RCs t m j ν s hh ∧ ν 0 3 = v1 ∧ (f : Int) = 10 - v1 ∧ (v1 = 0 → tK t j = 258) ∧ sp_line t i μ = (if tK t j = 59 then .inr (j + 1, ν) else sp_pits t f j ν)) ?_ hb0 ?_
  · refine lp_Reader_readLine_50 _ (fun v1 _ => (10 - v1).toNat) ?_
    rintro v1 hh hb1 ⟨hf, j, ν, f, Hj, e3, ef, e0, es⟩
    obtain ⟨d9, d10, d11, -⟩ := RCs_b Hj
    have hb8 := Hj.2.1.2.1.1
    unfold B_Reader_readLine_50
    refine ⟨fun c => by omega, fun c x2 e2 _ _ => ⟨fun c1 => ?_, fun c1 => k113 hh j ν hb1 hf Hj ?_⟩⟩
    · have hk : tK t j = 258 := by omega
      obtain ⟨pv1, pv2⟩ := hT.2.2 j Hj.1.2.2.1 hk
      intro x5 e5 _ _
      refine ⟨⟨by omega, by omega⟩, ?_⟩
      obtain ⟨f', rfl⟩ : ∃ f', f = f' + 1 := ⟨f - 1, by omega⟩
      have ev : x5 = tV' t j := e5.trans d11
      rw [if_neg (by omega), sp_pits, if_pos hk] at es
      refine con_mono (t_Score_addToLine hb1 Hj.2.1) ?_
      rintro r h7 ⟨z9, rfl, hb7, f7, ⟨rfl, w1, rfl⟩ | ⟨rfl, w1, w2⟩⟩
      · refine ⟨0, rfl, hb1, fun _ x16 e16 _ _ => ?_, fun d => absurd rfl d⟩
        rw [if_pos w1] at es
        refine con_mono (t_Reader_blame hb1) ?_
        rintro r h' ⟨z, rfl, hb2, f2, rfl, r1, r2⟩
        exact ⟨0, rfl, hb2, Or.inl rfl, 0, rfl, hb2, fr_t hf f2 (fun _ _ w => w), Or.inl rfl, by rw [es]; exact ⟨rfl, r1, by rw [r2, e16, d10]⟩⟩
      · refine ⟨1, rfl, hb7, fun d => absurd d (by decide), fun _ => ?_⟩
        rw [if_neg (by omega)] at es
        have H7 : RCs t m j (pit t j ν) s h7 := by
          rw [ev] at w2
          exact RCs_sc Hj f7 (by omega) (fun a k w => by omega) w2
        refine con_mono (t_Reader_step hb7 H7 (hT.1 _ Hj.1.2.2.1 (gk_of hk (by decide) (by decide)))) ?_
        rintro r h11 ⟨rfl, hb11, f11, H11⟩
        refine ⟨rfl, hb11, ⟨by omega, by omega⟩, ⟨fr_t (fr_t hf f7 (fun a k w => WR_s hs a k (by omega))) f11 (fun _ _ w => w), j + 1, pit t j ν, f', H11, ?_, by omega, fun d => by omega, es⟩, by omega⟩
        show ν 0 3 + 1 = v1 + 1
        omega
    · rw [es]
      obtain ⟨f', rfl⟩ : ∃ f', f = f' + 1 := ⟨f - 1, by omega⟩
      rw [sp_take, sp_pits]
      by_cases hk : tK t j = 59
      · rw [if_pos hk, if_pos hk]; rfl
      · rw [if_neg hk, if_neg hk, if_neg (by omega)]; rfl
  · unfold B_Reader_readLine_0
    intro x2 e2 _ _
    have em : x2 = μ 0 3 := e2.trans H.2.1.1.2.2.2.1
    refine ⟨fun c => ?_, fun c x13 e13 _ _ => ?_⟩
    · refine con_mono (t_Reader_step hb0 H (hT.1 i H.1.2.2.1 hg)) ?_
      rintro r h4 ⟨rfl, hb4, f4, H4⟩
      obtain ⟨d9, d10, -, -⟩ := RCs_b H4
      refine ⟨rfl, hb4, fun x8 e8 _ _ => ⟨fun c1 => ?_, fun c1 => ?_⟩⟩
      · have hk : tK t (i + 1) = 258 := by omega
        have h03 : μ 0 3 = 0 := by have := H.2.1.2.1.1; omega
        refine ⟨f4, i + 1, μ, 10, H4, h03, by decide, fun _ => hk, ?_⟩
        rw [sp_line, if_pos (by omega), if_neg (by omega)]
      · refine con_mono (t_Reader_refuse hb4 H4.1) ?_
        rintro r h' ⟨z, rfl, hb1, f1, rfl, r1, r2⟩
        refine ⟨0, rfl, hb1, Or.inl rfl, 0, rfl, hb1, fr_t f4 f1 (fun _ _ w => w), Or.inl rfl, ?_⟩
        rw [sp_line, if_pos (by omega), sp_pits, if_neg (by omega)]
        exact ⟨rfl, r1, r2⟩
    · refine con_mono (t_Reader_blame hb0) ?_
      rintro r h' ⟨z, rfl, hb1, f1, rfl, r1, r2⟩
      refine ⟨0, rfl, hb1, Or.inl rfl, 0, rfl, hb1, f1, Or.inl rfl, ?_⟩
      rw [sp_line, if_neg (by omega)]
      exact ⟨rfl, r1, by rw [r2, e13, c10]⟩
