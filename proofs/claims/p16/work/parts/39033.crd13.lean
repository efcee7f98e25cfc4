/-! ===== the WALK, class: small things ===== -/
theorem wk_ev_0 {π : pm_T} {j : Nat} {sT sB : Int} {α : pm_T} : wk_ev π j sT sB α 0 0 = α 0 0 := by
  unfold wk_ev
  dsimp only
  split
  · split
    · rw [up2_o (by omega), up2_o (by omega), up2_o (by omega), up2_o (by omega), up2_o (by omega), up2_o (by omega), up2_o (by omega), up2_o (by omega)]
    · rw [up2_o (by omega), up2_o (by omega), up2_o (by omega), up2_o (by omega), up2_o (by omega), up2_o (by omega), up2_o (by omega), up2_o (by omega), up2_o (by omega), up2_o (by omega)]
  · rw [up2_o (by omega)]
theorem wk_ln_0 {α : pm_T} : wk_ln α 0 0 = α 0 0 := by
  unfold wk_ln
  rw [up2_o (by omega)]
  split
  · rw [up2_o (by omega)]
  · rfl
theorem wk_st_0 {α : pm_T} : wk_st α 0 0 = α 0 0 + 1 := by unfold wk_st; rw [up2_at]
theorem wk_mono {π : pm_T} : ∀ (f : Nat) (b : Bool) (x y : Nat) (sT sB : Int) (α : pm_T), α 0 0 ≤ wk π f b x y sT sB α 0 0
  | 0, _, _, _, _, _, _ => by rw [wk]; exact Int.le_refl _
  | f + 1, true, x, y, sT, sB, α => by
    have s1 := wk_st_0 (α := α)
    have s2 := wk_st_0 (α := wk_st α)
    rw [wk]
    split
    · exact Int.le_refl _
    split
    · refine Int.le_trans ?_ (wk_mono f true _ y sT sB _)
      split
      · exact Int.le_trans (by omega) (wk_mono f false x _ sT sB _)
      · refine Int.le_trans ?_ (wk_mono f true (x + 1) _ sT sB _)
        rw [wk_st_0]
        have := wk_mono (π := π) f true (x + 1) (lk π x) sT sB (wk_st (wk_st α))
        omega
    split
    · refine Int.le_trans ?_ (wk_mono f true _ y sT sB _)
      exact Int.le_trans (by omega) (wk_mono f true (x + 1) _ _ _ _)
    split
    · refine Int.le_trans ?_ (wk_mono f true _ y sT sB _)
      rw [wk_ln_0]; omega
    split
    · refine Int.le_trans ?_ (wk_mono f true _ y sT sB _)
      rw [wk_ev_0]; omega
    · exact Int.le_trans (by omega) (wk_mono f true _ y sT sB _)
  | f + 1, false, x, y, sT, sB, α => by
    have s1 := wk_st_0 (α := α)
    rw [wk]
    split
    · refine Int.le_trans ?_ (wk_mono f false x _ sT sB _)
      refine Int.le_trans ?_ (wk_mono f true (y + 1) _ sT sB _)
      exact Int.le_trans (by omega) (wk_mono f true (x + 1) _ sT sB _)
    · exact Int.le_refl _
theorem t_Voice_beginWalk {G : cx_T} {s v : Nat} {h : ah_T} (hv : isV v) (hb0 : hb s h) : con G 0 0 0 m_Voice_beginWalk [av_R (some v)] h (fun r h' => r = none ∧ hb s h' ∧ fr (WW v) h h' ∧ h'.2.1 v 14 = 0 ∧ h'.2.1 v 16 = 1 ∧ h'.2.2.1 (v + 9) 0 = 0 ∧ h'.2.2.1 (v + 10) 0 = 1 ∧ h'.2.1 (v + 13) 0 = 0) := by
  have v24 := isV_24 hv
  refine c_Voice_beginWalk hv hb0 ?_
  unfold B_Voice_beginWalk_0
  intro h1 e1 h4 e4 h7 e7 h10 e10 h12 e12
  refine ⟨rfl, hb_i (hb_i (hb_l (hb_l (hb_i hb0 e1) e4) e7) e10) e12, fr_i (fr_i (fr_l (fr_l (fr_i fr_0 e1 (by omega)) e4 (by omega)) e7 (by omega)) e10 (by omega)) e12 (by omega), ?_, mv_i e12, ?_, ?_, ?_⟩
  · rw [mm_i e12 (by omega), mm_i e10 (by omega), mm_lo e7, mm_lo e4, mv_i e1]
  · rw [mm_io e12, mm_io e10, mm_l e7 (by omega), mv_l e4]
  · rw [mm_io e12, mm_io e10, mv_l e7]
  · rw [mm_i e12 (by omega), mv_i e10]
theorem t_Voice_endWalk {G : cx_T} {s v b : Nat} {h : ah_T} (hv : isV v) (hb0 : hb s h) (hb1 : h.2.1 v 16 = (b : Int)) : con G 0 0 0 m_Voice_endWalk [av_R (some v)] h (fun r h' => r = none ∧ hb s h' ∧ fr (fun a k => a = v + 13 ∧ k = b) h h' ∧ (b < 102 → h'.2.1 (v + 13) b = h.2.1 v 14)) := by
  have v24 := isV_24 hv
  refine c_Voice_endWalk hv hb0 ?_
  unfold B_Voice_endWalk_0 B_Voice_endWalk_25
  intro x1 e1 _ _
  obtain rfl : x1 = (b : Int) := e1.trans hb1
  refine ⟨fun c => ⟨rfl, hb0, fr_0, fun d => by omega⟩, fun c x5 e5 _ _ => ⟨⟨by omega, by omega⟩, ?_⟩⟩
  rw [tn_c]
  intro h7 e7
  exact ⟨rfl, hb_i hb0 e7, fr_i fr_0 e7 ⟨rfl, rfl⟩, fun _ => by rw [mv_i e7, e5]⟩
theorem t_Voice_addBar {G : cx_T} {s v b : Nat} {h : ah_T} (hv : isV v) (hb0 : hb s h) (hb1 : h.2.1 v 16 = (b : Int)) (hb2 : b < 102) : con G 0 0 0 m_Voice_addBar [av_R (some v)] h (fun r h' => r = none ∧ hb s h' ∧ fr (fun a k => (a = v + 13 ∧ k = b) ∨ (a = v ∧ k = 16)) h h' ∧ h'.2.1 (v + 13) b = h.2.1 v 14 ∧ h'.2.1 v 16 = (b : Int) + 1) := by
  have v24 := isV_24 hv
  refine c_Voice_addBar hv hb0 ?_
  unfold B_Voice_addBar_0 B_Voice_addBar_35
  intro x1 e1 _ _
  obtain rfl : x1 = (b : Int) := e1.trans hb1
  refine ⟨fun c => by omega, fun c x5 e5 _ _ => ⟨⟨by omega, by omega⟩, ?_⟩⟩
  rw [tn_c]
  intro h7 e7
  refine ⟨⟨by omega, by omega⟩, fun h11 e11 => ⟨rfl, hb_i (hb_i hb0 e7) e11, fr_i (fr_i fr_0 e7 (Or.inl ⟨rfl, rfl⟩)) e11 (Or.inr ⟨rfl, rfl⟩), ?_, mv_i e11⟩⟩
  rw [mm_i e11 (by omega), mv_i e7, e5]
theorem t_Parts_meetLine {G : cx_T} {s v b l : Nat} {h : ah_T} (hv : isV v) (hb0 : hb s h) (hl : h.2.1 9 10 = (l : Int)) (hl2 : l < 100000) (hb1 : h.2.1 v 16 = (b : Int)) (hb2 : l < 100 → b < 102) : con G 1 0 0 m_Parts_meetLine [av_R (some 9), av_R (some v)] h (fun r h' => r = none ∧ hb s h' ∧ fr (fun a k => (a = 9 ∧ k = 10) ∨ (a = v + 13 ∧ k = b) ∨ (a = v ∧ k = 16)) h h' ∧ h'.2.1 9 10 = (l : Int) + 1 ∧ (l < 100 → h'.2.1 (v + 13) b = h.2.1 v 14 ∧ h'.2.1 v 16 = (b : Int) + 1) ∧ (¬ l < 100 → h'.2.1 v 16 = (b : Int) ∧ ∀ k, h'.2.1 (v + 13) k = h.2.1 (v + 13) k)) := by
  have v24 := isV_24 hv
  refine c_Parts_meetLine hv hb0 ?_
  unfold B_Parts_meetLine_0 B_Parts_meetLine_23
  intro x1 e1 _ _
  obtain rfl : x1 = (l : Int) := e1.trans hl
  refine ⟨⟨by omega, by omega⟩, fun h3 e3 => ⟨fun c => ?_, fun c => ?_⟩⟩
  · refine ⟨rfl, hb_i hb0 e3, fr_i fr_0 e3 (Or.inl ⟨rfl, rfl⟩), mv_i e3, fun d => by omega, fun _ => ⟨by rw [mm_i e3 (by omega)]; exact hb1, fun k => mm_i e3 (by omega)⟩⟩
  · refine con_mono (t_Voice_addBar (b := b) hv (hb_i hb0 e3) (by rw [mm_i e3 (by omega)]; exact hb1) (hb2 (by omega))) ?_
    rintro r h6 ⟨rfl, hb6, f6, g1, g2⟩
    refine ⟨rfl, hb6, rfl, hb6, fr_t (fr_i fr_0 e3 (Or.inl ⟨rfl, rfl⟩)) f6 (fun a k w => Or.inr w), ?_, fun _ => ⟨by rw [g1, mm_i e3 (by omega)], g2⟩, fun d => by omega⟩
    rw [fr_g f6 (by omega), mv_i e3]
theorem t_Voice_isTold {G : cx_T} {s : Nat} {h : ah_T} {a b : Int} (hb0 : hb s h) (hb1 : 0 ≤ b) : con G 0 0 0 m_Voice_isTold [av_L a, av_L b] h (fun r h' => hb s h' ∧ h' = h ∧ r = some (av_I (if isFr a b = true then 0 else 1))) := by
  refine c_Voice_isTold hb0 (fun _ _ => ?_)
  unfold B_Voice_isTold_0 B_Voice_isTold_22 B_Voice_isTold_23
  have e : isFr a b = true ↔ (1000 * b < a ∨ 1000000 < b) := by unfold isFr; simp
  refine ⟨fun c => ⟨Or.inl rfl, hb0, rfl, by rw [if_pos (e.mpr (Or.inr c))]⟩, fun c => ⟨⟨by omega, by omega⟩, fun d => ⟨Or.inl rfl, hb0, rfl, by rw [if_pos (e.mpr (Or.inl d))]⟩, fun d => ⟨Or.inr rfl, hb0, rfl, ?_⟩⟩⟩
  rw [if_neg (fun w => by rcases e.mp w with w | w <;> omega)]
