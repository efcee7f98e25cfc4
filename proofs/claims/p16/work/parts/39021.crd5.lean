/-! ===== the class's reader, 5: thin frames ===== -/
/-- what a step and a fault write -/
abbrev WT : Nat → Nat → Prop := fun a k => (a = 3 ∧ (k = 5 ∨ 9 ≤ k)) ∨ (a = 2 ∧ 6 ≤ k)
abbrev QT (t : tk_T) (m s : Nat) (R : F_T ⊕ (Nat × pm_T)) (h : ah_T) : Option av_T → ah_T → Prop := fun r h' => ∃ z, r = some (av_I z) ∧ hb s h' ∧ fr WT h h' ∧ (z = 0 ∨ z = 1) ∧ PBc t m s R z h'
theorem WN_T : ∀ a k, WN a k → WT a k := fun _ _ q => Or.inl q
theorem tt_Reader_blame {G : cx_T} {s : Nat} {h : ah_T} {a1 a2 : Int} (hb0 : hb s h) : con G 0 0 0 m_Reader_blame [av_R (some 2), av_I a1, av_I a2] h (fun r h' => ∃ z, r = some (av_I z) ∧ hb s h' ∧ fr WT h h' ∧ z = 0 ∧ h'.2.1 2 6 = a1 ∧ h'.2.1 2 7 = a2) := by
  refine c_Reader_blame hb0 (fun _ _ => ?_)
  unfold B_Reader_blame_0
  intro h1 e1 h3 e3
  exact ⟨0, rfl, hb_i (hb_i hb0 e1) e3, fr_i (fr_i fr_0 e1 (Or.inr ⟨rfl, by decide⟩)) e3 (Or.inr ⟨rfl, by decide⟩), rfl, by rw [mm_i e3 (by decide), mv_i e1], mv_i e3⟩
theorem tt_Reader_refuse {G : cx_T} {s : Nat} {h : ah_T} {t : tk_T} {m i : Nat} (hb0 : hb s h) (H : RCt t m i h) : con G 0 0 0 m_Reader_refuse [av_R (some 2)] h (fun r h' => ∃ z, r = some (av_I z) ∧ hb s h' ∧ fr WT h h' ∧ z = 0 ∧ h'.2.1 2 6 = (cn t i).1 ∧ h'.2.1 2 7 = (cn t i).2) := by
  obtain ⟨-, -, -, -, -, r6, r7, -, -⟩ := H
  refine c_Reader_refuse hb0 ?_
  unfold B_Reader_refuse_0 B_Reader_refuse_19 cn
  intro x2 e2 _ _
  refine ⟨fun c h1 e1 x4 e4 _ _ h5 e5 => ⟨0, rfl, hb_i (hb_i hb0 e1) e5, fr_i (fr_i fr_0 e1 (Or.inr ⟨rfl, by decide⟩)) e5 (Or.inr ⟨rfl, by decide⟩), rfl, ?_, ?_⟩, fun c h1 e1 x4 e4 _ _ h5 e5 => ⟨0, rfl, hb_i (hb_i hb0 e1) e5, fr_i (fr_i fr_0 e1 (Or.inr ⟨rfl, by decide⟩)) e5 (Or.inr ⟨rfl, by decide⟩), rfl, ?_, ?_⟩⟩
  · rw [mm_i e5 (by decide), mv_i e1, if_pos (by omega)]
  · rw [mv_i e5, e4, mm_i e1 (by decide), r7]
  · rw [mm_i e5 (by decide), mv_i e1, if_neg (by omega)]
  · rw [mv_i e5, e4, mm_i e1 (by decide), r7]
theorem tt_Reader_step {G : cx_T} {s : Nat} {h : ah_T} {t : tk_T} {m i : Nat} {μ : pm_T} (hb0 : hb s h) (H : RCs t m i μ s h) (hi : i + 1 < m) : con G 0 0 0 m_Tokens_next [av_R (some 3)] h (fun r h' => r = none ∧ hb s h' ∧ fr WT h h' ∧ RCs t m (i + 1) μ s h') := by
  have hs : s = 17 ∨ s = 80 := hb0.2.1
  refine con_mono (t_Tokens_next hb0 H.1 hi) ?_
  rintro r h' ⟨rfl, hb1, f1, r1⟩
  exact ⟨rfl, hb1, fr_w f1 WN_T, r1, RSc_f H.2.1 f1 (fun a k p q w => by omega) (fun w => by omega) (fun k w => by omega), (fr_g f1 (by omega)).trans H.2.2⟩
theorem tt_Reader_take {G : cx_T} {s : Nat} {h : ah_T} {t : tk_T} {m i : Nat} {μ : pm_T} {k : Int} (hb0 : hb s h) (H : RCs t m i μ s h) (hg : tK t i = k → i + 1 < m) : con G 1 0 0 m_Reader_take [av_R (some 2), av_I k] h (QT t m s (bnd (sp_take t i k) fun _ => .inr (i + 1, μ)) h) := by
  refine c_Reader_take hb0 (fun _ => ?_)
  unfold B_Reader_take_0
  intro x2 e2 _ _
  have ek : x2 = tK t i := e2.trans H.1.2.2.2.2.2.1
  refine ⟨fun c => ?_, fun c => ?_⟩
  · refine con_mono (tt_Reader_step hb0 H (hg (by omega))) ?_
    rintro r h' ⟨rfl, hb1, f1, r1⟩
    refine ⟨rfl, hb1, 1, rfl, hb1, f1, Or.inr rfl, ?_⟩
    rw [sp_take, if_pos (by omega)]
    exact ⟨rfl, r1⟩
  · refine con_mono (tt_Reader_refuse hb0 H.1) ?_
    rintro r h' ⟨z, rfl, hb1, f1, rfl, r1, r2⟩
    refine ⟨0, rfl, hb1, Or.inl rfl, 0, rfl, hb1, f1, Or.inl rfl, ?_⟩
    rw [sp_take, if_neg (by omega)]
    exact ⟨rfl, r1, r2⟩
theorem tt_Reader_readNumber {G : cx_T} {s : Nat} {h : ah_T} {t : tk_T} {m i : Nat} {μ : pm_T} {most w : Int} {pw : Bool} (hb0 : hb s h) (H : RCs t m i μ s h) (hg : tK t i = 259 → i + 1 < m ∧ 0 ≤ tV' t i ∧ tV' t i ≤ 9999) (hw : w = if pw = true then 1 else 0) (hm : most ≤ 64) : con G 1 0 0 m_Reader_readNumber [av_R (some 2), av_I most, av_I w] h (fun r h' => ∃ z, r = some (av_I z) ∧ hb s h' ∧ fr WT h h' ∧ PNc t m i s μ (sp_num t i most pw) z h') := by
  obtain ⟨c9, c10, c11, c12⟩ := RCs_b H
  refine c_Reader_readNumber hb0 (fun _ _ => ?_)
  unfold B_Reader_readNumber_0
  intro x2 e2 _ _
  refine ⟨fun c x4 e4 _ _ => ?_, fun c => ?_⟩
  · have hk : tK t i = 259 := by omega
    obtain ⟨g1, g2, g3⟩ := hg hk
    have ev : x4 = tV' t i := e4.trans c11
    have bad : ¬ ((1 ≤ tV' t i ∧ tV' t i ≤ most) ∧ (pw = false ∨ pwb (tV' t i) = true)) → ∀ hx : ah_T, hx = h → B_Reader_readNumber_51 G s most w hx (fun r h' => ∃ z, r = some (av_I z) ∧ hb s h' ∧ fr WT h h' ∧ PNc t m i s μ (sp_num t i most pw) z h') := by
      rintro hn hx rfl
      unfold B_Reader_readNumber_51
      intro y ey _ _
      refine con_mono (tt_Reader_blame hb0) ?_
      rintro r h' ⟨z, rfl, hb1, f1, rfl, r1, r2⟩
      refine ⟨0, rfl, hb1, 0, rfl, hb1, f1, ?_⟩
      rw [sp_num, if_pos hk, if_neg hn]
      exact ⟨rfl, r1, by rw [r2, ey, c10]⟩
    have good : ((1 ≤ tV' t i ∧ tV' t i ≤ most) ∧ (pw = false ∨ pwb (tV' t i) = true)) → ∀ hx : ah_T, hx = h → B_Reader_readNumber_66 G s most w x4 hx (fun r h' => ∃ z, r = some (av_I z) ∧ hb s h' ∧ fr WT h h' ∧ PNc t m i s μ (sp_num t i most pw) z h') := by
      rintro hn hx rfl
      unfold B_Reader_readNumber_66
      refine con_mono (tt_Reader_step hb0 H g1) ?_
      rintro r h' ⟨rfl, hb1, f1, r1⟩
      refine ⟨rfl, hb1, x4, rfl, hb1, f1, ?_⟩
      rw [sp_num, if_pos hk, if_pos hn]
      exact ⟨ev, hn.1.1, by omega, r1⟩
    refine ⟨⟨by omega, by omega⟩, fun d => bad (fun q => by omega) h rfl, fun d => ⟨fun d1 => bad (fun q => by omega) h rfl, fun d1 => ⟨fun d2 => good ⟨⟨by omega, by omega⟩, Or.inl ?_⟩ h rfl, fun d2 => ?_⟩⟩⟩
    · cases pw with
      | false => rfl
      | true => simp at hw; omega
    · have hp : pw = true := by
        cases pw with
        | true => rfl
        | false => simp at hw; omega
      refine con_mono (t_bitCount hb0 (by omega) (by omega)) ?_
      rintro r h6 ⟨z8, rfl, hb6, rfl, hz⟩
      refine ⟨z8, rfl, hb6, fun d3 => good ⟨⟨by omega, by omega⟩, Or.inr (by rw [← ev]; exact hz.mp d3)⟩ h6 rfl, fun d3 => bad (fun q => ?_) h6 rfl⟩
      rcases q.2 with q2 | q2
      · rw [hp] at q2; cases q2
      · exact d3 (hz.mpr (by rw [ev]; exact q2))
  · refine con_mono (tt_Reader_refuse hb0 H.1) ?_
    rintro r h' ⟨z, rfl, hb1, f1, rfl, r1, r2⟩
    refine ⟨0, rfl, hb1, 0, rfl, hb1, f1, ?_⟩
    rw [sp_num, if_neg (by omega)]
    exact ⟨rfl, r1, r2⟩
