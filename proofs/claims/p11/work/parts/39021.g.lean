/-! ===== the class's reader, 5: thin frames ===== -/
/-- what a step and a fault write -/
abbrev WT : Nat → Nat → Prop := fun a k => (a = 3 ∧ (k = 5 ∨ 9 ≤ k)) ∨ (a = 2 ∧ 6 ≤ k)
abbrev QT (t : tk_T) (m s : Nat) (R : F_T ⊕ (Nat × pm_T)) (h : ah_T) : Option av_T → ah_T → Prop := fun r h' => ∃ z, r = some (av_I z) ∧ hb s h' ∧ fr WT h h' ∧ (z = 0 ∨ z = 1) ∧ PBc t m s R z h'
theorem WN_T : ∀ a k, WN a k → WT a k := fun _ _ q => Or.inl q
theorem tt_Reader_blame {G : cx_T} {s : Nat} {h : ah_T} {a1 a2 : Int} (hb0 : hb s h) : con G 0 0 0 m_Reader_blame [av_R (some 2), av_I a1, av_I a2] h (fun r h' => ∃ z, r = some (av_I z) ∧ hb s h' ∧ fr WT h h' ∧ z = 0 ∧ h'.2.1 2 6 = a1 ∧ h'.2.1 2 7 = a2) := by
  refine c_Reader_blame hb0 (fun _ _ => ?_)
  unfold B_Reader_blame_0
  intro h1 e1 h3 e3
  exact ⟨0, rfl, hb_i (hb_i hb0 e1) e3, fr_i (fr_i fr_0 e1 (Or.inr ⟨rfl, by decide⟩)) e3 (Or.inr ⟨rfl, by decide⟩), rfl, by rw [mm_i e3 (by decide), mv_i e1], mv_i e3⟩
theorem tt_Reader_refuse {G : cx_T} {s : Nat} {h : ah_T} {t : tk_T} {m i : Nat} (hb0 : hb s h) (H : RCt t m i h) : con G 0 0 0 m_Reader_refuse [av_R (some 2)] h (fun r h' => ∃ z, r = some (av_I z) ∧ hb s h' ∧ fr WT h h' ∧ z = 0 ∧ h'.2.1 2 6 = (cn t i).1 ∧ h'.2.1 2 7 = (cn t i).2) := by
  obtain ⟨-, -, -, -, -, r6, r7, -, -⟩ := H
  refine c_Reader_refuse hb0 ?_
  unfold B_Reader_refuse_0 B_Reader_refuse_19 cn
  intro x2 e2 _ _
  refine ⟨fun c h1 e1 x4 e4 _ _ h5 e5 => ⟨0, rfl, hb_i (hb_i hb0 e1) e5, fr_i (fr_i fr_0 e1 (Or.inr ⟨rfl, by decide⟩)) e5 (Or.inr ⟨rfl, by decide⟩), rfl, ?_, ?_⟩, fun c h1 e1 x4 e4 _ _ h5 e5 => ⟨0, rfl, hb_i (hb_i hb0 e1) e5, fr_i (fr_i fr_0 e1 (Or.inr ⟨rfl, by decide⟩)) e5 (Or.inr ⟨rfl, by decide⟩), rfl, ?_, ?_⟩⟩
  · rw [mm_i e5 (by decide), mv_i e1, if_pos (by omega)]
  · rw [mv_i e5, e4, mm_i e1 (by decide), r7]
  · rw [mm_i e5 (by decide), mv_i e1, if_neg (by omega)]
  · rw [mv_i e5, e4, mm_i e1 (by decide), r7]
theorem tt_Reader_step {G : cx_T} {s : Nat} {h : ah_T} {t : tk_T} {m i : Nat} {μ : pm_T} (hb0 : hb s h) (H : RCs t m i μ s h) (hi : i + 1 < m) : con G 0 0 0 m_Tokens_next [av_R (some 3)] h (fun r h' => r = none ∧ hb s h' ∧ fr WT h h' ∧ RCs t m (i + 1) μ s h') := by
  have hs : s = 17 ∨ s = 80 := hb0.2.1
  refine con_mono (t_Tokens_next hb0 H.1 hi) ?_
  rintro r h' ⟨rfl, hb1, f1, r1⟩
  exact ⟨rfl, hb1, fr_w f1 WN_T, r1, RSc_f H.2.1 f1 (fun a k p q w => by omega) (fun w => by omega) (fun k w => by omega), (fr_g f1 (by omega)).trans H.2.2⟩
theorem tt_Reader_take {G : cx_T} {s : Nat} {h : ah_T} {t : tk_T} {m i : Nat} {μ : pm_T} {k : Int} (hb0 : hb s h) (H : RCs t m i μ s h) (hg : tK t i = k → i + 1 < m) : con G 1 0 0 m_Reader_take [av_R (some 2), av_I k] h (QT t m s (bnd (sp_take t i k) fun _ => .inr (i + 1, μ)) h) := by
  refine c_Reader_take hb0 (fun _ => ?_)
  unfold B_Reader_take_0
  intro x2 e2 _ _
  have ek : x2 = tK t i := e2.trans H.1.2.2.2.2.2.1
  refine ⟨fun c => ?_, fun c => ?_⟩
  · refine con_mono (tt_Reader_step hb0 H (hg (by omega))) ?_
    rintro r h' ⟨rfl, hb1, f1, r1⟩
    refine ⟨rfl, hb1, 1, rfl, hb1, f1, Or.inr rfl, ?_⟩
    rw [sp_take, if_pos (by omega)]
    exact ⟨rfl, r1⟩
  · refine con_mono (tt_Reader_refuse hb0 H.1) ?_
    rintro r h' ⟨z, rfl, hb1, f1, rfl, r1, r2⟩
    refine ⟨0, rfl, hb1, Or.inl rfl, 0, rfl, hb1, f1, Or.inl rfl, ?_⟩
    rw [sp_take, if_neg (by omega)]
    exact ⟨rfl, r1, r2⟩
theorem tt_Reader_readNumber {G : cx_T} {s : Nat} {h : ah_T} {t : tk_T} {m i : Nat} {μ : pm_T} {most w : Int} {pw : Bool} (hb0 : hb s h) (H : RCs t m i μ s h) (hg : tK t i = 259 → i + 1 < m ∧ 0 ≤ tV' t i ∧ tV' t i ≤ 9999) (hw : w = if pw = true then 1 else 0) (hm : most ≤ 64) : con G 1 0 0 m_Reader_readNumber [av_R (some 2), av_I most, av_I w] h (fun r h' => ∃ z, r = some (av_I z) ∧ hb s h' ∧ fr WT h h' ∧ PNc t m i s μ (sp_num t i most pw) z h') := by
  obtain ⟨c9, c10, c11, c12⟩ := RCs_b H
  refine c_Reader_readNumber hb0 (fun _ _ => ?_)
  unfold B_Reader_readNumber_0
  intro x2 e2 _ _
  refine ⟨fun c x4 e4 _ _ => ?_, fun c => ?_⟩
  · have hk : tK t i = 259 := by omega
    obtain ⟨g1, g2, g3⟩ := hg hk
    have ev : x4 = tV' t i := e4.trans c11
    have bad : ¬ ((1 ≤ tV' t i ∧ tV' t i ≤ most) ∧ (pw = false ∨ pwb (tV' t i) = true)) → ∀ hx : ah_T, hx = h → B_Reader_readNumber_51 G s most w hx (fun r h' => ∃ z, r = some (av_I z) ∧ hb s h' ∧ fr WT h h' ∧ PNc t m i s μ (sp_num t i most pw) z h') := by
      rintro hn hx rfl
      unfold B_Reader_readNumber_51
      intro y ey _ _
      refine con_mono (tt_Reader_blame hb0) ?_
      rintro r h' ⟨z, rfl, hb1, f1, rfl, r1, r2⟩
      refine ⟨0, rfl, hb1, 0, rfl, hb1, f1, ?_⟩
      rw [sp_num, if_pos hk, if_neg hn]
      exact ⟨rfl, r1, by rw [r2, ey, c10]⟩
    have good : ((1 ≤ tV' t i ∧ tV' t i ≤ most) ∧ (pw = false ∨ pwb (tV' t i) = true)) → ∀ hx : ah_T, hx = h → B_Reader_readNumber_66 G s most w x4 hx (fun r h' => ∃ z, r = some (av_I z) ∧ hb s h' ∧ fr WT h h' ∧ PNc t m i s μ (sp_num t i most pw) z h') := by
      rintro hn hx rfl
      unfold B_Reader_readNumber_66
      refine con_mono (tt_Reader_step hb0 H g1) ?_
      rintro r h' ⟨rfl, hb1, f1, r1⟩
      refine ⟨rfl, hb1, x4, rfl, hb1, f1, ?_⟩
      rw [sp_num, if_pos hk, if_pos hn]
      exact ⟨ev, hn.1.1, by omega, r1⟩
    refine ⟨⟨by omega, by omega⟩, fun d => bad (fun q => by omega) h rfl, fun d => ⟨fun d1 => bad (fun q => by omega) h rfl, fun d1 => ⟨fun d2 => good ⟨⟨by omega, by omega⟩, Or.inl ?_⟩ h rfl, fun d2 => ?_⟩⟩⟩
    · cases pw with
      | false => rfl
      | true => simp at hw; omega
    · have hp : pw = true := by
        cases pw with
        | true => rfl
        | false => simp at hw; omega
      refine con_mono (t_bitCount hb0 (by omega) (by omega)) ?_
      rintro r h6 ⟨z8, rfl, hb6, rfl, hz⟩
      refine ⟨z8, rfl, hb6, fun d3 => good ⟨⟨by omega, by omega⟩, Or.inr (by rw [← ev]; exact hz.mp d3)⟩ h6 rfl, fun d3 => bad (fun q => ?_) h6 rfl⟩
      rcases q.2 with q2 | q2
      · rw [hp] at q2; cases q2
      · exact d3 (hz.mpr (by rw [ev]; exact q2))
  · refine con_mono (tt_Reader_refuse hb0 H.1) ?_
    rintro r h' ⟨z, rfl, hb1, f1, rfl, r1, r2⟩
    refine ⟨0, rfl, hb1, 0, rfl, hb1, f1, ?_⟩
    rw [sp_num, if_neg (by omega)]
    exact ⟨rfl, r1, r2⟩

/-! ===== the class: a voice's sounds and parts, cell by cell ===== -/
theorem isV_24 {v : Nat} (h : isV v) : 24 ≤ v := by unfold isV at h; omega
/-- what reading a voice's parts writes -/
abbrev WP (v : Nat) : Nat → Nat → Prop := fun a k => WT a k ∨ (a = 2 ∧ k = 4) ∨ (9 ≤ a ∧ a ≤ 15) ∨ (v ≤ a ∧ a ≤ v + 6)
theorem WT_P {v : Nat} : ∀ a k, WT a k → WP v a k := fun _ _ q => Or.inl q
theorem t_Voice_clear {G : cx_T} {s v : Nat} {h : ah_T} (hv : isV v) (hb0 : hb s h) : con G 0 0 0 m_Voice_clear [av_R (some v)] h (fun r h' => r = none ∧ hb s h' ∧ fr (fun a k => (a = v ∧ (k = 2 ∨ k = 7)) ∨ (a = v + 3 ∧ k = 0)) h h' ∧ h'.2.1 v 2 = 0 ∧ h'.2.1 v 7 = 0 ∧ h'.2.1 (v + 3) 0 = 0) := by
  have v24 := isV_24 hv
  refine c_Voice_clear hv hb0 ?_
  unfold B_Voice_clear_0
  intro h1 e1 h3 e3 h6 e6
  refine ⟨rfl, hb_i (hb_i (hb_i hb0 e1) e3) e6, fr_i (fr_i (fr_i fr_0 e1 (by omega)) e3 (by omega)) e6 (by omega), ?_, ?_, mv_i e6⟩
  · rw [mm_i e6 (by omega), mm_i e3 (by omega), mv_i e1]
  · rw [mm_i e6 (by omega), mv_i e3]
theorem t_Voice_addPitch {G : cx_T} {s v n : Nat} {h : ah_T} {a b : Int} (hv : isV v) (hb0 : hb s h) (hn : h.2.1 v 2 = (n : Int)) : con G 0 0 0 m_Voice_addPitch [av_R (some v), av_I a, av_I b] h (fun r h' => r = none ∧ hb s h' ∧ fr (fun x k => (x = v ∧ k = 2) ∨ (x = v + 1 ∧ k = n) ∨ (x = v + 2 ∧ k = n)) h h' ∧ (n < 300 → h'.2.1 v 2 = (n : Int) + 1 ∧ h'.2.1 (v + 1) n = a ∧ h'.2.1 (v + 2) n = b)) := by
  have v24 := isV_24 hv
  refine c_Voice_addPitch hv hb0 (fun _ _ => ?_)
  unfold B_Voice_addPitch_0 B_Voice_addPitch_42
  intro x1 e1 _ _
  obtain rfl : x1 = (n : Int) := e1.trans hn
  refine ⟨fun c => ⟨rfl, hb0, fr_0, fun d => by omega⟩, fun c => ⟨⟨by omega, by omega⟩, ?_⟩⟩
  rw [tn_c]
  intro h6 e6 h10 e10
  refine ⟨⟨by omega, by omega⟩, fun h14 e14 => ?_⟩
  refine ⟨rfl, hb_i (hb_i (hb_i hb0 e6) e10) e14, fr_i (fr_i (fr_i fr_0 e6 (by omega)) e10 (by omega)) e14 (by omega), fun _ => ⟨mv_i e14, ?_, ?_⟩⟩
  · rw [mm_i e14 (by omega), mm_i e10 (by omega), mv_i e6]
  · rw [mm_i e14 (by omega), mv_i e10]
theorem t_Voice_endSound {G : cx_T} {s v n : Nat} {h : ah_T} {a b c : Int} (hv : isV v) (hb0 : hb s h) (hn : h.2.1 v 7 = (n : Int)) (hn3 : n < 300) (hc : c = 0 ∨ c = 1) : con G 0 0 0 m_Voice_endSound [av_R (some v), av_I a, av_I b, av_I c] h (fun r h' => r = some (av_I (n : Int)) ∧ hb s h' ∧ fr (fun x k => (x = v ∧ k = 7) ∨ (x = v + 3 ∧ k = n + 1) ∨ ((x = v + 4 ∨ x = v + 5 ∨ x = v + 6) ∧ k = n)) h h' ∧ h'.2.1 v 7 = (n : Int) + 1 ∧ h'.2.1 (v + 4) n = a ∧ h'.2.1 (v + 5) n = b ∧ h'.2.1 (v + 6) n = c ∧ h'.2.1 (v + 3) (n + 1) = h.2.1 v 2) := by
  have v24 := isV_24 hv
  refine c_Voice_endSound hv hb0 (fun _ _ _ => ?_)
  unfold B_Voice_endSound_0
  intro x1 e1 _ _
  obtain rfl : x1 = (n : Int) := e1.trans hn
  refine ⟨fun _ => ⟨⟨by omega, by omega⟩, ?_⟩, fun d => by omega⟩
  have en : ((n : Int) + 1).toNat = n + 1 := by omega
  rw [tn_c, en]
  intro h6 e6 h10 e10
  refine ⟨hc, fun h14 e14 => ⟨⟨by omega, by omega⟩, fun h18 e18 x22 e22 _ _ => ⟨⟨by omega, by omega⟩, fun h24 e24 => ⟨⟨by omega, by omega⟩, ?_⟩⟩⟩⟩
  refine ⟨rfl, hb_i (hb_i (hb_i (hb_i (hb_i hb0 e6) e10) e14) e18) e24, fr_i (fr_i (fr_i (fr_i (fr_i fr_0 e6 (by omega)) e10 (by omega)) e14 (by omega)) e18 (by omega)) e24 (by omega), ?_, ?_, ?_, ?_, ?_⟩
  · rw [mm_i e24 (by omega), mv_i e18]
  · rw [mm_i e24 (by omega), mm_i e18 (by omega), mm_i e14 (by omega), mm_i e10 (by omega), mv_i e6]
  · rw [mm_i e24 (by omega), mm_i e18 (by omega), mm_i e14 (by omega), mv_i e10]
  · rw [mm_i e24 (by omega), mm_i e18 (by omega), mv_i e14]
  · rw [mv_i e24, e22, mm_i e18 (by omega), mm_i e14 (by omega), mm_i e10 (by omega), mm_i e6 (by omega)]
theorem t_Parts_clear {G : cx_T} {s : Nat} {h : ah_T} (hb0 : hb s h) : con G 0 0 0 m_Parts_clear [av_R (some 9)] h (fun r h' => r = none ∧ hb s h' ∧ fr (fun a k => a = 9 ∧ (k = 4 ∨ k = 7)) h h' ∧ h'.2.1 9 4 = 0 ∧ h'.2.1 9 7 = 0) := by
  refine c_Parts_clear hb0 ?_
  unfold B_Parts_clear_0
  intro h1 e1 h3 e3
  exact ⟨rfl, hb_i (hb_i hb0 e1) e3, fr_i (fr_i fr_0 e1 (by omega)) e3 (by omega), by rw [mm_i e3 (by omega), mv_i e1], mv_i e3⟩
/-- a part that is no [ and no { -/
theorem t_Parts_add {G : cx_T} {s n : Nat} {h : ah_T} {a b c : Int} (hb0 : hb s h) (hn : h.2.1 9 4 = (n : Int)) (hn2 : n < 2000) (h91 : a ≠ 91) (h123 : a ≠ 123) : con G 0 0 0 m_Parts_add [av_R (some 9), av_I a, av_I b, av_I c] h (fun r h' => r = none ∧ hb s h' ∧ fr (fun x k => (x = 9 ∧ k = 4) ∨ ((x = 10 ∨ x = 11 ∨ x = 12 ∨ x = 13) ∧ k = n)) h h' ∧ h'.2.1 9 4 = (n : Int) + 1 ∧ h'.2.1 10 n = a ∧ h'.2.1 12 n = b ∧ h'.2.1 13 n = c ∧ h'.2.1 11 n = (n : Int)) := by
  refine c_Parts_add hb0 (fun _ _ _ => ?_)
  unfold B_Parts_add_0 B_Parts_add_70
  intro x1 e1 _ _
  refine ⟨fun _ => ⟨fun d => absurd d h91, fun _ => ⟨fun d => absurd d h123, fun _ x2 e2 _ _ => ?_⟩⟩, fun d => by omega⟩
  obtain rfl : x2 = (n : Int) := e2.trans hn
  refine ⟨⟨by omega, by omega⟩, ?_⟩
  rw [tn_c]
  intro h4 e4 h8 e8 h12 e12 h17 e17
  refine ⟨⟨by omega, by omega⟩, fun h21 e21 => ?_⟩
  refine ⟨rfl, hb_i (hb_i (hb_i (hb_i (hb_i hb0 e4) e8) e12) e17) e21, fr_i (fr_i (fr_i (fr_i (fr_i fr_0 e4 (by omega)) e8 (by omega)) e12 (by omega)) e17 (by omega)) e21 (by omega), mv_i e21, ?_, ?_, ?_, ?_⟩
  · rw [mm_i e21 (by omega), mm_i e17 (by omega), mm_i e12 (by omega), mm_i e8 (by omega), mv_i e4]
  · rw [mm_i e21 (by omega), mm_i e17 (by omega), mm_i e12 (by omega), mv_i e8]
  · rw [mm_i e21 (by omega), mm_i e17 (by omega), mv_i e12]
  · rw [mm_i e21 (by omega), mv_i e17]
/-- a [ or { -/
theorem t_Parts_open {G : cx_T} {s n d : Nat} {h : ah_T} {a b c : Int} (hb0 : hb s h) (hn : h.2.1 9 4 = (n : Int)) (hn2 : n < 2000) (hd : h.2.1 9 7 = (d : Int)) (hd7 : d < 7) (ha : a = 91 ∨ a = 123) : con G 0 0 0 m_Parts_add [av_R (some 9), av_I a, av_I b, av_I c] h (fun r h' => r = none ∧ hb s h' ∧ fr (fun x k => (x = 9 ∧ (k = 4 ∨ k = 7)) ∨ ((x = 10 ∨ x = 11 ∨ x = 12 ∨ x = 13) ∧ k = n) ∨ ((x = 14 ∨ x = 15) ∧ k = d)) h h' ∧ h'.2.1 9 4 = (n : Int) + 1 ∧ h'.2.1 10 n = a ∧ h'.2.1 12 n = b ∧ h'.2.1 13 n = c ∧ h'.2.1 11 n = (n : Int) ∧ h'.2.1 9 7 = (d : Int) + 1 ∧ h'.2.1 14 d = (n : Int) ∧ h'.2.1 15 d = (n : Int)) := by
  refine c_Parts_add hb0 (fun _ _ _ => ?_)
  unfold B_Parts_add_0
  intro x1 e1 _ _
  have key : B_Parts_add_25 G s a b c h (fun r h' => r = none ∧ hb s h' ∧ fr (fun x k => (x = 9 ∧ (k = 4 ∨ k = 7)) ∨ ((x = 10 ∨ x = 11 ∨ x = 12 ∨ x = 13) ∧ k = n) ∨ ((x = 14 ∨ x = 15) ∧ k = d)) h h' ∧ h'.2.1 9 4 = (n : Int) + 1 ∧ h'.2.1 10 n = a ∧ h'.2.1 12 n = b ∧ h'.2.1 13 n = c ∧ h'.2.1 11 n = (n : Int) ∧ h'.2.1 9 7 = (d : Int) + 1 ∧ h'.2.1 14 d = (n : Int) ∧ h'.2.1 15 d = (n : Int)) := by
    unfold B_Parts_add_25 B_Parts_add_70
    intro y1 f1 _ _
    obtain rfl : y1 = (d : Int) := f1.trans hd
    refine ⟨fun w => by omega, fun _ x4 e4 _ _ => ?_⟩
    obtain rfl : x4 = (n : Int) := e4.trans hn
    refine ⟨⟨by omega, by omega⟩, ?_⟩
    rw [tn_c d]
    intro h6 e6 h11 e11
    refine ⟨⟨by omega, by omega⟩, fun h15 e15 x2 e2 _ _ => ?_⟩
    have e2' : x2 = (n : Int) := by rw [e2, mm_i e15 (by omega), mm_i e11 (by omega), mm_i e6 (by omega), hn]
    subst e2'
    refine ⟨⟨by omega, by omega⟩, ?_⟩
    rw [tn_c]
    intro g4 d4 g8 d8 g12 d12 g17 d17
    refine ⟨⟨by omega, by omega⟩, fun g21 d21 => ?_⟩
    refine ⟨rfl, hb_i (hb_i (hb_i (hb_i (hb_i (hb_i (hb_i (hb_i hb0 e6) e11) e15) d4) d8) d12) d17) d21, fr_i (fr_i (fr_i (fr_i (fr_i (fr_i (fr_i (fr_i fr_0 e6 (by omega)) e11 (by omega)) e15 (by omega)) d4 (by omega)) d8 (by omega)) d12 (by omega)) d17 (by omega)) d21 (by omega), mv_i d21, ?_, ?_, ?_, ?_, ?_, ?_, ?_⟩
    · rw [mm_i d21 (by omega), mm_i d17 (by omega), mm_i d12 (by omega), mm_i d8 (by omega), mv_i d4]
    · rw [mm_i d21 (by omega), mm_i d17 (by omega), mm_i d12 (by omega), mv_i d8]
    · rw [mm_i d21 (by omega), mm_i d17 (by omega), mv_i d12]
    · rw [mm_i d21 (by omega), mv_i d17]
    · rw [mm_i d21 (by omega), mm_i d17 (by omega), mm_i d12 (by omega), mm_i d8 (by omega), mm_i d4 (by omega), mv_i e15]
    · rw [mm_i d21 (by omega), mm_i d17 (by omega), mm_i d12 (by omega), mm_i d8 (by omega), mm_i d4 (by omega), mm_i e15 (by omega), mm_i e11 (by omega), mv_i e6]
    · rw [mm_i d21 (by omega), mm_i d17 (by omega), mm_i d12 (by omega), mm_i d8 (by omega), mm_i d4 (by omega), mm_i e15 (by omega), mv_i e11]
  exact ⟨fun _ => ⟨fun _ => key, fun w => ⟨fun _ => key, fun w2 => by omega⟩⟩, fun w => by omega⟩
/-- a : or ] of the innermost [, a } of the innermost { -/
theorem t_Parts_addMark {G : cx_T} {s n d o l : Nat} {h : ah_T} {K : Int} (hb0 : hb s h) (hn : h.2.1 9 4 = (n : Int)) (hn2 : n < 2000) (hd : h.2.1 9 7 = (d : Int)) (hd7 : d ≤ 7) (hK : K = 58 ∨ K = 93 ∨ K = 125) (ho : 0 < d → h.2.1 14 (d - 1) = (o : Int) ∧ h.2.1 15 (d - 1) = (l : Int) ∧ o < n ∧ l < n) :
    con G 1 0 0 m_Parts_addMark [av_R (some 9), av_I K] h (fun r h' => hb s h' ∧ ((r = some (av_I 0) ∧ h' = h ∧ ¬ (0 < d ∧ h.2.1 10 o = (if K = 125 then 123 else 91))) ∨ (r = some (av_I 1) ∧ (0 < d ∧ h.2.1 10 o = (if K = 125 then 123 else 91)) ∧ fr (fun x k => (x = 9 ∧ (k = 4 ∨ k = 7)) ∨ ((x = 10 ∨ x = 11 ∨ x = 12 ∨ x = 13) ∧ k = n) ∨ (x = 11 ∧ k = l) ∨ (x = 15 ∧ k = d - 1)) h h' ∧ h'.2.1 9 4 = (n : Int) + 1 ∧ h'.2.1 10 n = K ∧ h'.2.1 11 n = (n : Int) ∧ h'.2.1 11 l = (n : Int) ∧ h'.2.1 15 (d - 1) = (n : Int) ∧ h'.2.1 9 7 = (if K = 58 then (d : Int) else (d : Int) - 1)))) := by
  refine c_Parts_addMark hb0 (fun _ => ?_)
  unfold B_Parts_addMark_0 B_Parts_addMark_29
  intro x1 e1 _ _
  obtain rfl : x1 = (d : Int) := e1.trans hd
  refine ⟨fun w => ⟨hb0, Or.inl ⟨rfl, rfl, fun q => by omega⟩⟩, fun w => ⟨fun w2 => by omega, fun _ x3 e3 _ _ => ⟨fun _ => ⟨⟨by omega, by omega⟩, ⟨by omega, by omega⟩, fun x9 e9 _ _ => ?_⟩, fun w2 => by omega⟩⟩⟩
  have ed : ((d : Int) - 1).toNat = d - 1 := by omega
  obtain ⟨ho1, ho2, ho3, ho4⟩ := ho (by omega)
  have e9' : x9 = (o : Int) := by rw [e9, ed, ho1]
  subst e9'
  refine ⟨⟨by omega, by omega⟩, ?_⟩
  rw [tn_c]
  intro x11 e11 _ _
  have key : ∀ t1, t1 = (if K = 125 then 123 else 91) → B_Parts_addMark_62 G s K ((d : Int) - 1) x11 t1 h (fun r h' => hb s h' ∧ ((r = some (av_I 0) ∧ h' = h ∧ ¬ (0 < d ∧ h.2.1 10 o = (if K = 125 then 123 else 91))) ∨ (r = some (av_I 1) ∧ (0 < d ∧ h.2.1 10 o = (if K = 125 then 123 else 91)) ∧ fr (fun x k => (x = 9 ∧ (k = 4 ∨ k = 7)) ∨ ((x = 10 ∨ x = 11 ∨ x = 12 ∨ x = 13) ∧ k = n) ∨ (x = 11 ∧ k = l) ∨ (x = 15 ∧ k = d - 1)) h h' ∧ h'.2.1 9 4 = (n : Int) + 1 ∧ h'.2.1 10 n = K ∧ h'.2.1 11 n = (n : Int) ∧ h'.2.1 11 l = (n : Int) ∧ h'.2.1 15 (d - 1) = (n : Int) ∧ h'.2.1 9 7 = (if K = 58 then (d : Int) else (d : Int) - 1)))) := by
    intro t1 et
    unfold B_Parts_addMark_62
    refine ⟨fun c => ⟨⟨by omega, by omega⟩, ?_⟩, fun c => ⟨hb0, Or.inl ⟨rfl, rfl, fun q => c (by rw [e11, et]; exact q.2)⟩⟩⟩
    rw [ed]
    intro y3 f3 _ _ y5 f5 _ _
    have f3' : y3 = (l : Int) := f3.trans ho2
    have f5' : y5 = (n : Int) := f5.trans hn
    subst f3' f5'
    refine ⟨⟨by omega, by omega⟩, ?_⟩
    rw [tn_c]
    intro h7 e7 h11 g11
    have hb11 := hb_i (hb_i hb0 e7) g11
    have q : ∀ x k, ¬ (x = 11 ∧ k = l) → ¬ (x = 15 ∧ k = d - 1) → h11.2.1 x k = h.2.1 x k := fun x k q1 q2 => (mm_i g11 q2).trans (mm_i e7 q1)
    refine con_mono (t_Parts_add hb11 (n := n) ((q _ _ (by omega) (by omega)).trans hn) hn2 (by omega) (by omega)) ?_
    rintro r h13 ⟨rfl, hb13, f13, a1, a2, a3, a4, a5⟩
    have fx := fr_t (W := fun x k => (x = 9 ∧ (k = 4 ∨ k = 7)) ∨ ((x = 10 ∨ x = 11 ∨ x = 12 ∨ x = 13) ∧ k = n) ∨ (x = 11 ∧ k = l) ∨ (x = 15 ∧ k = d - 1)) (fr_i (fr_i fr_0 e7 (by omega)) g11 (by omega)) f13 (fun x k w => by omega)
    have cc : 0 < d ∧ h.2.1 10 o = (if K = 125 then 123 else 91) := ⟨by omega, by rw [← e11, c, et]⟩
    have l11 : h13.2.1 11 l = (n : Int) := by rw [fr_g f13 (by omega), mm_i g11 (by omega), mv_i e7]
    have m15 : h13.2.1 15 (d - 1) = (n : Int) := by rw [fr_g f13 (by omega), mv_i g11]
    have d13 : h13.2.1 9 7 = (d : Int) := by rw [fr_g f13 (by omega), q _ _ (by omega) (by omega), hd]
    refine ⟨rfl, hb13, fun c5 => ?_, fun c5 x16 e16 _ _ => ⟨⟨by omega, by omega⟩, fun h18 e18 => ?_⟩⟩
    · unfold B_Parts_addMark_115
      exact ⟨hb13, Or.inr ⟨rfl, cc, fx, a1, a2, a5, l11, m15, by rw [if_pos c5]; exact d13⟩⟩
    · unfold B_Parts_addMark_115
      refine ⟨hb_i hb13 e18, Or.inr ⟨rfl, cc, fr_i fx e18 (by omega), ?_, ?_, ?_, ?_, ?_, ?_⟩⟩
      · rw [mm_i e18 (by omega), a1]
      · rw [mm_i e18 (by omega), a2]
      · rw [mm_i e18 (by omega), a5]
      · rw [mm_i e18 (by omega), l11]
      · rw [mm_i e18 (by omega), m15]
      · rw [mv_i e18, e16, d13, if_neg c5]
  exact ⟨fun c => key 123 (by rw [if_pos c]), fun c => key 91 (by rw [if_neg c])⟩

/-! ===== parts of a voice: what always holds of them ===== -/
def sgs (π : pm_T) (j : Nat) : Nat → Int
  | 0 => 0
  | n + 1 => sgs π j n + sgk (π (6 + n) j) (π (10 + n) j)
def SO (π : pm_T) (j : Nat) : Prop := (0 ≤ π 5 j ∧ π 5 j ≤ 4) ∧ 0 ≤ π 19 j ∧ (∀ p : Nat, (p : Int) < π 5 j → (-2 ≤ π (6 + p) j ∧ π (6 + p) j ≤ 109) ∧ 0 ≤ π (10 + p) j ∧ π (10 + p) j ≤ 62) ∧ π 17 j = sgs π j (π 5 j).toNat
def EVp (π : pm_T) (j : Nat) : Prop := ((1 ≤ π 2 j ∧ π 2 j ≤ 64) ∧ (0 ≤ π 3 j ∧ π 3 j ≤ 3) ∧ (π 4 j = 0 ∨ π 4 j = 1)) ∧ (0 ≤ π 18 j ∧ π 18 j < π 0 3) ∧ π 19 j + π 5 j ≤ π 0 4 ∧ SO π j
def PJ (π : pm_T) (j : Nat) : Prop := (0 ≤ π 14 j ∧ π 14 j < π 0 0) ∧ (π 1 j = 256 → EVp π j) ∧ (π 1 j = 123 → (1 ≤ π 2 j ∧ π 2 j ≤ 16) ∧ 1 ≤ π 3 j ∧ π 3 j ≤ 16)
def PD (π : pm_T) (d : Nat) : Prop := (0 ≤ π 15 d ∧ π 15 d < π 0 0) ∧ 0 ≤ π 16 d ∧ π 16 d < π 0 0
def PW (π : pm_T) : Prop := (0 ≤ π 0 0 ∧ (0 ≤ π 0 1 ∧ π 0 1 ≤ 7) ∧ (0 ≤ π 0 2 ∧ π 0 2 ≤ 300) ∧ (0 ≤ π 0 3 ∧ π 0 3 ≤ π 0 2) ∧ 0 ≤ π 0 4 ∧ π 0 4 ≤ π 0 2) ∧ (∀ d : Nat, (d : Int) < π 0 1 → PD π d) ∧ ∀ j : Nat, (j : Int) < π 0 0 → PJ π j
/-- a sound is being read -/
def PS (π : pm_T) : Prop := SO π (sz π) ∧ π 19 (sz π) + π 5 (sz π) = π 0 4 ∧ π 0 3 + π 5 (sz π) ≤ π 0 2
theorem sgs_c {π π' : pm_T} {j : Nat} : ∀ n, n ≤ 4 → (∀ a, 6 ≤ a → a ≤ 13 → π' a j = π a j) → sgs π' j n = sgs π j n
  | 0, _, _ => rfl
  | n + 1, hn, h => by rw [sgs, sgs, sgs_c n (by omega) h, h _ (by omega) (by omega), h _ (by omega) (by omega)]
theorem SO_c {π π' : pm_T} {j : Nat} (H : SO π j) (h : ∀ a, (5 ≤ a ∧ a ≤ 13) ∨ a = 17 ∨ a = 19 → π' a j = π a j) : SO π' j := by
  obtain ⟨h1, h2, h3, h4⟩ := H
  have e5 := h 5 (by omega)
  refine ⟨by rw [e5]; exact h1, by rw [h 19 (by omega)]; exact h2, fun p hp => ?_, ?_⟩
  · rw [e5] at hp
    rw [h (6 + p) (by omega), h (10 + p) (by omega)]
    exact h3 p hp
  · rw [h 17 (by omega), e5, h4]
    exact (sgs_c _ (by omega) (fun a _ _ => h a (by omega))).symm
theorem EVp_c {π π' : pm_T} {j : Nat} (H : EVp π j) (h : ∀ a, (2 ≤ a ∧ a ≤ 13) ∨ (17 ≤ a ∧ a ≤ 19) → π' a j = π a j) (h3 : π 0 3 ≤ π' 0 3) (h4 : π 0 4 ≤ π' 0 4) : EVp π' j := by
  obtain ⟨a1, a2, a3, a4⟩ := H
  refine ⟨by rw [h 2 (by omega), h 3 (by omega), h 4 (by omega)]; exact a1, by rw [h 18 (by omega)]; omega, by rw [h 19 (by omega), h 5 (by omega)]; omega, SO_c a4 (fun a q => h a (by omega))⟩
theorem PJ_c {π π' : pm_T} {j : Nat} (H : PJ π j) (h : ∀ a, (1 ≤ a ∧ a ≤ 13) ∨ (17 ≤ a ∧ a ≤ 19) → π' a j = π a j) (h14 : 0 ≤ π' 14 j ∧ π' 14 j < π' 0 0) (h3 : π 0 3 ≤ π' 0 3) (h4 : π 0 4 ≤ π' 0 4) : PJ π' j := by
  obtain ⟨a1, a2, a3⟩ := H
  refine ⟨h14, fun q => EVp_c (a2 (by rw [← h 1 (by omega)]; exact q)) (fun a w => h a (by omega)) h3 h4, fun q => ?_⟩
  rw [h 2 (by omega), h 3 (by omega)]
  exact a3 (by rw [← h 1 (by omega)]; exact q)
/-- rows that only a sound being read has -/
theorem PW_c {π π' : pm_T} (H : PW π) (h : ∀ a k, (k ≠ sz π ∧ (a ≠ 0 ∨ (k ≠ 2 ∧ k ≠ 4))) ∨ (14 ≤ a ∧ a ≤ 16) → π' a k = π a k) (h0 : π' 0 0 = π 0 0 ∧ π' 0 1 = π 0 1 ∧ π' 0 3 = π 0 3) (h2 : π 0 2 ≤ π' 0 2 ∧ π' 0 2 ≤ 300) (h4 : π 0 4 ≤ π' 0 4 ∧ π' 0 4 ≤ π' 0 2) : PW π' := by
  obtain ⟨⟨p0, p1, p2, p3, p4⟩, pd, pj⟩ := H
  obtain ⟨e0, e1, e3⟩ := h0
  refine ⟨⟨by omega, by omega, by omega, by omega, by omega⟩, fun d hd => ?_, fun j hj => ?_⟩
  · have := pd d (by omega)
    unfold PD at this ⊢
    rw [h 15 d (by omega), h 16 d (by omega), e0]; exact this
  · have hj' : (j : Int) < π 0 0 := by omega
    have nz : j ≠ sz π := by unfold sz; omega
    refine PJ_c (pj j hj') (fun a q => h a j (Or.inl ⟨nz, Or.inl (by omega)⟩)) ?_ (by omega) (by omega)
    rw [h 14 j (by omega), e0]; exact (pj j hj').1
theorem sz_up {π : pm_T} {a k : Nat} {z : Int} (h : ¬ (a = 0 ∧ k = 0)) : sz (up2 π a k z) = sz π := by
  unfold sz; rw [up2_o (fun q => h ⟨q.1.symm, q.2.symm⟩)]
theorem PW_snd0 {π : pm_T} (H : PW π) : PW (snd0 π) ∧ PS (snd0 π) ∧ sz (snd0 π) = sz π := by
  have es : sz (snd0 π) = sz π := by unfold snd0; rw [sz_up (by omega), sz_up (by omega), sz_up (by omega)]
  have g : ∀ a k, a ≠ 5 ∧ a ≠ 17 ∧ a ≠ 19 ∨ k ≠ sz π → snd0 π a k = π a k := fun a k q => by
    unfold snd0; rw [up2_o (by omega), up2_o (by omega), up2_o (by omega)]
  obtain ⟨p0, p1, p2, p3, p4⟩ := H.1
  have v5 : snd0 π 5 (sz π) = 0 := by unfold snd0; rw [up2_o (by omega), up2_o (by omega), up2_at]
  have v17 : snd0 π 17 (sz π) = 0 := by unfold snd0; rw [up2_o (by omega), up2_at]
  have v19 : snd0 π 19 (sz π) = π 0 4 := by unfold snd0; rw [up2_at]
  refine ⟨PW_c H (fun a k q => g a k (by omega)) ⟨g _ _ (by omega), g _ _ (by omega), g _ _ (by omega)⟩ ?_ ?_, ?_, es⟩
  · rw [g _ _ (by omega)]; omega
  · rw [g 0 4 (by omega), g 0 2 (by omega)]; omega
  · unfold PS SO
    rw [es, v5, v17, v19, g 0 4 (by omega), g 0 2 (by omega), g 0 3 (by omega)]
    exact ⟨⟨by omega, by omega, fun p hp => by omega, rfl⟩, by omega, by omega⟩
/-- one more admitted -/
def adm (π : pm_T) : pm_T := up2 π 0 2 (π 0 2 + 1)
theorem adm_o {π : pm_T} {a k : Nat} (h : ¬ (a = 0 ∧ k = 2)) : adm π a k = π a k := up2_o h
theorem sp_adm_a {t : tk_T} {i : Nat} {π : pm_T} (h : π 0 2 < 300) : sp_adm t i π = .inr (adm π) := by unfold sp_adm adm; rw [if_pos h]
theorem sp_adm_n {t : tk_T} {i : Nat} {π : pm_T} (h : ¬ π 0 2 < 300) : sp_adm t i π = .inl (3, tP t i) := by unfold sp_adm; rw [if_neg h]
theorem adm_2 {π : pm_T} : adm π 0 2 = π 0 2 + 1 := up2_at
theorem sz_adm {π : pm_T} : sz (adm π) = sz π := sz_up (by omega)
theorem PW_adm {π : pm_T} (H : PW π) (S : PS π) (h : π 0 2 < 300) : PW (adm π) ∧ PS (adm π) := by
  obtain ⟨p0, p1, p2, p3, p4⟩ := H.1
  refine ⟨PW_c H (fun a k q => adm_o (by omega)) ⟨adm_o (by omega), adm_o (by omega), adm_o (by omega)⟩ ?_ ?_, ?_⟩
  · rw [adm_2]; omega
  · rw [adm_2, adm_o (by omega)]; omega
  · obtain ⟨s1, s2, s3⟩ := S
    unfold PS
    rw [sz_adm, adm_o (by omega), adm_o (by omega), adm_o (by omega), adm_o (by omega), adm_2]
    exact ⟨SO_c s1 (fun a q => adm_o (by omega)), s2, by omega⟩
theorem pch_5 {t : tk_T} {i : Nat} {g : Int} {π : pm_T} : pch t i g π 5 (sz π) = π 5 (sz π) + 1 := by unfold pch; rw [up2_o (by omega), up2_at]
theorem pch_4 {t : tk_T} {i : Nat} {g : Int} {π : pm_T} : pch t i g π 0 4 = π 0 4 + 1 := by unfold pch; rw [up2_at]
theorem pch_17 {t : tk_T} {i : Nat} {g : Int} {π : pm_T} : pch t i g π 17 (sz π) = π 17 (sz π) + g := by unfold pch; rw [up2_o (by omega), up2_o (by omega), up2_at]
theorem pch_k {t : tk_T} {i : Nat} {g : Int} {π : pm_T} {n : Nat} (h : π 5 (sz π) = (n : Int)) (hn : n ≤ 3) : pch t i g π (6 + n) (sz π) = tV' t i ∧ pch t i g π (10 + n) (sz π) = tS t i := by
  unfold pch
  have e : (π 5 (sz π)).toNat = n := by omega
  rw [e]
  refine ⟨?_, ?_⟩
  · rw [up2_o (by omega), up2_o (by omega), up2_o (by omega), up2_o (by omega), up2_at]
  · rw [up2_o (by omega), up2_o (by omega), up2_o (by omega), up2_at]
theorem pch_o {t : tk_T} {i : Nat} {g : Int} {π : pm_T} {a k n : Nat} (h : π 5 (sz π) = (n : Int)) (q0 : ¬ (a = 0 ∧ k = 4)) (q : k ≠ sz π ∨ (a ≠ 5 ∧ a ≠ 17 ∧ a ≠ 6 + n ∧ a ≠ 10 + n)) : pch t i g π a k = π a k := by
  unfold pch
  have e : (π 5 (sz π)).toNat = n := by omega
  rw [e, up2_o (by omega), up2_o (by omega), up2_o (by omega), up2_o (by omega), up2_o (by omega)]
theorem sz_pch {t : tk_T} {i : Nat} {g : Int} {π : pm_T} : sz (pch t i g π) = sz π := by
  unfold pch; rw [sz_up (by omega), sz_up (by omega), sz_up (by omega), sz_up (by omega), sz_up (by omega)]
/-- a PITCH more; it is admitted already -/
theorem PW_pch {t : tk_T} {i : Nat} {π : pm_T} (H : PW π) (S : PS π) (h5 : π 5 (sz π) < 4) (ha : π 0 3 + π 5 (sz π) < π 0 2) (h4 : π 0 4 < π 0 2) (hk : (-2 ≤ tV' t i ∧ tV' t i ≤ 109) ∧ 0 ≤ tS t i ∧ tS t i ≤ 62) : PW (pch t i (sgt t i) π) ∧ PS (pch t i (sgt t i) π) := by
  obtain ⟨p0, p1, p2, p3, p4⟩ := H.1
  obtain ⟨⟨s1, s2, s3, s4⟩, s5, s6⟩ := S
  obtain ⟨n, en⟩ : ∃ n : Nat, π 5 (sz π) = (n : Int) := ⟨(π 5 (sz π)).toNat, by omega⟩
  have hn : n ≤ 3 := by omega
  refine ⟨PW_c H (fun a k q => pch_o en (by omega) (by omega)) ⟨pch_o en (by omega) (by omega), pch_o en (by omega) (by omega), pch_o en (by omega) (by omega)⟩ ?_ ?_, ?_⟩
  · rw [pch_o en (by omega) (by omega)]; omega
  · rw [pch_4, pch_o en (by omega) (by omega)]; omega
  · unfold PS SO
    rw [sz_pch, pch_5, pch_17, pch_4, pch_o en (by omega) (by omega), pch_o en (by omega) (by omega), pch_o en (by omega) (by omega)]
    refine ⟨⟨by omega, s2, fun p hp => ?_, ?_⟩, by omega, by omega⟩
    · by_cases hc : p = n
      · subst hc
        rw [(pch_k en hn).1, (pch_k en hn).2]; exact hk
      · rw [pch_o en (by omega) (by omega), pch_o en (by omega) (by omega)]
        exact s3 p (by omega)
    · have e1 : (π 5 (sz π) + 1).toNat = n + 1 := by omega
      have e2 : (π 5 (sz π)).toNat = n := by omega
      rw [e1, sgs, (pch_k en hn).1, (pch_k en hn).2, s4, e2]
      congr 1
      have : ∀ k, k ≤ n → sgs (pch t i (sgt t i) π) (sz π) k = sgs π (sz π) k := by
        intro k
        induction k with
        | zero => intro _; rfl
        | succ k ih => intro hk'; rw [sgs, sgs, ih (by omega), pch_o en (by omega) (by omega), pch_o en (by omega) (by omega)]
      exact (this n (Nat.le_refl n)).symm
