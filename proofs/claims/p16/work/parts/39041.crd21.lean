/-! ===== the class: a voice read, exact ===== -/
theorem RVo_f {μ : pm_T} {n v : Nat} {h h' : ah_T} {W : Nat → Nat → Prop} (H : RVo μ n v h) (f : fr W h h') (hW : ∀ (a k : Nat), W a k → a < v ∨ v + 13 < a) : RVo μ n v h' := by
  have g : ∀ a k, v ≤ a → a ≤ v + 13 → h'.2.1 a k = h.2.1 a k := fun a k q q2 => fr_g f (fun w => by have := hW a k w; omega)
  have gl : ∀ a k, v ≤ a → a ≤ v + 13 → h'.2.2.1 a k = h.2.2.1 a k := fun a k q q2 => fr_gl f (fun w => by have := hW a k w; omega)
  obtain ⟨h1, h2, h3, h4, h5⟩ := H
  refine ⟨by rw [g _ _ (by omega) (by omega), g _ _ (by omega) (by omega)]; exact h1, by rw [gl _ _ (by omega) (by omega), gl _ _ (by omega) (by omega)]; exact h2, fun e he => ?_, fun b hb => by rw [g _ _ (by omega) (by omega)]; exact h4 b hb, by rw [g _ _ (by omega) (by omega)]; exact h5⟩
  obtain ⟨b, q, y1, y2, y3, y4, y5, y6, y7⟩ := h3 e he
  refine ⟨b, q, y1, by rw [g _ _ (by omega) (by omega)]; exact y2, by rw [g _ _ (by omega) (by omega)]; exact y3, by rw [gl _ _ (by omega) (by omega), gl _ _ (by omega) (by omega), gl _ _ (by omega) (by omega), gl _ _ (by omega) (by omega)]; exact y4, by rw [g _ _ (by omega) (by omega), g _ _ (by omega) (by omega)]; exact y5, by rw [g _ _ (by omega) (by omega), g _ _ (by omega) (by omega), g _ _ (by omega) (by omega)]; exact y6, fun p hp => by rw [g _ _ (by omega) (by omega), g _ _ (by omega) (by omega)]; exact y7 p hp⟩
/-- rows of one voice -/
def vrow (n a : Nat) : Prop := a = 10 + n ∨ (100 + 40 * n ≤ a ∧ a < 140 + 40 * n)
theorem sgm_c {μ μ' : pm_T} {R e : Nat} : ∀ n, n ≤ 4 → (∀ w, w < 40 → μ' (R + w) e = μ (R + w) e) → sgm μ' R e n = sgm μ R e n
  | 0, _, _ => rfl
  | n + 1, hn, h => by rw [sgm, sgm, sgm_c n (by omega) h, h _ (by omega), h _ (by omega)]
theorem RVo_m {μ μ' : pm_T} {n v : Nat} {h : ah_T} (H : RVo μ n v h) (M : MVo μ n) (e : ∀ a k, vrow n a → μ' a k = μ a k) : RVo μ' n v h ∧ MVo μ' n := by
  have e1 : ∀ k, μ' (10 + n) k = μ (10 + n) k := fun k => e _ k (Or.inl rfl)
  have e2 : ∀ w k, w < 40 → μ' (100 + 40 * n + w) k = μ (100 + 40 * n + w) k := fun w k hw => e _ k (Or.inr ⟨by omega, by omega⟩)
  unfold RVo MVo
  rw [e1, e1, e2 31 _ (by decide), e2 31 _ (by decide)]
  obtain ⟨h1, h2, h3, h4, h5⟩ := H
  obtain ⟨m1, m2, m3, m4, m5⟩ := M
  refine ⟨⟨h1, h2, fun k hk => ?_, fun b hb => by rw [e2 30 _ (by decide)]; exact h4 b hb, h5⟩, m1, m2, m3, fun k hk => ?_, fun b hb => by rw [e2 30 _ (by decide)]; exact m5 b hb⟩
  · obtain ⟨b, q, y1, y2, y3, y4, y5, y6, y7⟩ := h3 k hk
    obtain ⟨u1, -⟩ := m4 k hk
    unfold RVe
    rw [e2 0 _ (by decide), e2 1 _ (by decide), e2 2 _ (by decide), e2 3 _ (by decide), e2 4 _ (by decide), e2 5 _ (by decide), e2 6 _ (by decide), e2 7 _ (by decide), e2 8 _ (by decide)]
    exact ⟨b, q, y1, y2, y3, y4, y5, y6, fun p hp => by rw [e2 _ _ (by omega), e2 _ _ (by omega)]; exact y7 p hp⟩
  · obtain ⟨u1, u2, u3, u4, u5, u6, u7, u8⟩ := m4 k hk
    unfold MVe
    rw [e2 0 _ (by decide), e2 1 _ (by decide), e2 2 _ (by decide), e2 3 _ (by decide), e2 4 _ (by decide), e2 5 _ (by decide), e2 7 _ (by decide), e2 8 _ (by decide), e2 9 _ (by decide)]
    exact ⟨u1, u2, u3, u4, u5, u6, fun p hp => by rw [e2 _ _ (by omega), e2 _ _ (by omega)]; exact u7 p hp, by rw [u8]; exact (sgm_c _ (by omega) (fun w hw => e2 w k hw)).symm⟩
/-- all voices told -/
def RVs (μ : pm_T) (s : Nat) (h : ah_T) : Prop := ∀ n : Nat, (n : Int) < μ 0 7 → RVo μ n (s + 7 + 14 * n) h ∧ MVo μ n
theorem RVs_f {μ : pm_T} {s : Nat} {h h' : ah_T} {W : Nat → Nat → Prop} (H : RVs μ s h) (h4 : μ 0 7 ≤ 4) (f : fr W h h') (hW : ∀ (a k : Nat), W a k → a < s + 7 ∨ s + 62 < a) : RVs μ s h' := fun n hn =>
  ⟨RVo_f (H n hn).1 f (fun a k w => by have := hW a k w; omega), (H n hn).2⟩
theorem RVs_m {μ μ' : pm_T} {s : Nat} {h : ah_T} (H : RVs μ s h) (e7 : μ' 0 7 = μ 0 7) (e : ∀ a k, 10 ≤ a → μ' a k = μ a k) : RVs μ' s h := fun n hn =>
  RVo_m (H n (by omega)).1 (H n (by omega)).2 (fun a k w => e a k (by unfold vrow at w; omega))
/-- the tokens, the score with its voices; no fault -/
def RCv (t : tk_T) (m i : Nat) (μ : pm_T) (s : Nat) (h : ah_T) : Prop := RCs t m i μ s h ∧ RVs μ s h
abbrev WX (s : Nat) : Nat → Nat → Prop := fun a k => (a = 3 ∧ (k = 5 ∨ 9 ≤ k)) ∨ a = 2 ∨ (9 ≤ a ∧ a ≤ 16) ∨ (s ≤ a ∧ a ≤ s + 62)
def PIc (t : tk_T) (m s : Nat) (R : F_T ⊕ (Nat × pm_T)) (z : Int) (h' : ah_T) : Prop := match R with
  | .inl q => z = 0 ∧ h'.2.1 2 6 = q.1 ∧ h'.2.1 2 7 = q.2
  | .inr q => z = 1 ∧ RCv t m q.1 q.2 s h'
abbrev QI (t : tk_T) (m s : Nat) (R : F_T ⊕ (Nat × pm_T)) (h : ah_T) : Option av_T → ah_T → Prop := fun r h' => ∃ z, r = some (av_I z) ∧ hb s h' ∧ fr (WX s) h h' ∧ (z = 0 ∨ z = 1) ∧ PIc t m s R z h'
theorem t_voice {G : cx_T} {s : Nat} {h : ah_T} {t : tk_T} {m i : Nat} {μ : pm_T} (hb0 : hb s h) (hT : TG t m) (H : RCv t m i μ s h) (hg : gk (tK t i)) : con G 22 0 0 m_Reader_readVoice [av_R (some 2)] h (QI t m s (sp_voice t i μ) h) := by
  have hs : s = 17 ∨ s = 80 := hb0.2.1
  obtain ⟨H, HV⟩ := H
  have b7 := H.2.1.2.1.2.2.2.2
  have im : i < m ∧ m ≤ 2001 := ⟨H.1.2.2.1, H.1.2.2.2.1⟩
  by_cases h74 : μ 0 7 < 4
  case neg =>
    have es : sp_voice t i μ = .inl (3, tP t i) := by unfold sp_voice; rw [if_neg h74]
    refine c_Reader_readVoice (X51 := fun _ _ _ _ _ => False) (fun _ _ _ _ _ _ _ w => w.elim) hb0 ?_
    unfold B_Reader_readVoice_0
    intro x2 y2 _ _
    refine con_mono (t_Score_newVoice hb0 H) ?_
    rintro r h4 ⟨hb4, ⟨w, ew, hw, h7, rfl, H4, f4, q1, q2, q3⟩ | ⟨h7, rfl, rfl⟩⟩
    · exact absurd h7 h74
    · refine ⟨none, rfl, hb4, Or.inl ⟨rfl, ?_⟩⟩
      refine con_mono (tt_Reader_blame hb4) ?_
      rintro r h14 ⟨z, rfl, hb14, f14, rfl, w1, w2⟩
      exact ⟨0, rfl, hb14, Or.inl rfl, 0, rfl, hb14, fr_w f14 (fun a k w => by omega), Or.inl rfl, by rw [es]; exact ⟨rfl, w1, by rw [w2, y2, (RCs_b H).2.1]⟩⟩
  refine con_mono (t_Reader_readVoice (T := fun π h' => TW π (s + 7 + 14 * (μ 0 7).toNat) h' ∧ RPc π (s + 7 + 14 * (μ 0 7).toNat) h' ∧ PW π) hb0 hT H hg ?_ ?_) ?_
  · rintro π h1 h' ⟨T1, R1, P1⟩ f
    obtain ⟨x1, x2, x3, x4, x5⟩ := T1
    exact ⟨⟨WKe_f x1 f (fun a k w => by omega), x2, x3, by rw [fr_g f (by omega)]; exact x4, by rw [fr_g f (by omega)]; exact x5⟩, RPc_t R1 P1 f (by omega), P1⟩
  · intro π hh j f hb1 h4 R P hz e
    have hv : isV (s + 7 + 14 * (μ 0 7).toNat) := by unfold isV; omega
    refine con_mono (t_Parts_walkInto hv hb1 R P hz (sp_parts_RG e).1) ?_
    rintro r h' ⟨z, rfl, hb2, f2, ez, hz2⟩
    exact ⟨z, rfl, hb2, f2, ez, fun z0 => ⟨(hz2 z0).2, (hz2 z0).1, P⟩⟩
  · rintro r h' ⟨z, rfl, hb2, f2, z01, p2⟩
    have h4 : μ 0 7 ≤ 4 := b7.2
    refine ⟨z, rfl, hb2, fr_w f2 (fun a k w => by omega), z01, ?_⟩
    rcases n1 : sp_voice t i μ with q | q
    · rw [n1] at p2; exact p2
    · rw [n1] at p2
      obtain ⟨rfl, H2, π, ⟨T1, R1, P1⟩, -, eq⟩ := p2
      refine ⟨rfl, H2, fun n hn => ?_⟩
      have e7 : q.2 0 7 = μ 0 7 + 1 := by rw [eq, addV_7]
      have h3 : μ 0 7 ≤ 3 := by have := H2.2.1.2.1.2.2.2.2; omega
      by_cases c : n = (μ 0 7).toNat
      · rw [eq, c]
        exact MVo_w rfl T1 R1 P1
      · have hn2 : (n : Int) < μ 0 7 := by omega
        obtain ⟨a1, a2⟩ := HV n hn2
        rw [eq]
        exact RVo_m (RVo_f a1 f2 (fun a k w => by omega)) a2 (fun a k w => addV_b (n := n) (by omega) w (by omega))
