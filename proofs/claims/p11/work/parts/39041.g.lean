/-! ===== the class: a voice read, exact ===== -/
theorem RVo_f {μ : pm_T} {n v : Nat} {h h' : ah_T} {W : Nat → Nat → Prop} (H : RVo μ n v h) (f : fr W h h') (hW : ∀ (a k : Nat), W a k → a < v ∨ v + 13 < a) : RVo μ n v h' := by
  have g : ∀ a k, v ≤ a → a ≤ v + 13 → h'.2.1 a k = h.2.1 a k := fun a k q q2 => fr_g f (fun w => by have := hW a k w; omega)
  have gl : ∀ a k, v ≤ a → a ≤ v + 13 → h'.2.2.1 a k = h.2.2.1 a k := fun a k q q2 => fr_gl f (fun w => by have := hW a k w; omega)
  obtain ⟨h1, h2, h3, h4, h5⟩ := H
  refine ⟨by rw [g _ _ (by omega) (by omega), g _ _ (by omega) (by omega)]; exact h1, by rw [gl _ _ (by omega) (by omega), gl _ _ (by omega) (by omega)]; exact h2, fun e he => ?_, fun b hb => by rw [g _ _ (by omega) (by omega)]; exact h4 b hb, by rw [g _ _ (by omega) (by omega)]; exact h5⟩
  obtain ⟨b, q, y1, y2, y3, y4, y5, y6, y7⟩ := h3 e he
  refine ⟨b, q, y1, by rw [g _ _ (by omega) (by omega)]; exact y2, by rw [g _ _ (by omega) (by omega)]; exact y3, by rw [gl _ _ (by omega) (by omega), gl _ _ (by omega) (by omega), gl _ _ (by omega) (by omega), gl _ _ (by omega) (by omega)]; exact y4, by rw [g _ _ (by omega) (by omega), g _ _ (by omega) (by omega)]; exact y5, by rw [g _ _ (by omega) (by omega), g _ _ (by omega) (by omega), g _ _ (by omega) (by omega)]; exact y6, fun p hp => by rw [g _ _ (by omega) (by omega), g _ _ (by omega) (by omega)]; exact y7 p hp⟩
/-- rows of one voice -/
def vrow (n a : Nat) : Prop := a = 10 + n ∨ (100 + 40 * n ≤ a ∧ a < 140 + 40 * n)
theorem sgm_c {μ μ' : pm_T} {R e : Nat} : ∀ n, n ≤ 4 → (∀ w, w < 40 → μ' (R + w) e = μ (R + w) e) → sgm μ' R e n = sgm μ R e n
  | 0, _, _ => rfl
  | n + 1, hn, h => by rw [sgm, sgm, sgm_c n (by omega) h, h _ (by omega), h _ (by omega)]
theorem RVo_m {μ μ' : pm_T} {n v : Nat} {h : ah_T} (H : RVo μ n v h) (M : MVo μ n) (e : ∀ a k, vrow n a → μ' a k = μ a k) : RVo μ' n v h ∧ MVo μ' n := by
  have e1 : ∀ k, μ' (10 + n) k = μ (10 + n) k := fun k => e _ k (Or.inl rfl)
  have e2 : ∀ w k, w < 40 → μ' (100 + 40 * n + w) k = μ (100 + 40 * n + w) k := fun w k hw => e _ k (Or.inr ⟨by omega, by omega⟩)
  unfold RVo MVo
  rw [e1, e1, e2 31 _ (by decide), e2 31 _ (by decide)]
  obtain ⟨h1, h2, h3, h4, h5⟩ := H
  obtain ⟨m1, m2, m3, m4, m5⟩ := M
  refine ⟨⟨h1, h2, fun k hk => ?_, fun b hb => by rw [e2 30 _ (by decide)]; exact h4 b hb, h5⟩, m1, m2, m3, fun k hk => ?_, fun b hb => by rw [e2 30 _ (by decide)]; exact m5 b hb⟩
  · obtain ⟨b, q, y1, y2, y3, y4, y5, y6, y7⟩ := h3 k hk
    obtain ⟨u1, -⟩ := m4 k hk
    unfold RVe
    rw [e2 0 _ (by decide), e2 1 _ (by decide), e2 2 _ (by decide), e2 3 _ (by decide), e2 4 _ (by decide), e2 5 _ (by decide), e2 6 _ (by decide), e2 7 _ (by decide), e2 8 _ (by decide)]
    exact ⟨b, q, y1, y2, y3, y4, y5, y6, fun p hp => by rw [e2 _ _ (by omega), e2 _ _ (by omega)]; exact y7 p hp⟩
  · obtain ⟨u1, u2, u3, u4, u5, u6, u7, u8⟩ := m4 k hk
    unfold MVe
    rw [e2 0 _ (by decide), e2 1 _ (by decide), e2 2 _ (by decide), e2 3 _ (by decide), e2 4 _ (by decide), e2 5 _ (by decide), e2 7 _ (by decide), e2 8 _ (by decide), e2 9 _ (by decide)]
    exact ⟨u1, u2, u3, u4, u5, u6, fun p hp => by rw [e2 _ _ (by omega), e2 _ _ (by omega)]; exact u7 p hp, by rw [u8]; exact (sgm_c _ (by omega) (fun w hw => e2 w k hw)).symm⟩
/-- all voices told -/
def RVs (μ : pm_T) (s : Nat) (h : ah_T) : Prop := ∀ n : Nat, (n : Int) < μ 0 7 → RVo μ n (s + 7 + 14 * n) h ∧ MVo μ n
theorem RVs_f {μ : pm_T} {s : Nat} {h h' : ah_T} {W : Nat → Nat → Prop} (H : RVs μ s h) (h4 : μ 0 7 ≤ 4) (f : fr W h h') (hW : ∀ (a k : Nat), W a k → a < s + 7 ∨ s + 62 < a) : RVs μ s h' := fun n hn =>
  ⟨RVo_f (H n hn).1 f (fun a k w => by have := hW a k w; omega), (H n hn).2⟩
theorem RVs_m {μ μ' : pm_T} {s : Nat} {h : ah_T} (H : RVs μ s h) (e7 : μ' 0 7 = μ 0 7) (e : ∀ a k, 10 ≤ a → μ' a k = μ a k) : RVs μ' s h := fun n hn =>
  RVo_m (H n (by omega)).1 (H n (by omega)).2 (fun a k w => e a k (by unfold vrow at w; omega))
/-- the tokens, the score with its voices; no fault -/
def RCv (t : tk_T) (m i : Nat) (μ : pm_T) (s : Nat) (h : ah_T) : Prop := RCs t m i μ s h ∧ RVs μ s h
abbrev WX (s : Nat) : Nat → Nat → Prop := fun a k => (a = 3 ∧ (k = 5 ∨ 9 ≤ k)) ∨ a = 2 ∨ (9 ≤ a ∧ a ≤ 16) ∨ (s ≤ a ∧ a ≤ s + 62)
def PIc (t : tk_T) (m s : Nat) (R : F_T ⊕ (Nat × pm_T)) (z : Int) (h' : ah_T) : Prop := match R with
  | .inl q => z = 0 ∧ h'.2.1 2 6 = q.1 ∧ h'.2.1 2 7 = q.2
  | .inr q => z = 1 ∧ RCv t m q.1 q.2 s h'
abbrev QI (t : tk_T) (m s : Nat) (R : F_T ⊕ (Nat × pm_T)) (h : ah_T) : Option av_T → ah_T → Prop := fun r h' => ∃ z, r = some (av_I z) ∧ hb s h' ∧ fr (WX s) h h' ∧ (z = 0 ∨ z = 1) ∧ PIc t m s R z h'
theorem t_voice {G : cx_T} {s : Nat} {h : ah_T} {t : tk_T} {m i : Nat} {μ : pm_T} (hb0 : hb s h) (hT : TG t m) (H : RCv t m i μ s h) (hg : gk (tK t i)) : con G 22 0 0 m_Reader_readVoice [av_R (some 2)] h (QI t m s (sp_voice t i μ) h) := by
  have hs : s = 17 ∨ s = 80 := hb0.2.1
  obtain ⟨H, HV⟩ := H
  have b7 := H.2.1.2.1.2.2.2.2
  have im : i < m ∧ m ≤ 2001 := ⟨H.1.2.2.1, H.1.2.2.2.1⟩
  by_cases h74 : μ 0 7 < 4
  case neg =>
    have es : sp_voice t i μ = .inl (3, tP t i) := by unfold sp_voice; rw [if_neg h74]
    refine c_Reader_readVoice (X51 := fun _ _ _ _ _ => False) (fun _ _ _ _ _ _ _ w => w.elim) hb0 ?_
    unfold B_Reader_readVoice_0
    intro x2 y2 _ _
    refine con_mono (t_Score_newVoice hb0 H) ?_
    rintro r h4 ⟨hb4, ⟨w, ew, hw, h7, rfl, H4, f4, q1, q2, q3⟩ | ⟨h7, rfl, rfl⟩⟩
    · exact absurd h7 h74
    · refine ⟨none, rfl, hb4, Or.inl ⟨rfl, ?_⟩⟩
      refine con_mono (tt_Reader_blame hb4) ?_
      rintro r h14 ⟨z, rfl, hb14, f14, rfl, w1, w2⟩
      exact ⟨0, rfl, hb14, Or.inl rfl, 0, rfl, hb14, fr_w f14 (fun a k w => by omega), Or.inl rfl, by rw [es]; exact ⟨rfl, w1, by rw [w2, y2, (RCs_b H).2.1]⟩⟩
  refine con_mono (t_Reader_readVoice (T := fun π h' => TW π (s + 7 + 14 * (μ 0 7).toNat) h' ∧ RPc π (s + 7 + 14 * (μ 0 7).toNat) h' ∧ PW π) hb0 hT H hg ?_ ?_) ?_
  · rintro π h1 h' ⟨T1, R1, P1⟩ f
    obtain ⟨x1, x2, x3, x4, x5⟩ := T1
    exact ⟨⟨WKe_f x1 f (fun a k w => by omega), x2, x3, by rw [fr_g f (by omega)]; exact x4, by rw [fr_g f (by omega)]; exact x5⟩, RPc_t R1 P1 f (by omega), P1⟩
  · intro π hh j f hb1 h4 R P hz e
    have hv : isV (s + 7 + 14 * (μ 0 7).toNat) := by unfold isV; omega
    refine con_mono (t_Parts_walkInto hv hb1 R P hz (sp_parts_RG e).1) ?_
    rintro r h' ⟨z, rfl, hb2, f2, ez, hz2⟩
    exact ⟨z, rfl, hb2, f2, ez, fun z0 => ⟨(hz2 z0).2, (hz2 z0).1, P⟩⟩
  · rintro r h' ⟨z, rfl, hb2, f2, z01, p2⟩
    have h4 : μ 0 7 ≤ 4 := b7.2
    refine ⟨z, rfl, hb2, fr_w f2 (fun a k w => by omega), z01, ?_⟩
    rcases n1 : sp_voice t i μ with q | q
    · rw [n1] at p2; exact p2
    · rw [n1] at p2
      obtain ⟨rfl, H2, π, ⟨T1, R1, P1⟩, -, eq⟩ := p2
      refine ⟨rfl, H2, fun n hn => ?_⟩
      have e7 : q.2 0 7 = μ 0 7 + 1 := by rw [eq, addV_7]
      have h3 : μ 0 7 ≤ 3 := by have := H2.2.1.2.1.2.2.2.2; omega
      by_cases c : n = (μ 0 7).toNat
      · rw [eq, c]
        exact MVo_w rfl T1 R1 P1
      · have hn2 : (n : Int) < μ 0 7 := by omega
        obtain ⟨a1, a2⟩ := HV n hn2
        rw [eq]
        exact RVo_m (RVo_f a1 f2 (fun a k w => by omega)) a2 (fun a k w => addV_b (n := n) (by omega) w (by omega))

/-! ===== the reference's reader: items but voices ===== -/
theorem ek_0 {K : Int} : ek K = 0 ↔ K = 256 := by unfold ek; (repeat' split) <;> omega
theorem ek_6 {K : Int} : ek K = 6 ↔ K = 257 := by unfold ek; (repeat' split) <;> omega
theorem ek_1 {K : Int} : ek K = 1 ↔ K = 258 := by unfold ek; (repeat' split) <;> omega
theorem ek_3 {K : Int} : ek K = 3 ↔ K = 259 := by unfold ek; (repeat' split) <;> omega
theorem ek_2 {K : Int} : ek K = 2 ↔ K = 260 := by unfold ek; (repeat' split) <;> omega
theorem ek_4 {K : Int} : ek K = 4 ↔ (261 ≤ K ∧ K ≤ 266) := by unfold ek; (repeat' split) <;> omega
theorem ek_5 {K : Int} : ek K = 5 ↔ ¬ (256 ≤ K ∧ K ≤ 266) := by unfold ek; (repeat' split) <;> omega
def nz (x : Int) : Int := if x = -1 then -2 else x
/-- the score that is read, in the second half of the reference's rows -/
def RSn (μ : pm_T) (h : ah_T) : Prop := (h.2.1 173 1 = μ 0 1 ∧ h.2.1 174 1 = μ 0 2 ∧ h.2.1 175 1 = μ 0 3 ∧ h.2.1 177 1 = μ 0 4 ∧ h.2.1 181 1 = μ 0 5 ∧ h.2.1 183 1 = μ 0 6 ∧ h.2.1 172 1 = μ 0 7) ∧
  ((0 ≤ μ 0 3 ∧ μ 0 3 ≤ 8) ∧ (0 ≤ μ 0 4 ∧ μ 0 4 ≤ 24) ∧ (0 ≤ μ 0 5 ∧ μ 0 5 ≤ 12) ∧ (0 ≤ μ 0 6 ∧ μ 0 6 ≤ 16) ∧ (0 ≤ μ 0 7 ∧ μ 0 7 ≤ 4)) ∧
  (∀ j : Nat, (j : Int) < μ 0 3 → h.2.1 176 (8 + j) = μ 1 j) ∧ (∀ j : Nat, (j : Int) < μ 0 4 → h.2.1 178 (24 + j) = μ 2 j ∧ h.2.1 179 (24 + j) = μ 3 j ∧ h.2.1 180 (24 + j) = nz (μ 4 j)) ∧ (∀ j : Nat, (j : Int) < μ 0 5 → h.2.1 182 (12 + j) = μ 5 j) ∧ (∀ j : Nat, (j : Int) < μ 0 6 → h.2.2.1 184 (16 + j) = μ 6 j)
def RH (μ : pm_T) (h : ah_T) : Prop := h.2.1 170 59 = μ 0 0 ∧ (h.2.1 170 60 = 0 ↔ μ 0 3 ≤ 0) ∧ (h.2.1 170 61 = 0 ↔ μ 0 5 ≤ 0)
theorem RSn_f {μ : pm_T} {W : Nat → Nat → Prop} {h h' : ah_T} (H : RSn μ h) (f : fr W h h') (hW : ∀ a k, W a k → a < 172 ∨ 184 < a) : RSn μ h' := by
  have g : ∀ a k, 172 ≤ a → a ≤ 184 → h'.2.1 a k = h.2.1 a k := fun a k h1 h2 => fr_g f (fun q => by have := hW a k q; omega)
  have gl : ∀ k, h'.2.2.1 184 k = h.2.2.1 184 k := fun k => fr_gl f (fun q => by have := hW _ k q; omega)
  obtain ⟨a1, a2, a3, a4, a5, a6⟩ := H
  refine ⟨?_, a2, fun j hj => ?_, fun j hj => ?_, fun j hj => ?_, fun j hj => ?_⟩
  · rw [g _ _ (by decide) (by decide), g _ _ (by decide) (by decide), g _ _ (by decide) (by decide), g _ _ (by decide) (by decide), g _ _ (by decide) (by decide), g _ _ (by decide) (by decide), g _ _ (by decide) (by decide)]; exact a1
  · rw [g _ _ (by decide) (by decide)]; exact a3 j hj
  · rw [g _ _ (by decide) (by decide), g _ _ (by decide) (by decide), g _ _ (by decide) (by decide)]; exact a4 j hj
  · rw [g _ _ (by decide) (by decide)]; exact a5 j hj
  · rw [gl]; exact a6 j hj
theorem RH_f {μ : pm_T} {W : Nat → Nat → Prop} {h h' : ah_T} (H : RH μ h) (f : fr W h h') (hW : ∀ k, 59 ≤ k → k ≤ 61 → ¬ W 170 k) : RH μ h' := by
  unfold RH
  rw [fr_g f (hW 59 (by decide) (by decide)), fr_g f (hW 60 (by decide) (by decide)), fr_g f (hW 61 (by decide) (by decide))]
  exact H
abbrev tx_T : Type := (Nat → Int) × Nat × tk_T × Nat × (Nat → Nat) × (Nat → Nat)
/-- the text X: bytes, how many, table, how many tokens, places, ends -/
def RMs (X : tx_T) (i : Nat) (μ : pm_T) (h : ah_T) : Prop := RMt X.1 X.2.1 X.2.2.1 X.2.2.2.1 X.2.2.2.2.2 X.2.2.2.2.1 i h ∧ RSn μ h ∧ h.2.1 170 11 = 0
def XA (X : tx_T) : Prop := TkA X.1 X.2.1 X.2.2.1 X.2.2.2.1 X.2.2.2.2.1 X.2.2.2.2.2
/-- what reading an item writes -/
abbrev WJ : Nat → Nat → Prop := fun a k => (a = 170 ∧ ((3 ≤ k ∧ k ≤ 12) ∨ (43 ≤ k ∧ k ≤ 78 ∧ k ≠ 62))) ∨ ((a = 172 ∨ a = 173 ∨ a = 174 ∨ a = 175 ∨ a = 177 ∨ a = 181 ∨ a = 183) ∧ k = 1) ∨ (a = 176 ∧ 8 ≤ k) ∨ ((a = 178 ∨ a = 179 ∨ a = 180) ∧ 24 ≤ k) ∨ (a = 182 ∧ 12 ≤ k) ∨ (a = 184 ∧ 16 ≤ k)
theorem WM_J : ∀ a k, WM a k → WJ a k := fun a k q => Or.inl ⟨q.1, Or.inl ⟨q.2.1, by omega⟩⟩
def PBm (X : tx_T) (R : F_T ⊕ (Nat × pm_T)) (z : Int) (h' : ah_T) : Prop := match R with
  | .inl q => z = 0 ∧ h'.2.1 170 11 = q.1 ∧ h'.2.1 170 12 = q.2
  | .inr q => z = 1 ∧ RMs X q.1 q.2 h' ∧ RH q.2 h'
abbrev QC (s : Nat) (X : tx_T) (R : F_T ⊕ (Nat × pm_T)) (h : ah_T) : Option av_T → ah_T → Prop := fun r h' => ∃ z, r = some (av_I z) ∧ hb s h' ∧ fr WJ h h' ∧ (z = 0 ∨ z = 1) ∧ PBm X R z h'
abbrev WK : Nat → Nat → Prop := fun a k => a = 170 ∧ 3 ≤ k ∧ k ≤ 12
theorem WK_J : ∀ a k, WK a k → WJ a k := fun a k q => Or.inl ⟨q.1, Or.inl q.2⟩
theorem WM_K : ∀ a k, WM a k → WK a k := fun a k q => ⟨q.1, q.2.1, by omega⟩
theorem t_MD_wrongk {G : cx_T} {s : Nat} {h : ah_T} {a1 a2 : Int} (hb0 : hb s h) (h0 : h.2.1 170 11 = 0) : con G 0 0 0 m_MD_wrong [av_R (some 170), av_I a1, av_I a2] h (fun r h' => ∃ z, r = some (av_I z) ∧ hb s h' ∧ fr WK h h' ∧ z = 0 ∧ h'.2.1 170 11 = a1 ∧ h'.2.1 170 12 = a2) := by
  refine c_MD_wrong hb0 (fun _ _ => ?_)
  unfold B_MD_wrong_0 B_MD_wrong_17
  intro x1 e1 _ _
  exact ⟨fun _ h2 e2 h4 e4 => ⟨0, rfl, hb_i (hb_i hb0 e2) e4, fr_i (fr_i fr_0 e2 ⟨rfl, by decide⟩) e4 ⟨rfl, by decide⟩, rfl, by rw [mm_i e4 (by decide), mv_i e2], mv_i e4⟩, fun c => absurd (e1.trans h0) c⟩
theorem t_MD_cantk {G : cx_T} {s : Nat} {h : ah_T} {X : tx_T} {i : Nat} {μ : pm_T} (hb0 : hb s h) (H : RMs X i μ h) : con G 1 0 0 m_MD_cant [av_R (some 170)] h (fun r h' => ∃ z, r = some (av_I z) ∧ hb s h' ∧ fr WK h h' ∧ z = 0 ∧ h'.2.1 170 11 = (cn X.2.2.1 i).1 ∧ h'.2.1 170 12 = (cn X.2.2.1 i).2) := by
  obtain ⟨⟨-, -, r3, r4, -⟩, -, h0⟩ := H
  refine c_MD_cant hb0 ?_
  unfold B_MD_cant_0 B_MD_cant_15 cn
  intro x1 e1 _ _
  have hk : x1 = 6 ↔ tK X.2.2.1 i = 257 := by rw [e1, r4]; exact ek_6
  refine ⟨fun c y ey _ _ => ?_, fun c y ey _ _ => ?_⟩
  · refine con_mono (t_MD_wrongk hb0 h0) ?_
    rintro r h' ⟨z, rfl, hb1, f1, rfl, q1, q2⟩
    exact ⟨0, rfl, hb1, Or.inl rfl, 0, rfl, hb1, f1, rfl, by rw [q1, if_pos (hk.mp c)], by rw [q2, ey, r3]⟩
  · refine con_mono (t_MD_wrongk hb0 h0) ?_
    rintro r h' ⟨z, rfl, hb1, f1, rfl, q1, q2⟩
    exact ⟨0, rfl, hb1, Or.inl rfl, 0, rfl, hb1, f1, rfl, by rw [q1, if_neg (fun w => c (hk.mpr w))], by rw [q2, ey, r3]⟩
theorem t_MD_wrong {G : cx_T} {s : Nat} {h : ah_T} {a1 a2 : Int} (hb0 : hb s h) (h0 : h.2.1 170 11 = 0) : con G 0 0 0 m_MD_wrong [av_R (some 170), av_I a1, av_I a2] h (fun r h' => ∃ z, r = some (av_I z) ∧ hb s h' ∧ fr WJ h h' ∧ z = 0 ∧ h'.2.1 170 11 = a1 ∧ h'.2.1 170 12 = a2) := by
  refine con_mono (t_MD_wrongk hb0 h0) ?_
  rintro r h' ⟨z, q1, q2, q3, q4⟩
  exact ⟨z, q1, q2, fr_w q3 WK_J, q4⟩
theorem t_MD_cant {G : cx_T} {s : Nat} {h : ah_T} {X : tx_T} {i : Nat} {μ : pm_T} (hb0 : hb s h) (H : RMs X i μ h) : con G 1 0 0 m_MD_cant [av_R (some 170)] h (fun r h' => ∃ z, r = some (av_I z) ∧ hb s h' ∧ fr WJ h h' ∧ z = 0 ∧ h'.2.1 170 11 = (cn X.2.2.1 i).1 ∧ h'.2.1 170 12 = (cn X.2.2.1 i).2) := by
  refine con_mono (t_MD_cantk hb0 H) ?_
  rintro r h' ⟨z, q1, q2, q3, q4⟩
  exact ⟨z, q1, q2, fr_w q3 WK_J, q4⟩
theorem t_MD_isSign {G : cx_T} {s : Nat} {h : ah_T} {X : tx_T} {i : Nat} {μ : pm_T} {k : Int} (hb0 : hb s h) (hA : XA X) (H : RMs X i μ h) (hk : isSg k) : con G 0 0 0 m_MD_isSign [av_R (some 170), av_I k] h (fun r h' => ∃ z, r = some (av_I z) ∧ hb s h' ∧ h' = h ∧ (z = 0 ∨ z = 1) ∧ (z = 0 ↔ ¬ tK X.2.2.1 i = k)) := by
  obtain ⟨⟨-, r2, r3, r4, r5, r6, -⟩, -, -⟩ := H
  have ko := TkA_k hA r2
  refine c_MD_isSign hb0 (fun _ => ?_)
  unfold B_MD_isSign_0 B_MD_isSign_20 B_MD_isSign_21
  have kr : ¬ (256 ≤ k ∧ k ≤ 266) := by unfold isSg at hk; omega
  intro x1 e1 _ _
  refine ⟨fun c x2 e2 _ _ => ?_, fun c => ⟨Or.inl rfl, 0, rfl, hb0, rfl, Or.inl rfl, ⟨fun _ w => ?_, fun _ => rfl⟩⟩⟩
  · have k5 : ¬ (256 ≤ tK X.2.2.1 i ∧ tK X.2.2.1 i ≤ 266) := ek_5.mp (by rw [← r4, ← e1]; exact c)
    have ks : isSg (tK X.2.2.1 i) := ko.elim (fun w => absurd w k5) id
    have ev := r6 ks
    exact ⟨fun d => ⟨Or.inr rfl, 1, rfl, hb0, rfl, Or.inr rfl, ⟨fun w => absurd w (by decide), fun w => absurd (by rw [← ev, ← e2]; exact d) w⟩⟩, fun d => ⟨Or.inl rfl, 0, rfl, hb0, rfl, Or.inl rfl, ⟨fun _ w => d (by rw [e2, ev]; exact w), fun _ => rfl⟩⟩⟩
  · exact c (by rw [e1, r4]; exact ek_5.mpr (by rw [w]; exact kr))
theorem t_MD_isWord {G : cx_T} {s : Nat} {h : ah_T} {X : tx_T} {i : Nat} {μ : pm_T} {k : Int} (hb0 : hb s h) (H : RMs X i μ h) (hk : 0 ≤ k ∧ k ≤ 5) : con G 0 0 0 m_MD_isWord [av_R (some 170), av_I k] h (fun r h' => ∃ z, r = some (av_I z) ∧ hb s h' ∧ h' = h ∧ (z = 0 ∨ z = 1) ∧ (z = 0 ↔ ¬ tK X.2.2.1 i = 261 + k)) := by
  obtain ⟨⟨-, r2, r3, r4, r5, r6, -⟩, -, -⟩ := H
  refine c_MD_isWord hb0 (fun _ => ?_)
  unfold B_MD_isWord_0 B_MD_isWord_20 B_MD_isWord_21
  intro x1 e1 _ _
  refine ⟨fun c x2 e2 _ _ => ?_, fun c => ⟨Or.inl rfl, 0, rfl, hb0, rfl, Or.inl rfl, ⟨fun _ w => ?_, fun _ => rfl⟩⟩⟩
  · have k4 := ek_4.mp (by rw [← r4, ← e1]; exact c)
    have ev := r5 k4
    exact ⟨fun d => ⟨Or.inr rfl, 1, rfl, hb0, rfl, Or.inr rfl, by omega⟩, fun d => ⟨Or.inl rfl, 0, rfl, hb0, rfl, Or.inl rfl, by omega⟩⟩
  · exact c (by rw [e1, r4]; exact ek_4.mpr (by omega))
theorem t_MD_step {G : cx_T} {s : Nat} {h : ah_T} {X : tx_T} {i : Nat} {μ : pm_T} (hb0 : hb s h) (hA : XA X) (H : RMs X i μ h) (hg : gk (tK X.2.2.1 i)) : con G 2 0 0 m_MD_next [av_R (some 170)] h (fun r h' => ∃ z, r = some (av_I z) ∧ hb s h' ∧ fr WM h h' ∧ RMs X (i + 1) μ h' ∧ z = 1) := by
  refine con_mono (t_MD_next hb0 hA H.1 hg (TkA_n hA H.1.2.1 hg)) ?_
  rintro r h' ⟨z, rfl, hb1, f1, r1, rfl⟩
  exact ⟨1, rfl, hb1, f1, ⟨r1, RSn_f H.2.1 f1 (fun a k q => by omega), (fr_g f1 (by omega)).trans H.2.2⟩, rfl⟩
theorem RH_M {μ : pm_T} {h h' : ah_T} (H : RH μ h) (f : fr WM h h') : RH μ h' := RH_f H f (fun k h1 h2 q => by omega)
abbrev QCk (s : Nat) (X : tx_T) (R : F_T ⊕ (Nat × pm_T)) (h : ah_T) : Option av_T → ah_T → Prop := fun r h' => ∃ z, r = some (av_I z) ∧ hb s h' ∧ fr WK h h' ∧ (z = 0 ∨ z = 1) ∧ PBm X R z h'
theorem t_MD_wantk {G : cx_T} {s : Nat} {h : ah_T} {X : tx_T} {i : Nat} {μ : pm_T} {k : Int} (hb0 : hb s h) (hA : XA X) (H : RMs X i μ h) (hR : RH μ h) (hk : isSg k) : con G 3 0 0 m_MD_want [av_R (some 170), av_I k] h (QCk s X (bnd (sp_take X.2.2.1 i k) fun _ => .inr (i + 1, μ)) h) := by
  refine c_MD_want hb0 (fun _ => ?_)
  unfold B_MD_want_0 B_MD_want_19
  refine con_mono (t_MD_isSign hb0 hA H hk) ?_
  rintro r h1 ⟨z3, rfl, hb1, rfl, -, z02⟩
  refine ⟨z3, rfl, hb1, fun c => ?_, fun c => ?_⟩
  · refine con_mono (t_MD_cantk hb1 H) ?_
    rintro r h' ⟨z, rfl, hb2, f2, rfl, q1, q2⟩
    refine ⟨0, rfl, hb2, Or.inl rfl, 0, rfl, hb2, f2, Or.inl rfl, ?_⟩
    rw [sp_take, if_neg (z02.mp c)]
    exact ⟨rfl, q1, q2⟩
  · have e : tK X.2.2.1 i = k := Classical.not_not.mp (fun w => c (z02.mpr w))
    refine con_mono (t_MD_step hb1 hA H (by rw [e]; unfold isSg at hk; unfold gk; omega)) ?_
    rintro r h' ⟨z, rfl, hb2, f2, H2, rfl⟩
    refine ⟨1, rfl, hb2, Or.inr rfl, 1, rfl, hb2, fr_w f2 WM_K, Or.inr rfl, ?_⟩
    rw [sp_take, if_pos e]
    exact ⟨rfl, H2, RH_M hR f2⟩
theorem t_MD_want {G : cx_T} {s : Nat} {h : ah_T} {X : tx_T} {i : Nat} {μ : pm_T} {k : Int} (hb0 : hb s h) (hA : XA X) (H : RMs X i μ h) (hR : RH μ h) (hk : isSg k) : con G 3 0 0 m_MD_want [av_R (some 170), av_I k] h (QC s X (bnd (sp_take X.2.2.1 i k) fun _ => .inr (i + 1, μ)) h) := by
  refine con_mono (t_MD_wantk hb0 hA H hR hk) ?_
  rintro r h' ⟨z, q1, q2, q3, q4⟩
  exact ⟨z, q1, q2, fr_w q3 WK_J, q4⟩
theorem pw_ok : ∀ k : Nat, k < 65 → (an_I k (k - 1) = 0 ↔ (k = 0 ∨ pwb k = true)) := by decide +kernel
theorem t_MD_isPower {G : cx_T} {s : Nat} {h : ah_T} {v most : Int} (hb0 : hb s h) (hm : most ≤ 64) : con G 0 0 0 m_MD_isPower [av_R (some 170), av_I v, av_I most] h (fun r h' => ∃ z, r = some (av_I z) ∧ hb s h' ∧ h' = h ∧ (z = 0 ∨ z = 1) ∧ (z = 0 ↔ ¬ ((1 ≤ v ∧ v ≤ most) ∧ pwb v = true))) := by
  refine c_MD_isPower hb0 (fun _ _ => ?_)
  unfold B_MD_isPower_0 B_MD_isPower_22 B_MD_isPower_23
  refine ⟨fun c => ⟨Or.inl rfl, 0, rfl, hb0, rfl, Or.inl rfl, ⟨fun _ w => by omega, fun _ => rfl⟩⟩, fun c => ⟨fun c1 => ⟨Or.inl rfl, 0, rfl, hb0, rfl, Or.inl rfl, ⟨fun _ w => by omega, fun _ => rfl⟩⟩, fun c1 => ⟨⟨by omega, by omega⟩, fun x2 e2 _ _ => ?_⟩⟩⟩
  obtain ⟨k, rfl⟩ : ∃ k : Nat, v = k := ⟨v.toNat, by omega⟩
  have hp := pw_ok k (by omega)
  have ex : x2 = an_I k (k - 1) := e2
  exact ⟨fun d => ⟨Or.inr rfl, 1, rfl, hb0, rfl, Or.inr rfl, ⟨fun w => absurd w (by decide), fun w => absurd ⟨⟨by omega, by omega⟩, (hp.mp (ex.symm.trans d)).elim (fun q => by omega) id⟩ w⟩⟩, fun d => ⟨Or.inl rfl, 0, rfl, hb0, rfl, Or.inl rfl, ⟨fun _ w => d (ex.trans (hp.mpr (Or.inr w.2))), fun _ => rfl⟩⟩⟩
