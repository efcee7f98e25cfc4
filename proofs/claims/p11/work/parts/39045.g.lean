/-! ===== the class: items, faults and places ===== -/
theorem NF_pits {t : tk_T} : ∀ (f i : Nat) (μ : pm_T), NF (sp_pits t f i μ)
  | 0, _, _ => NF_l (by decide)
  | f + 1, i, μ => NF_i (NF_i (NF_l (by decide)) (NF_i NF_r (NF_pits f _ _))) NF_c
theorem NF_name {t : tk_T} {i : Nat} {μ : pm_T} : NF (sp_name t i μ) := NF_i (NF_i NF_r (NF_i (NF_l (by decide)) NF_r)) NF_c
theorem NF_rows {t : tk_T} : ∀ (f i : Nat) (μ : pm_T), NF (sp_rows t f i μ)
  | 0, _, _ => NF_l (by decide)
  | f + 1, i, μ => NF_i (NF_i (NF_b NF_name (fun _ => NF_i NF_r (NF_rows f _ _))) (NF_l (by decide))) NF_c
theorem NF_parts {t : tk_T} : ∀ (f i : Nat) (π : pm_T), NF (sp_parts t f i π)
  | 0, _, _ => NF_l (by decide)
  | f + 1, i, π => NF_i NF_r (NF_b NF_p (fun _ => NF_parts f _ _))
theorem NF_time {t : tk_T} {i : Nat} {μ : pm_T} : NF (sp_time t i μ) := NF_i (NF_b NF_n (fun _ => NF_b NF_t (fun _ => NF_b NF_n (fun _ => NF_b NF_t (fun _ => NF_r))))) (NF_l (by decide))
theorem NF_line {t : tk_T} {i : Nat} {μ : pm_T} : NF (sp_line t i μ) := NF_i (NF_pits _ _ _) (NF_l (by decide))
theorem NF_rule {t : tk_T} {i : Nat} {μ : pm_T} : NF (sp_rule t i μ) := NF_i (NF_b NF_name (fun _ => NF_b NF_t (fun _ => NF_b NF_name (fun _ => NF_i (NF_b NF_name (fun _ => NF_b NF_t (fun _ => NF_r))) (NF_b NF_t (fun _ => NF_r)))))) (NF_l (by decide))
theorem NF_row {t : tk_T} {i : Nat} {μ : pm_T} : NF (sp_row t i μ) := NF_i (NF_rows _ _ _) (NF_l (by decide))
theorem NF_voice {t : tk_T} {i : Nat} {μ : pm_T} : NF (sp_voice t i μ) := NF_i (NF_b (NF_parts _ _ _) (fun _ => NF_i (NF_l (by decide)) (NF_i NF_r (NF_l (by decide))))) (NF_l (by decide))
theorem pits_i {t : tk_T} : ∀ (f i : Nat) (μ : pm_T) (q : Nat × pm_T), sp_pits t f i μ = .inr q → i + 2 ≤ q.1
  | 0, _, _, _, e => by rw [sp_pits] at e; cases e
  | f + 1, i, μ, q, e => by
    rw [sp_pits] at e
    split at e
    · split at e
      · cases e
      · split at e
        · cases e; exact Nat.le_refl _
        · have := pits_i f _ _ q e; omega
    · cases e
theorem rows_i {t : tk_T} : ∀ (f i : Nat) (μ : pm_T) (q : Nat × pm_T), sp_rows t f i μ = .inr q → i + 2 ≤ q.1
  | 0, _, _, _, e => by rw [sp_rows] at e; cases e
  | f + 1, i, μ, q, e => by
    rw [sp_rows] at e
    split at e
    · split at e
      · obtain ⟨a, -, e⟩ := bnd_r e
        split at e
        · cases e; exact Nat.le_refl _
        · have := rows_i f _ _ q e; omega
      · cases e
    · cases e
theorem parts_i {t : tk_T} : ∀ (f i : Nat) (π : pm_T) (q : Nat × pm_T), sp_parts t f i π = .inr q → i ≤ q.1
  | 0, _, _, _, e => by rw [sp_parts] at e; cases e
  | f + 1, i, π, q, e => by
    rw [sp_parts] at e
    split at e
    · cases e; exact Nat.le_refl _
    · obtain ⟨a, ea, e⟩ := bnd_r e
      have h1 := sp_part_i ea
      have h2 := parts_i f _ _ q e
      omega
theorem time_i {t : tk_T} {i : Nat} {μ : pm_T} {q : Nat × pm_T} (e : sp_time t i μ = .inr q) : i + 2 ≤ q.1 := by
  unfold sp_time at e
  split at e
  · obtain ⟨a, -, e⟩ := bnd_r e
    obtain ⟨b, -, e⟩ := bnd_r e
    obtain ⟨c, -, e⟩ := bnd_r e
    obtain ⟨d, -, e⟩ := bnd_r e
    cases e; show i + 2 ≤ i + 5; omega
  · cases e
theorem line_i {t : tk_T} {i : Nat} {μ : pm_T} {q : Nat × pm_T} (e : sp_line t i μ = .inr q) : i + 2 ≤ q.1 := by
  unfold sp_line at e
  split at e
  · have := pits_i _ _ _ _ e; omega
  · cases e
theorem row_i {t : tk_T} {i : Nat} {μ : pm_T} {q : Nat × pm_T} (e : sp_row t i μ = .inr q) : i + 2 ≤ q.1 := by
  unfold sp_row at e
  split at e
  · have := rows_i _ _ _ _ e; omega
  · cases e
theorem rule_i {t : tk_T} {i : Nat} {μ : pm_T} {q : Nat × pm_T} (e : sp_rule t i μ = .inr q) : i + 2 ≤ q.1 := by
  unfold sp_rule at e
  split at e
  · obtain ⟨a, -, e⟩ := bnd_r e
    obtain ⟨b, -, e⟩ := bnd_r e
    obtain ⟨c, -, e⟩ := bnd_r e
    split at e
    · obtain ⟨d, -, e⟩ := bnd_r e
      obtain ⟨g, -, e⟩ := bnd_r e
      cases e; show i + 2 ≤ i + 6; omega
    · obtain ⟨d, -, e⟩ := bnd_r e
      cases e; show i + 2 ≤ i + 5; omega
  · cases e
theorem voice_i {t : tk_T} {i : Nat} {μ : pm_T} {q : Nat × pm_T} (e : sp_voice t i μ = .inr q) : i + 2 ≤ q.1 := by
  unfold sp_voice at e
  split at e
  · obtain ⟨a, ea, e⟩ := bnd_r e
    have := parts_i _ _ _ _ ea
    split at e
    · cases e
    · split at e
      · cases e; show i + 2 ≤ a.1 + 1; omega
      · cases e
  · cases e
/-- the four other items leave the voices' rows -/
def kr (μ μ' : pm_T) : Prop := μ' 0 7 = μ 0 7 ∧ (∀ a k, 10 ≤ a → μ' a k = μ a k) ∧ (μ' 0 0 = μ 0 0 ∨ μ' 0 0 = 1)
theorem kr_0 {μ : pm_T} : kr μ μ := ⟨rfl, fun _ _ _ => rfl, Or.inl rfl⟩
theorem kr_t {μ μ' μ'' : pm_T} (h : kr μ μ') (h2 : kr μ' μ'') : kr μ μ'' := ⟨h2.1.trans h.1, fun a k q => (h2.2.1 a k q).trans (h.2.1 a k q), by have := h.2.2; have := h2.2.2; omega⟩
theorem kr_u {μ : pm_T} {a k : Nat} {z : Int} (h : a ≤ 9) (h2 : ¬ (a = 0 ∧ (k = 7 ∨ k = 0))) : kr μ (up2 μ a k z) := ⟨up2_o (by omega), fun b j q => up2_o (by omega), Or.inl (up2_o (by omega))⟩
theorem kr_1 {μ : pm_T} : kr μ (up2 μ 0 0 1) := ⟨up2_o (by omega), fun b j q => up2_o (by omega), Or.inr up2_at⟩
theorem kr_pit {t : tk_T} {i : Nat} {μ : pm_T} : kr μ (pit t i μ) := kr_t (kr_u (by decide) (by omega)) (kr_u (by decide) (by omega))
theorem kr_name {t : tk_T} {i : Nat} {μ : pm_T} {v : Int × pm_T} (e : sp_name t i μ = .inr v) : kr μ v.2 := by
  unfold sp_name at e
  split at e
  · split at e
    · cases e; exact kr_0
    · split at e
      · cases e
      · cases e; exact kr_t (kr_u (by decide) (by omega)) (kr_u (by decide) (by omega))
  · cases e
theorem kr_addr {μ : pm_T} {a b c : Int} : kr μ (addr μ a b c) := kr_t (kr_t (kr_t (kr_u (by decide) (by omega)) (kr_u (by decide) (by omega))) (kr_u (by decide) (by omega))) (kr_u (by decide) (by omega))
theorem kr_rowa {μ : pm_T} {z : Int} : kr μ (rowa μ z) := kr_t (kr_u (by decide) (by omega)) (kr_u (by decide) (by omega))
theorem pits_k {t : tk_T} : ∀ (f i : Nat) (μ : pm_T) (q : Nat × pm_T), sp_pits t f i μ = .inr q → kr μ q.2
  | 0, _, _, _, e => by rw [sp_pits] at e; cases e
  | f + 1, i, μ, q, e => by
    rw [sp_pits] at e
    split at e
    · split at e
      · cases e
      · split at e
        · cases e; exact kr_pit
        · exact kr_t kr_pit (pits_k f _ _ q e)
    · cases e
theorem rows_k {t : tk_T} : ∀ (f i : Nat) (μ : pm_T) (q : Nat × pm_T), sp_rows t f i μ = .inr q → kr μ q.2
  | 0, _, _, _, e => by rw [sp_rows] at e; cases e
  | f + 1, i, μ, q, e => by
    rw [sp_rows] at e
    split at e
    · split at e
      · obtain ⟨a, ea, e⟩ := bnd_r e
        split at e
        · cases e; exact kr_t (kr_name ea) kr_rowa
        · exact kr_t (kr_t (kr_name ea) kr_rowa) (rows_k f _ _ q e)
      · cases e
    · cases e
theorem time_k {t : tk_T} {i : Nat} {μ : pm_T} {q : Nat × pm_T} (e : sp_time t i μ = .inr q) : kr μ q.2 := by
  unfold sp_time at e
  split at e
  · obtain ⟨a, -, e⟩ := bnd_r e
    obtain ⟨b, -, e⟩ := bnd_r e
    obtain ⟨c, -, e⟩ := bnd_r e
    obtain ⟨d, -, e⟩ := bnd_r e
    cases e; exact kr_t (kr_t kr_1 (kr_u (by decide) (by omega))) (kr_u (by decide) (by omega))
  · cases e
theorem line_k {t : tk_T} {i : Nat} {μ : pm_T} {q : Nat × pm_T} (e : sp_line t i μ = .inr q) : kr μ q.2 := by
  unfold sp_line at e
  split at e
  · exact pits_k _ _ _ _ e
  · cases e
theorem row_k {t : tk_T} {i : Nat} {μ : pm_T} {q : Nat × pm_T} (e : sp_row t i μ = .inr q) : kr μ q.2 := by
  unfold sp_row at e
  split at e
  · exact rows_k _ _ _ _ e
  · cases e
theorem rule_k {t : tk_T} {i : Nat} {μ : pm_T} {q : Nat × pm_T} (e : sp_rule t i μ = .inr q) : kr μ q.2 := by
  unfold sp_rule at e
  split at e
  · obtain ⟨a, ea, e⟩ := bnd_r e
    obtain ⟨b, -, e⟩ := bnd_r e
    obtain ⟨c, ec, e⟩ := bnd_r e
    split at e
    · obtain ⟨d, ed, e⟩ := bnd_r e
      obtain ⟨g, -, e⟩ := bnd_r e
      cases e; exact kr_t (kr_t (kr_t (kr_name ea) (kr_name ec)) (kr_name ed)) kr_addr
    · obtain ⟨d, -, e⟩ := bnd_r e
      cases e; exact kr_t (kr_t (kr_name ea) (kr_name ec)) kr_addr
  · cases e
/-- one item -/
def sp_item (t : tk_T) (i : Nat) (μ : pm_T) : F_T ⊕ (Nat × pm_T) := if tK t i = 261 then sp_time t i μ else if tK t i = 262 then sp_voice t i μ else if tK t i = 263 then sp_line t i μ else if tK t i = 264 then sp_rule t i μ else if tK t i = 265 then sp_row t i μ else .inl (cn t i)
theorem sp_items_e {t : tk_T} {f i : Nat} {μ : pm_T} (h : ¬ tK t i = 256) : sp_items t (f + 1) i μ = bnd (sp_item t i μ) fun q => sp_items t f q.1 q.2 := by rw [sp_items, if_neg h]; rfl
theorem NF_item {t : tk_T} {i : Nat} {μ : pm_T} : NF (sp_item t i μ) := NF_i NF_time (NF_i NF_voice (NF_i NF_line (NF_i NF_rule (NF_i NF_row NF_c))))
theorem item_i {t : tk_T} {i : Nat} {μ : pm_T} {q : Nat × pm_T} (e : sp_item t i μ = .inr q) : i + 2 ≤ q.1 := by
  unfold sp_item at e
  split at e
  · exact time_i e
  split at e
  · exact voice_i e
  split at e
  · exact line_i e
  split at e
  · exact rule_i e
  split at e
  · exact row_i e
  · cases e
theorem t_Score_clear {G : cx_T} {s : Nat} {h : ah_T} (hb0 : hb s h) : con G 0 0 0 m_Score_clear [av_R (some s)] h (fun r h' => r = none ∧ hb s h' ∧ fr (fun a _ => a = s) h h' ∧ h'.2.1 s 1 = 0 ∧ h'.2.1 s 2 = 4 ∧ h'.2.1 s 3 = 4 ∧ h'.2.1 s 4 = 0 ∧ h'.2.1 s 6 = 0 ∧ h'.2.1 s 10 = 0 ∧ h'.2.1 s 12 = 0) := by
  refine c_Score_clear hb0 ?_
  unfold B_Score_clear_0
  intro h1 e1 h3 e3 h5 e5 h7 e7 h9 e9 h11 e11 h13 e13
  refine ⟨rfl, hb_i (hb_i (hb_i (hb_i (hb_i (hb_i (hb_i hb0 e1) e3) e5) e7) e9) e11) e13, fr_i (fr_i (fr_i (fr_i (fr_i (fr_i (fr_i fr_0 e1 rfl) e3 rfl) e5 rfl) e7 rfl) e9 rfl) e11 rfl) e13 rfl, ?_⟩
  subst e13 e11 e9 e7 e5 e3 e1
  simp [st_i, up2]

/-! ===== the class: a text read, exact ===== -/
abbrev WY (s : Nat) : Nat → Nat → Prop := fun a _ => (2 ≤ a ∧ a ≤ 16) ∨ (s ≤ a ∧ a ≤ s + 62)
def PR (t : tk_T) (m s : Nat) (R : F_T ⊕ pm_T) (z : Int) (h' : ah_T) : Prop := match R with
  | .inl q => z = q.1 ∧ q.1 ≠ 0 ∧ h'.2.1 2 6 = q.1 ∧ h'.2.1 2 7 = q.2
  | .inr μ => z = 0 ∧ ∃ i, RCv t m i μ s h'
theorem item_of {t : tk_T} {m s : Nat} {μ : pm_T} {R : F_T ⊕ (Nat × pm_T)} {z : Int} {h h' : ah_T} (HV : RVs μ s h) (h4 : μ 0 7 ≤ 4) (f : fr (WR s) h h') (hs : s = 17 ∨ s = 80) (k : ∀ q, R = .inr q → kr μ q.2) (p : PBc t m s R z h') : PIc t m s R z h' := by
  rcases R with q | q
  · exact p
  · obtain ⟨e, H⟩ := p
    have kk := k q rfl
    exact ⟨e, H, RVs_m (RVs_f HV h4 f (fun a k w => by omega)) kk.1 kk.2.1⟩
theorem t_Reader_read {G : cx_T} {s : Nat} {h : ah_T} {T : Nat → Int} {n : Nat} (hb0 : hb s h) (hTp : ∀ j, j < n → h.2.1 1 j = T j ∧ 0 ≤ T j ∧ T j ≤ 255) (hn : n ≤ 2000) : con G 23 0 0 m_Reader_read [av_R (some 2), av_R (some 1), av_I (n : Int)] h (fun r h' => ∃ z, r = some (av_I z) ∧ hb s h' ∧ fr (WY s) h h' ∧ ∃ (t : tk_T) (m : Nat) (a b : Nat → Nat), TkA T n t m a b ∧ PR t m s (sp_score t) z h') := by
  have hs : s = 17 ∨ s = 80 := hb0.2.1
  refine c_Reader_read (X31 := fun v3 v4 hh => 0 ≤ v4 ∧ fr (WY s) h hh ∧ ∃ (t : tk_T) (m : Nat) (a b : Nat → Nat), TkA T n t m a b ∧ ((v3 = 0 ∧ ∃ q : F_T, hh.2.1 2 6 = q.1 ∧ hh.2.1 2 7 = q.2 ∧ q.1 ≠ 0 ∧ sp_score t = .inl q) ∨ (v3 = 0 ∧ ∃ (i : Nat) (μ : pm_T), RCv t m i μ s hh ∧ sp_score t = .inr μ) ∨ (v3 = 1 ∧ ∃ (j f : Nat) (μ : pm_T), RCv t m j μ s hh ∧ (μ 0 0 = 0 ∨ μ 0 0 = 1) ∧ 2 * v4 ≤ j ∧ (f : Int) + v4 = 2999 ∧ sp_score t = sp_items t (f + 1) j μ))) ?_ hb0 (fun _ => ?_)
  · refine lp_Reader_read_31 (a2 := (n : Int)) _ (fun _ v4 _ => (2001 - v4).toNat) ?_
    rintro v3 v4 hh hb1 ⟨hv4, hf, t, m, a, b, hA, hc⟩
    have hT : TG t m := XA_g (X := (T, n, t, m, a, b)) hA
    have kA : ∀ (q : F_T), hh.2.1 2 6 = q.1 → hh.2.1 2 7 = q.2 → q.1 ≠ 0 → sp_score t = .inl q → B_Reader_read_156 G s (n : Int) hh (fun r h' => ∃ z, r = some (av_I z) ∧ hb s h' ∧ fr (WY s) h h' ∧ ∃ (t : tk_T) (m : Nat) (a b : Nat → Nat), TkA T n t m a b ∧ PR t m s (sp_score t) z h') := by
      intro q q1 q2 q3 es
      unfold B_Reader_read_156
      intro x1 e1 _ _
      exact ⟨x1, rfl, hb1, hf, t, m, a, b, hA, by rw [es]; exact ⟨e1.trans q1, q3, q1, q2⟩⟩
    have kB : ∀ (i : Nat) (μ : pm_T), RCv t m i μ s hh → sp_score t = .inr μ → B_Reader_read_156 G s (n : Int) hh (fun r h' => ∃ z, r = some (av_I z) ∧ hb s h' ∧ fr (WY s) h h' ∧ ∃ (t : tk_T) (m : Nat) (a b : Nat → Nat), TkA T n t m a b ∧ PR t m s (sp_score t) z h') := by
      intro i μ H es
      unfold B_Reader_read_156
      intro x1 e1 _ _
      exact ⟨x1, rfl, hb1, hf, t, m, a, b, hA, by rw [es]; exact ⟨e1.trans H.1.2.2, i, H⟩⟩
    unfold B_Reader_read_31
    rcases hc with ⟨rfl, q, q1, q2, q3, es⟩ | ⟨rfl, i, μ, H, es⟩ | ⟨rfl, j, f, μ, H, h01, hj, hfu, es⟩
    · exact ⟨fun _ => kA q q1 q2 q3 es, fun _ => ⟨fun _ => kA q q1 q2 q3 es, fun d => absurd rfl d⟩⟩
    · exact ⟨fun _ => kB i μ H es, fun _ => ⟨fun _ => kB i μ H es, fun d => absurd rfl d⟩⟩
    have im : j < m ∧ m ≤ 2001 := ⟨H.1.1.2.2.1, H.1.1.2.2.2.1⟩
    have h74 : μ 0 7 ≤ 4 := H.1.2.1.2.1.2.2.2.2.2
    obtain ⟨f', rfl⟩ : ∃ f', f = f' + 1 := ⟨f - 1, by omega⟩
    -- the next turn
    have nx : ∀ (h1 : ah_T) (z : Int), ¬ tK t j = 256 → hb s h1 → fr (WX s) hh h1 → (z = 0 ∨ z = 1) → (∀ q, sp_item t j μ = .inr q → q.2 0 0 = 0 ∨ q.2 0 0 = 1) → PIc t m s (sp_item t j μ) z h1 → ((-2147483648 ≤ v4 + 1 ∧ v4 + 1 ≤ 2147483647) ∧ (0 ≤ v4 + 1 ∧ fr (WY s) h h1 ∧ ∃ (t : tk_T) (m : Nat) (a b : Nat → Nat), TkA T n t m a b ∧ ((z = 0 ∧ ∃ q : F_T, h1.2.1 2 6 = q.1 ∧ h1.2.1 2 7 = q.2 ∧ q.1 ≠ 0 ∧ sp_score t = .inl q) ∨ (z = 0 ∧ ∃ (i : Nat) (μ : pm_T), RCv t m i μ s h1 ∧ sp_score t = .inr μ) ∨ (z = 1 ∧ ∃ (j f : Nat) (μ : pm_T), RCv t m j μ s h1 ∧ (μ 0 0 = 0 ∨ μ 0 0 = 1) ∧ 2 * (v4 + 1) ≤ j ∧ (f : Int) + (v4 + 1) = 2999 ∧ sp_score t = sp_items t (f + 1) j μ))) ∧ (2001 - (v4 + 1)).toNat < (2001 - v4).toNat) := by
      intro h1 z n256 hb2 f1 z01 h00 p
      refine ⟨⟨by omega, by omega⟩, ⟨by omega, fr_t hf f1 (fun a k w => by omega), t, m, a, b, hA, ?_⟩, by omega⟩
      rcases e : sp_item t j μ with q | q
      · rw [e] at p
        obtain ⟨rfl, w1, w2⟩ := p
        exact Or.inl ⟨rfl, q, w1, w2, NF_item q e, by rw [es, sp_items_e n256, e]; rfl⟩
      · rw [e] at p
        obtain ⟨rfl, w⟩ := p
        have := item_i e
        exact Or.inr (Or.inr ⟨rfl, q.1, f', q.2, w, h00 q e, by omega, by omega, by rw [es, sp_items_e n256, e]; rfl⟩)
    refine ⟨fun c => by omega, fun c => ⟨fun d => absurd d (by decide), fun _ x2 y2 _ _ => ?_⟩⟩
    have ek : x2 = tK t j := y2.trans (RCs_b H.1).1
    unfold B_Reader_read_150 B_Reader_read_148 B_Reader_read_149
    refine ⟨fun c1 => ?_, fun c1 => ?_, fun c1 => ?_, fun c1 => ?_, fun c1 => ?_, fun c1 => ⟨fun c2 => ?_, fun c2 => ?_⟩⟩
    · have ei : sp_item t j μ = sp_time t j μ := by unfold sp_item; rw [if_pos (by omega)]
      refine con_mono (t_Reader_readTime hb1 hT H.1 ⟨by omega, by omega⟩ h01) ?_
      rintro r h3 ⟨z, rfl, hb3, f3, z01, p3⟩
      exact ⟨z, rfl, hb3, nx h3 z (by omega) hb3 (fr_w f3 (fun a k w => by omega)) z01 (fun q e => by rw [ei] at e; have := (time_k e).2.2; omega) (by rw [ei]; exact item_of H.2 h74 f3 hs (fun q e => time_k e) p3)⟩
    · have ei : sp_item t j μ = sp_voice t j μ := by unfold sp_item; rw [if_neg (by omega), if_pos (by omega)]
      refine con_mono (t_voice hb1 hT H ⟨by omega, by omega⟩) ?_
      rintro r h3 ⟨z, rfl, hb3, f3, z01, p3⟩
      exact ⟨z, rfl, hb3, nx h3 z (by omega) hb3 f3 z01 (fun q e => by
        rw [ei] at e
        unfold sp_voice at e
        split at e
        · obtain ⟨x, -, e⟩ := bnd_r e
          split at e
          · cases e
          · split at e
            · cases e
              show addV μ x.2 (walk x.2) 0 0 = 0 ∨ addV μ x.2 (walk x.2) 0 0 = 1
              rw [addV_o (by decide) (by omega)]; exact h01
            · cases e
        · cases e) (by rw [ei]; exact p3)⟩
    · have ei : sp_item t j μ = sp_line t j μ := by unfold sp_item; rw [if_neg (by omega), if_neg (by omega), if_pos (by omega)]
      refine con_mono (t_Reader_readLine hb1 hT H.1 ⟨by omega, by omega⟩) ?_
      rintro r h3 ⟨z, rfl, hb3, f3, z01, p3⟩
      exact ⟨z, rfl, hb3, nx h3 z (by omega) hb3 (fr_w f3 (fun a k w => by omega)) z01 (fun q e => by rw [ei] at e; have := (line_k e).2.2; omega) (by rw [ei]; exact item_of H.2 h74 f3 hs (fun q e => line_k e) p3)⟩
    · have ei : sp_item t j μ = sp_rule t j μ := by unfold sp_item; rw [if_neg (by omega), if_neg (by omega), if_neg (by omega), if_pos (by omega)]
      refine con_mono (t_Reader_readRule hb1 hT H.1 ⟨by omega, by omega⟩) ?_
      rintro r h3 ⟨z, rfl, hb3, f3, z01, p3⟩
      exact ⟨z, rfl, hb3, nx h3 z (by omega) hb3 (fr_w f3 (fun a k w => by omega)) z01 (fun q e => by rw [ei] at e; have := (rule_k e).2.2; omega) (by rw [ei]; exact item_of H.2 h74 f3 hs (fun q e => rule_k e) p3)⟩
    · have ei : sp_item t j μ = sp_row t j μ := by unfold sp_item; rw [if_neg (by omega), if_neg (by omega), if_neg (by omega), if_neg (by omega), if_pos (by omega)]
      refine con_mono (t_Reader_readRow hb1 hT H.1 ⟨by omega, by omega⟩) ?_
      rintro r h3 ⟨z, rfl, hb3, f3, z01, p3⟩
      exact ⟨z, rfl, hb3, nx h3 z (by omega) hb3 (fr_w f3 (fun a k w => by omega)) z01 (fun q e => by rw [ei] at e; have := (row_k e).2.2; omega) (by rw [ei]; exact item_of H.2 h74 f3 hs (fun q e => row_k e) p3)⟩
    · have e256 : tK t j = 256 := by omega
      exact ⟨⟨by omega, by omega⟩, ⟨by omega, hf, t, m, a, b, hA, Or.inr (Or.inl ⟨rfl, j, μ, H, by rw [es, sp_items, if_pos e256]⟩)⟩, by omega⟩
    · have ei : sp_item t j μ = .inl (cn t j) := by unfold sp_item; rw [if_neg (by omega), if_neg (by omega), if_neg (by omega), if_neg (by omega), if_neg (by omega)]
      refine con_mono (tt_Reader_refuse hb1 H.1.1) ?_
      rintro r h3 ⟨z, rfl, hb3, f3, rfl, w1, w2⟩
      exact ⟨0, rfl, hb3, fun _ => nx h3 0 (by omega) hb3 (fr_w f3 (fun a k w => by omega)) (Or.inl rfl) (fun q e => by rw [ei] at e; cases e) (by rw [ei]; exact ⟨rfl, w1, w2⟩), fun d => absurd rfl d⟩
  · unfold B_Reader_read_0
    refine con_mono (t_Score_clear hb0) ?_
    rintro r h2 ⟨rfl, hb2, f2, g1, g2, g3, g4, g6, g10, g12⟩
    refine ⟨rfl, hb2, fun h5 e5 h7 e7 => ?_⟩
    have f7 : fr (fun a _ => a = s ∨ a = 2) h h7 := fr_i (fr_i (fr_w f2 (fun a k w => Or.inl w)) e5 (Or.inr rfl)) e7 (Or.inr rfl)
    refine con_mono (t_Tokens_cutAll (hb_i (hb_i hb2 e5) e7) (T := T) (fun j hj => ⟨by rw [fr_g f7 (by omega)]; exact (hTp j hj).1, (hTp j hj).2⟩) hn) ?_
    rintro r h10 ⟨rfl, hb10, f10, t, m, ⟨a, b, k1, k2, k3⟩, kl, R10⟩
    have q : ∀ k, h10.2.1 s k = h2.2.1 s k := fun k => by rw [fr_g f10 (by omega), mm_i e7 (by omega), mm_i e5 (by omega)]
    refine ⟨rfl, hb10, Int.le_refl _, fr_t (fr_w f7 (fun a k w => by omega)) f10 (fun a k w => by omega), t, m, a, b, ⟨k1, k2, k3, kl, by have := R10.2.2.1; omega⟩, Or.inr (Or.inr ⟨rfl, 0, 2999, sco0, ⟨⟨R10, ⟨⟨?_, ?_, ?_, ?_, ?_, ?_, ?_, ?_⟩, ⟨⟨by decide, by decide⟩, ⟨by decide, by decide⟩, ⟨by decide, by decide⟩, ⟨by decide, by decide⟩, by decide, by decide⟩, fun j hj => ?_, fun j hj => ?_, fun j hj => ?_, fun j hj => ?_⟩, ?_⟩, fun n hn => ?_⟩, Or.inl rfl, by decide, by decide, rfl⟩)⟩
    · rw [q, g4]; rfl
    · rw [q, g2]; rfl
    · rw [q, g3]; rfl
    · rw [q, g6]; rfl
    · rw [q, g10]; rfl
    · rw [q, g12]; rfl
    · rw [fr_g f10 (by omega), mm_i e7 (by omega), mv_i e5]; rfl
    · rw [q, g1]; rfl
    · exact absurd hj (by show ¬ (j : Int) < 0; omega)
    · exact absurd hj (by show ¬ (j : Int) < 0; omega)
    · exact absurd hj (by show ¬ (j : Int) < 0; omega)
    · exact absurd hj (by show ¬ (j : Int) < 0; omega)
    · rw [fr_g f10 (by omega), mv_i e7]
    · exact absurd hn (by show ¬ (n : Int) < 0; omega)
