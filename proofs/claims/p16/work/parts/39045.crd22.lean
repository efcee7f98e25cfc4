/-! ===== the class: items, faults and places ===== -/
theorem NF_pits {t : tk_T} : ∀ (f i : Nat) (μ : pm_T), NF (sp_pits t f i μ)
  | 0, _, _ => NF_l (by decide)
  | f + 1, i, μ => NF_i (NF_i (NF_l (by decide)) (NF_i NF_r (NF_pits f _ _))) NF_c
theorem NF_name {t : tk_T} {i : Nat} {μ : pm_T} : NF (sp_name t i μ) := NF_i (NF_i NF_r (NF_i (NF_l (by decide)) NF_r)) NF_c
theorem NF_rows {t : tk_T} : ∀ (f i : Nat) (μ : pm_T), NF (sp_rows t f i μ)
  | 0, _, _ => NF_l (by decide)
  | f + 1, i, μ => NF_i (NF_i (NF_b NF_name (fun _ => NF_i NF_r (NF_rows f _ _))) (NF_l (by decide))) NF_c
theorem NF_parts {t : tk_T} : ∀ (f i : Nat) (π : pm_T), NF (sp_parts t f i π)
  | 0, _, _ => NF_l (by decide)
  | f + 1, i, π => NF_i NF_r (NF_b NF_p (fun _ => NF_parts f _ _))
theorem NF_time {t : tk_T} {i : Nat} {μ : pm_T} : NF (sp_time t i μ) := NF_i (NF_b NF_n (fun _ => NF_b NF_t (fun _ => NF_b NF_n (fun _ => NF_b NF_t (fun _ => NF_r))))) (NF_l (by decide))
theorem NF_line {t : tk_T} {i : Nat} {μ : pm_T} : NF (sp_line t i μ) := NF_i (NF_pits _ _ _) (NF_l (by decide))
theorem NF_rule {t : tk_T} {i : Nat} {μ : pm_T} : NF (sp_rule t i μ) := NF_i (NF_b NF_name (fun _ => NF_b NF_t (fun _ => NF_b NF_name (fun _ => NF_i (NF_b NF_name (fun _ => NF_b NF_t (fun _ => NF_r))) (NF_b NF_t (fun _ => NF_r)))))) (NF_l (by decide))
theorem NF_row {t : tk_T} {i : Nat} {μ : pm_T} : NF (sp_row t i μ) := NF_i (NF_rows _ _ _) (NF_l (by decide))
theorem NF_voice {t : tk_T} {i : Nat} {μ : pm_T} : NF (sp_voice t i μ) := NF_i (NF_b (NF_parts _ _ _) (fun _ => NF_i (NF_l (by decide)) (NF_i NF_r (NF_l (by decide))))) (NF_l (by decide))
theorem pits_i {t : tk_T} : ∀ (f i : Nat) (μ : pm_T) (q : Nat × pm_T), sp_pits t f i μ = .inr q → i + 2 ≤ q.1
  | 0, _, _, _, e => by rw [sp_pits] at e; cases e
  | f + 1, i, μ, q, e => by
    rw [sp_pits] at e
    split at e
    · split at e
      · cases e
      · split at e
        · cases e; exact Nat.le_refl _
        · have := pits_i f _ _ q e; omega
    · cases e
theorem rows_i {t : tk_T} : ∀ (f i : Nat) (μ : pm_T) (q : Nat × pm_T), sp_rows t f i μ = .inr q → i + 2 ≤ q.1
  | 0, _, _, _, e => by rw [sp_rows] at e; cases e
  | f + 1, i, μ, q, e => by
    rw [sp_rows] at e
    split at e
    · split at e
      · obtain ⟨a, -, e⟩ := bnd_r e
        split at e
        · cases e; exact Nat.le_refl _
        · have := rows_i f _ _ q e; omega
      · cases e
    · cases e
theorem parts_i {t : tk_T} : ∀ (f i : Nat) (π : pm_T) (q : Nat × pm_T), sp_parts t f i π = .inr q → i ≤ q.1
  | 0, _, _, _, e => by rw [sp_parts] at e; cases e
  | f + 1, i, π, q, e => by
    rw [sp_parts] at e
    split at e
    · cases e; exact Nat.le_refl _
    · obtain ⟨a, ea, e⟩ := bnd_r e
      have h1 := sp_part_i ea
      have h2 := parts_i f _ _ q e
      omega
theorem time_i {t : tk_T} {i : Nat} {μ : pm_T} {q : Nat × pm_T} (e : sp_time t i μ = .inr q) : i + 2 ≤ q.1 := by
  unfold sp_time at e
  split at e
  · obtain ⟨a, -, e⟩ := bnd_r e
    obtain ⟨b, -, e⟩ := bnd_r e
    obtain ⟨c, -, e⟩ := bnd_r e
    obtain ⟨d, -, e⟩ := bnd_r e
    cases e; show i + 2 ≤ i + 5; omega
  · cases e
theorem line_i {t : tk_T} {i : Nat} {μ : pm_T} {q : Nat × pm_T} (e : sp_line t i μ = .inr q) : i + 2 ≤ q.1 := by
  unfold sp_line at e
  split at e
  · have := pits_i _ _ _ _ e; omega
  · cases e
theorem row_i {t : tk_T} {i : Nat} {μ : pm_T} {q : Nat × pm_T} (e : sp_row t i μ = .inr q) : i + 2 ≤ q.1 := by
  unfold sp_row at e
  split at e
  · have := rows_i _ _ _ _ e; omega
  · cases e
theorem rule_i {t : tk_T} {i : Nat} {μ : pm_T} {q : Nat × pm_T} (e : sp_rule t i μ = .inr q) : i + 2 ≤ q.1 := by
  unfold sp_rule at e
  split at e
  · obtain ⟨a, -, e⟩ := bnd_r e
    obtain ⟨b, -, e⟩ := bnd_r e
    obtain ⟨c, -, e⟩ := bnd_r e
    split at e
    · obtain ⟨d, -, e⟩ := bnd_r e
      obtain ⟨g, -, e⟩ := bnd_r e
      cases e; show i + 2 ≤ i + 6; omega
    · obtain ⟨d, -, e⟩ := bnd_r e
      cases e; show i + 2 ≤ i + 5; omega
  · cases e
theorem voice_i {t : tk_T} {i : Nat} {μ : pm_T} {q : Nat × pm_T} (e : sp_voice t i μ = .inr q) : i + 2 ≤ q.1 := by
  unfold sp_voice at e
  split at e
  · obtain ⟨a, ea, e⟩ := bnd_r e
    have := parts_i _ _ _ _ ea
    split at e
    · cases e
    · split at e
      · cases e; show i + 2 ≤ a.1 + 1; omega
      · cases e
  · cases e
/-- the four other items leave the voices' rows -/
def kr (μ μ' : pm_T) : Prop := μ' 0 7 = μ 0 7 ∧ (∀ a k, 10 ≤ a → μ' a k = μ a k) ∧ (μ' 0 0 = μ 0 0 ∨ μ' 0 0 = 1)
theorem kr_0 {μ : pm_T} : kr μ μ := ⟨rfl, fun _ _ _ => rfl, Or.inl rfl⟩
theorem kr_t {μ μ' μ'' : pm_T} (h : kr μ μ') (h2 : kr μ' μ'') : kr μ μ'' := ⟨h2.1.trans h.1, fun a k q => (h2.2.1 a k q).trans (h.2.1 a k q), by have := h.2.2; have := h2.2.2; omega⟩
theorem kr_u {μ : pm_T} {a k : Nat} {z : Int} (h : a ≤ 9) (h2 : ¬ (a = 0 ∧ (k = 7 ∨ k = 0))) : kr μ (up2 μ a k z) := ⟨up2_o (by omega), fun b j q => up2_o (by omega), Or.inl (up2_o (by omega))⟩
theorem kr_1 {μ : pm_T} : kr μ (up2 μ 0 0 1) := ⟨up2_o (by omega), fun b j q => up2_o (by omega), Or.inr up2_at⟩
theorem kr_pit {t : tk_T} {i : Nat} {μ : pm_T} : kr μ (pit t i μ) := kr_t (kr_u (by decide) (by omega)) (kr_u (by decide) (by omega))
theorem kr_name {t : tk_T} {i : Nat} {μ : pm_T} {v : Int × pm_T} (e : sp_name t i μ = .inr v) : kr μ v.2 := by
  unfold sp_name at e
  split at e
  · split at e
    · cases e; exact kr_0
    · split at e
      · cases e
      · cases e; exact kr_t (kr_u (by decide) (by omega)) (kr_u (by decide) (by omega))
  · cases e
theorem kr_addr {μ : pm_T} {a b c : Int} : kr μ (addr μ a b c) := kr_t (kr_t (kr_t (kr_u (by decide) (by omega)) (kr_u (by decide) (by omega))) (kr_u (by decide) (by omega))) (kr_u (by decide) (by omega))
theorem kr_rowa {μ : pm_T} {z : Int} : kr μ (rowa μ z) := kr_t (kr_u (by decide) (by omega)) (kr_u (by decide) (by omega))
theorem pits_k {t : tk_T} : ∀ (f i : Nat) (μ : pm_T) (q : Nat × pm_T), sp_pits t f i μ = .inr q → kr μ q.2
  | 0, _, _, _, e => by rw [sp_pits] at e; cases e
  | f + 1, i, μ, q, e => by
    rw [sp_pits] at e
    split at e
    · split at e
      · cases e
      · split at e
        · cases e; exact kr_pit
        · exact kr_t kr_pit (pits_k f _ _ q e)
    · cases e
theorem rows_k {t : tk_T} : ∀ (f i : Nat) (μ : pm_T) (q : Nat × pm_T), sp_rows t f i μ = .inr q → kr μ q.2
  | 0, _, _, _, e => by rw [sp_rows] at e; cases e
  | f + 1, i, μ, q, e => by
    rw [sp_rows] at e
    split at e
    · split at e
      · obtain ⟨a, ea, e⟩ := bnd_r e
        split at e
        · cases e; exact kr_t (kr_name ea) kr_rowa
        · exact kr_t (kr_t (kr_name ea) kr_rowa) (rows_k f _ _ q e)
      · cases e
    · cases e
theorem time_k {t : tk_T} {i : Nat} {μ : pm_T} {q : Nat × pm_T} (e : sp_time t i μ = .inr q) : kr μ q.2 := by
  unfold sp_time at e
  split at e
  · obtain ⟨a, -, e⟩ := bnd_r e
    obtain ⟨b, -, e⟩ := bnd_r e
    obtain ⟨c, -, e⟩ := bnd_r e
    obtain ⟨d, -, e⟩ := bnd_r e
    cases e; exact kr_t (kr_t kr_1 (kr_u (by decide) (by omega))) (kr_u (by decide) (by omega))
  · cases e
theorem line_k {t : tk_T} {i : Nat} {μ : pm_T} {q : Nat × pm_T} (e : sp_line t i μ = .inr q) : kr μ q.2 := by
  unfold sp_line at e
  split at e
  · exact pits_k _ _ _ _ e
  · cases e
theorem row_k {t : tk_T} {i : Nat} {μ : pm_T} {q : Nat × pm_T} (e : sp_row t i μ = .inr q) : kr μ q.2 := by
  unfold sp_row at e
  split at e
  · exact rows_k _ _ _ _ e
  · cases e
theorem rule_k {t : tk_T} {i : Nat} {μ : pm_T} {q : Nat × pm_T} (e : sp_rule t i μ = .inr q) : kr μ q.2 := by
  unfold sp_rule at e
  split at e
  · obtain ⟨a, ea, e⟩ := bnd_r e
    obtain ⟨b, -, e⟩ := bnd_r e
    obtain ⟨c, ec, e⟩ := bnd_r e
    split at e
    · obtain ⟨d, ed, e⟩ := bnd_r e
      obtain ⟨g, -, e⟩ := bnd_r e
      cases e; exact kr_t (kr_t (kr_t (kr_name ea) (kr_name ec)) (kr_name ed)) kr_addr
    · obtain ⟨d, -, e⟩ := bnd_r e
      cases e; exact kr_t (kr_t (kr_name ea) (kr_name ec)) kr_addr
  · cases e
/-- one item -/
def sp_item (t : tk_T) (i : Nat) (μ : pm_T) : F_T ⊕ (Nat × pm_T) := if tK t i = 261 then sp_time t i μ else if tK t i = 262 then sp_voice t i μ else if tK t i = 263 then sp_line t i μ else if tK t i = 264 then sp_rule t i μ else if tK t i = 265 then sp_row t i μ else .inl (cn t i)
theorem sp_items_e {t : tk_T} {f i : Nat} {μ : pm_T} (h : ¬ tK t i = 256) : sp_items t (f + 1) i μ = bnd (sp_item t i μ) fun q => sp_items t f q.1 q.2 := by rw [sp_items, if_neg h]; rfl
theorem NF_item {t : tk_T} {i : Nat} {μ : pm_T} : NF (sp_item t i μ) := NF_i NF_time (NF_i NF_voice (NF_i NF_line (NF_i NF_rule (NF_i NF_row NF_c))))
theorem item_i {t : tk_T} {i : Nat} {μ : pm_T} {q : Nat × pm_T} (e : sp_item t i μ = .inr q) : i + 2 ≤ q.1 := by
  unfold sp_item at e
  split at e
  · exact time_i e
  split at e
  · exact voice_i e
  split at e
  · exact line_i e
  split at e
  · exact rule_i e
  split at e
  · exact row_i e
  · cases e
theorem t_Score_clear {G : cx_T} {s : Nat} {h : ah_T} (hb0 : hb s h) : con G 0 0 0 m_Score_clear [av_R (some s)] h (fun r h' => r = none ∧ hb s h' ∧ fr (fun a _ => a = s) h h' ∧ h'.2.1 s 1 = 0 ∧ h'.2.1 s 2 = 4 ∧ h'.2.1 s 3 = 4 ∧ h'.2.1 s 4 = 0 ∧ h'.2.1 s 6 = 0 ∧ h'.2.1 s 10 = 0 ∧ h'.2.1 s 12 = 0) := by
  refine c_Score_clear hb0 ?_
  unfold B_Score_clear_0
  intro h1 e1 h3 e3 h5 e5 h7 e7 h9 e9 h11 e11 h13 e13
  refine ⟨rfl, hb_i (hb_i (hb_i (hb_i (hb_i (hb_i (hb_i hb0 e1) e3) e5) e7) e9) e11) e13, fr_i (fr_i (fr_i (fr_i (fr_i (fr_i (fr_i fr_0 e1 rfl) e3 rfl) e5 rfl) e7 rfl) e9 rfl) e11 rfl) e13 rfl, ?_⟩
  subst e13 e11 e9 e7 e5 e3 e1
  simp [st_i, up2]
