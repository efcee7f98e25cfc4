/-! ===== faults have numbers 1 to 7 ===== -/
def FN7 {β : Type} (R : F_T ⊕ β) : Prop := ∀ q, R = .inl q → 1 ≤ q.1 ∧ q.1 ≤ 7
theorem FN_r {β : Type} {x : β} : FN7 (.inr x : F_T ⊕ β) := fun q e => by cases e
theorem FN_l {β : Type} {a b : Int} (h : 1 ≤ a ∧ a ≤ 7) : FN7 (.inl (a, b) : F_T ⊕ β) := fun q e => by cases e; exact h
theorem FN_c {β : Type} {t : tk_T} {i : Nat} : FN7 (.inl (cn t i) : F_T ⊕ β) := FN_l ⟨by split <;> decide, by split <;> decide⟩
theorem FN_b {β γ : Type} {x : F_T ⊕ β} {f : β → F_T ⊕ γ} (h : FN7 x) (h2 : ∀ b, FN7 (f b)) : FN7 (bnd x f) := by
  rcases x with q | b
  · intro q' e; cases e; exact h q rfl
  · exact h2 b
theorem FN_i {β : Type} {p : Prop} [Decidable p] {x y : F_T ⊕ β} (h : FN7 x) (h2 : FN7 y) : FN7 (if p then x else y) := by split <;> assumption
theorem FN_n {t : tk_T} {i : Nat} {most : Int} {pw : Bool} : FN7 (sp_num t i most pw) := FN_i (FN_i FN_r (FN_l (by decide))) FN_c
theorem FN_t {t : tk_T} {i : Nat} {k : Int} : FN7 (sp_take t i k) := FN_i FN_r FN_c
theorem FN_a {t : tk_T} {i : Nat} {π : pm_T} : FN7 (sp_adm t i π) := FN_i FN_r (FN_l (by decide))
theorem FN_ch {t : tk_T} : ∀ (f i : Nat) (π : pm_T), FN7 (sp_chord t f i π)
  | 0, _, _ => FN_l (by decide)
  | f + 1, i, π => FN_i (FN_i (FN_l (by decide)) (FN_i (FN_l ⟨by split <;> decide, by split <;> decide⟩) (FN_b FN_a (fun _ => FN_i FN_r (FN_ch f _ _))))) FN_c
theorem FN_s {t : tk_T} {i : Nat} {π : pm_T} : FN7 (sp_sound t i π) := FN_i (FN_b FN_a (fun _ => FN_r)) (FN_i (FN_b FN_a (fun _ => FN_r)) (FN_ch _ _ _))
theorem FN_d {t : tk_T} : ∀ (f i : Nat) (d : Int), FN7 (sp_dots t f i d)
  | 0, _, _ => FN_l (by decide)
  | f + 1, i, d => FN_i (FN_i (FN_l (by decide)) (FN_d f _ _)) FN_r
theorem FN_e {t : tk_T} {i : Nat} {π : pm_T} : FN7 (sp_event t i π) := FN_b FN_s (fun _ => FN_b FN_n (fun _ => FN_b (FN_d _ _ _) (fun _ => FN_i (FN_i (FN_l (by decide)) FN_r) FN_r)))
theorem FN_x {t : tk_T} {i : Nat} {π : pm_T} : FN7 (sp_times t i π) := FN_b FN_n (fun _ => FN_b FN_t (fun _ => FN_b FN_n (fun _ => FN_b FN_t (fun _ => FN_r))))
theorem FN_p {t : tk_T} {i : Nat} {π : pm_T} : FN7 (sp_part t i π) := FN_i FN_r (FN_i (FN_i FN_e (FN_l (by decide))) (FN_i (FN_i FN_r (FN_l (by decide))) (FN_i (FN_i FN_r (FN_l (by decide))) (FN_i (FN_i FN_x (FN_l (by decide))) FN_c))))
theorem FN_pits {t : tk_T} : ∀ (f i : Nat) (μ : pm_T), FN7 (sp_pits t f i μ)
  | 0, _, _ => FN_l (by decide)
  | f + 1, i, μ => FN_i (FN_i (FN_l (by decide)) (FN_i FN_r (FN_pits f _ _))) FN_c
theorem FN_name {t : tk_T} {i : Nat} {μ : pm_T} : FN7 (sp_name t i μ) := FN_i (FN_i FN_r (FN_i (FN_l (by decide)) FN_r)) FN_c
theorem FN_rows {t : tk_T} : ∀ (f i : Nat) (μ : pm_T), FN7 (sp_rows t f i μ)
  | 0, _, _ => FN_l (by decide)
  | f + 1, i, μ => FN_i (FN_i (FN_b FN_name (fun _ => FN_i FN_r (FN_rows f _ _))) (FN_l (by decide))) FN_c
theorem FN_parts {t : tk_T} : ∀ (f i : Nat) (π : pm_T), FN7 (sp_parts t f i π)
  | 0, _, _ => FN_l (by decide)
  | f + 1, i, π => FN_i FN_r (FN_b FN_p (fun _ => FN_parts f _ _))
theorem FN_time {t : tk_T} {i : Nat} {μ : pm_T} : FN7 (sp_time t i μ) := FN_i (FN_b FN_n (fun _ => FN_b FN_t (fun _ => FN_b FN_n (fun _ => FN_b FN_t (fun _ => FN_r))))) (FN_l (by decide))
theorem FN_line {t : tk_T} {i : Nat} {μ : pm_T} : FN7 (sp_line t i μ) := FN_i (FN_pits _ _ _) (FN_l (by decide))
theorem FN_rule {t : tk_T} {i : Nat} {μ : pm_T} : FN7 (sp_rule t i μ) := FN_i (FN_b FN_name (fun _ => FN_b FN_t (fun _ => FN_b FN_name (fun _ => FN_i (FN_b FN_name (fun _ => FN_b FN_t (fun _ => FN_r))) (FN_b FN_t (fun _ => FN_r)))))) (FN_l (by decide))
theorem FN_row {t : tk_T} {i : Nat} {μ : pm_T} : FN7 (sp_row t i μ) := FN_i (FN_rows _ _ _) (FN_l (by decide))
theorem FN_voice {t : tk_T} {i : Nat} {μ : pm_T} : FN7 (sp_voice t i μ) := FN_i (FN_b (FN_parts _ _ _) (fun _ => FN_i (FN_l (by decide)) (FN_i FN_r (FN_l (by decide))))) (FN_l (by decide))
theorem FN_item {t : tk_T} {i : Nat} {μ : pm_T} : FN7 (sp_item t i μ) := FN_i FN_time (FN_i FN_voice (FN_i FN_line (FN_i FN_rule (FN_i FN_row FN_c))))
theorem FN_items {t : tk_T} : ∀ (f i : Nat) (μ : pm_T), FN7 (sp_items t f i μ)
  | 0, _, _ => FN_l (by decide)
  | f + 1, i, μ => by
    by_cases c : tK t i = 256
    · rw [sp_items, if_pos c]; exact FN_r
    · rw [sp_items_e c]; exact FN_b FN_item (fun _ => FN_items f _ _)
theorem FN_score {t : tk_T} : FN7 (sp_score t) := FN_items _ _ _
