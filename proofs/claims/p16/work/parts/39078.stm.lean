/-! ===== the TIME of a score is good ===== -/
def TMg (μ : pm_T) : Prop := (1 ≤ μ 0 1 ∧ μ 0 1 ≤ 32) ∧ (1 ≤ μ 0 2 ∧ μ 0 2 ≤ 32) ∧ pwb (μ 0 2) = true
theorem TMg_k {μ μ' : pm_T} (h : TMg μ) (e1 : μ' 0 1 = μ 0 1) (e2 : μ' 0 2 = μ 0 2) : TMg μ' := by
  unfold TMg
  rw [e1, e2]
  exact h
theorem tg_bn {β γ : Type} {x : F_T ⊕ β} {f : β → F_T ⊕ γ} {y : γ} (h : bnd x f = .inr y) : ∃ b, x = .inr b ∧ f b = .inr y := by
  cases x with
  | inl q => exact absurd h (by simp [bnd])
  | inr b => exact ⟨b, rfl, h⟩
theorem tg_num {t : tk_T} {i : Nat} {m a : Int} {p : Bool} (h : sp_num t i m p = .inr a) : (1 ≤ a ∧ a ≤ m) ∧ (p = false ∨ pwb a = true) := by
  unfold sp_num at h
  split at h
  · split at h
    · rename_i c
      obtain rfl := Sum.inr.inj h
      exact c
    · exact absurd h (by simp)
  · exact absurd h (by simp)
theorem tg_time {t : tk_T} {i : Nat} {μ : pm_T} {q : Nat × pm_T} (h : sp_time t i μ = .inr q) : TMg q.2 := by
  unfold sp_time at h
  split at h
  · obtain ⟨a, ea, h⟩ := tg_bn h
    obtain ⟨_, -, h⟩ := tg_bn h
    obtain ⟨b, eb, h⟩ := tg_bn h
    obtain ⟨_, -, h⟩ := tg_bn h
    obtain rfl := Sum.inr.inj h
    obtain ⟨a1, -⟩ := tg_num ea
    obtain ⟨b1, b2⟩ := tg_num eb
    have e1 : (up2 (up2 (up2 μ 0 0 1) 0 1 a) 0 2 b) 0 1 = a := by simp [up2]
    have e2 : (up2 (up2 (up2 μ 0 0 1) 0 1 a) 0 2 b) 0 2 = b := by simp [up2]
    show TMg (up2 (up2 (up2 μ 0 0 1) 0 1 a) 0 2 b)
    unfold TMg
    rw [e1, e2]
    exact ⟨a1, b1, b2.elim (fun c => absurd c (by decide)) id⟩
  · exact absurd h (by simp)
theorem tg_pits {t : tk_T} : ∀ (f i : Nat) (μ : pm_T) (q : Nat × pm_T), sp_pits t f i μ = .inr q → TMg μ → TMg q.2
  | 0, _, _, _, h, _ => absurd h (by simp [sp_pits])
  | f + 1, i, μ, q, h, T => by
    have T' : TMg (pit t i μ) := TMg_k T (by simp [pit, up2]) (by simp [pit, up2])
    rw [sp_pits] at h
    split at h
    · split at h
      · exact absurd h (by simp)
      · split at h
        · obtain rfl := Sum.inr.inj h
          exact T'
        · exact tg_pits f _ _ _ h T'
    · exact absurd h (by simp)
theorem tg_name {t : tk_T} {i : Nat} {μ : pm_T} {q : Int × pm_T} (h : sp_name t i μ = .inr q) (T : TMg μ) : TMg q.2 := by
  unfold sp_name at h
  split at h
  · split at h
    · obtain rfl := Sum.inr.inj h
      exact T
    · split at h
      · exact absurd h (by simp)
      · obtain rfl := Sum.inr.inj h
        exact TMg_k T (by simp [up2]) (by simp [up2])
  · exact absurd h (by simp)
theorem tg_rows {t : tk_T} : ∀ (f i : Nat) (μ : pm_T) (q : Nat × pm_T), sp_rows t f i μ = .inr q → TMg μ → TMg q.2
  | 0, _, _, _, h, _ => absurd h (by simp [sp_rows])
  | f + 1, i, μ, q, h, T => by
    rw [sp_rows] at h
    split at h
    · split at h
      · obtain ⟨a, ea, h⟩ := tg_bn h
        have T' : TMg (rowa a.2 a.1) := TMg_k (tg_name ea T) (by simp [rowa, up2]) (by simp [rowa, up2])
        split at h
        · obtain rfl := Sum.inr.inj h
          exact T'
        · exact tg_rows f _ _ _ h T'
      · exact absurd h (by simp)
    · exact absurd h (by simp)
theorem tg_addr {μ : pm_T} {a b c : Int} (T : TMg μ) : TMg (addr μ a b c) := TMg_k T (by simp [addr, up2]) (by simp [addr, up2])
theorem tg_rule {t : tk_T} {i : Nat} {μ : pm_T} {q : Nat × pm_T} (h : sp_rule t i μ = .inr q) (T : TMg μ) : TMg q.2 := by
  unfold sp_rule at h
  split at h
  · obtain ⟨a, ea, h⟩ := tg_bn h
    obtain ⟨_, -, h⟩ := tg_bn h
    obtain ⟨b, eb, h⟩ := tg_bn h
    have Tb := tg_name eb (tg_name ea T)
    split at h
    · obtain ⟨c, ec, h⟩ := tg_bn h
      obtain ⟨_, -, h⟩ := tg_bn h
      obtain rfl := Sum.inr.inj h
      exact tg_addr (tg_name ec Tb)
    · obtain ⟨_, -, h⟩ := tg_bn h
      obtain rfl := Sum.inr.inj h
      exact tg_addr Tb
  · exact absurd h (by simp)
theorem tg_addV {μ π α : pm_T} (T : TMg μ) : TMg (addV μ π α) := by
  refine TMg_k T ?_ ?_ <;> · unfold addV; rw [if_neg (by omega), if_neg (by omega), if_neg (by omega), if_neg (by omega)]
theorem tg_voice {t : tk_T} {i : Nat} {μ : pm_T} {q : Nat × pm_T} (h : sp_voice t i μ = .inr q) (T : TMg μ) : TMg q.2 := by
  unfold sp_voice at h
  split at h
  · obtain ⟨a, ea, h⟩ := tg_bn h
    split at h
    · exact absurd h (by simp)
    · split at h
      · obtain rfl := Sum.inr.inj h
        exact tg_addV T
      · exact absurd h (by simp)
  · exact absurd h (by simp)
theorem tg_items {t : tk_T} : ∀ (f i : Nat) (μ ν : pm_T), sp_items t f i μ = .inr ν → TMg μ → TMg ν
  | 0, _, _, _, h, _ => absurd h (by simp [sp_items])
  | f + 1, i, μ, ν, h, T => by
    rw [sp_items] at h
    split at h
    · obtain rfl := Sum.inr.inj h
      exact T
    · obtain ⟨q, eq, h⟩ := tg_bn h
      refine tg_items f _ _ _ h ?_
      split at eq
      · exact tg_time eq
      · split at eq
        · exact tg_voice eq T
        · split at eq
          · unfold sp_line at eq
            split at eq
            · exact tg_pits _ _ _ _ eq T
            · exact absurd eq (by simp)
          · split at eq
            · exact tg_rule eq T
            · split at eq
              · unfold sp_row at eq
                split at eq
                · exact tg_rows _ _ _ _ eq T
                · exact absurd eq (by simp)
              · exact absurd eq (by simp)
theorem tg_score {t : tk_T} {ν : pm_T} (h : sp_score t = .inr ν) : TMg ν := tg_items _ _ _ _ h (by unfold TMg sco0; refine ⟨⟨?_, ?_⟩, ⟨?_, ?_⟩, ?_⟩ <;> simp [up2, pwb])
