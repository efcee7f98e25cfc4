/-! ===== what a score's memory tells of its voices ===== -/
def VGo (μ : pm_T) (n : Nat) : Prop :=
  (∀ e : Nat, (e : Int) < μ (10 + n) 0 → smT μ n (e + 1) = rdT (smT μ n e * μ (100 + 40 * n + 3) e + μ (100 + 40 * n + 2) e * smB μ n e) (smB μ n e * μ (100 + 40 * n + 3) e) ∧ smB μ n (e + 1) = rdB (smT μ n e * μ (100 + 40 * n + 3) e + μ (100 + 40 * n + 2) e * smB μ n e) (smB μ n e * μ (100 + 40 * n + 3) e)) ∧
  μ (100 + 40 * n + 30) 0 = 0 ∧ (∀ b : Nat, (b : Int) < μ (10 + n) 1 → 0 ≤ μ (100 + 40 * n + 30) b ∧ μ (100 + 40 * n + 30) b ≤ μ (10 + n) 0) ∧
  ∀ e : Nat, (e : Int) < μ (10 + n) 0 → (0 ≤ μ (100 + 40 * n + 6) e ∧ μ (100 + 40 * n + 6) e < μ (10 + n) 1) ∧ ∀ b : Nat, (b : Int) < μ (10 + n) 1 → (μ (100 + 40 * n + 30) b ≤ e ↔ (b : Int) ≤ μ (100 + 40 * n + 6) e)
def VGm (μ : pm_T) : Prop := (0 ≤ μ 0 7 ∧ μ 0 7 ≤ 4) ∧ ∀ n : Nat, (n : Int) < μ 0 7 → VGo μ n
theorem VGo_c {μ μ' : pm_T} {n : Nat} (H : VGo μ n) (e : ∀ a k, vrow n a → μ' a k = μ a k) : VGo μ' n := by
  have e1 : ∀ k, μ' (10 + n) k = μ (10 + n) k := fun k => e _ k (Or.inl rfl)
  have e2 : ∀ w k, w < 40 → μ' (100 + 40 * n + w) k = μ (100 + 40 * n + w) k := fun w k hw => e _ k (Or.inr ⟨by omega, by omega⟩)
  have eT : ∀ k, smT μ' n k = smT μ n k := fun k => by
    unfold smT
    rw [e1, e2 0 _ (by decide), e2 31 _ (by decide)]
  have eB : ∀ k, smB μ' n k = smB μ n k := fun k => by
    unfold smB
    rw [e1, e2 1 _ (by decide), e2 31 _ (by decide)]
  unfold VGo
  simp only [e1, eT, eB, e2 2 _ (by decide), e2 3 _ (by decide), e2 30 _ (by decide), e2 6 _ (by decide)]
  exact H
theorem VGm_k {μ μ' : pm_T} (H : VGm μ) (k : kr μ μ') : VGm μ' := by
  refine ⟨by rw [k.1]; exact H.1, fun n hn => VGo_c (H.2 n (by rw [← k.1]; exact hn)) (fun a j w => k.2.1 a j ?_)⟩
  unfold vrow at w
  omega
theorem VGo_new {μ π : pm_T} {n : Nat} (hn : n = (μ 0 7).toNat) (h : ¬ (2000 < walk π 0 0 ∨ 300 < walk π 0 1 ∨ 100 < walk π 0 2)) (h3 : walk π 0 3 = 0) : VGo (addV μ π (walk π)) n := by
  obtain ⟨⟨w0, w2⟩, w⟩ := WG_walk (π := π)
  obtain ⟨ha, hb⟩ := w h3 (by omega)
  obtain ⟨b0, b1, b2⟩ := hb (by omega)
  clear w hb
  generalize walk π = α at *
  obtain ⟨n0, n1⟩ := addV_n (π := π) (α := α) hn
  have r : ∀ {w k : Nat}, w < 40 → addV μ π α (100 + 40 * n + w) k = _ := fun {w k} hw => addV_i (π := π) (α := α) (k := k) hn hw
  have r31 : ∀ k, addV μ π α (100 + 40 * n + 31) k = α 0 (4 + k) := fun k => (r (by decide)).trans rfl
  have r30 : ∀ k, addV μ π α (100 + 40 * n + 30) k = α 7 k := fun k => (r (by decide)).trans rfl
  have r0 : ∀ k, addV μ π α (100 + 40 * n + 0) k = α 3 k := fun k => (r (by decide)).trans rfl
  have r1 : ∀ k, addV μ π α (100 + 40 * n + 1) k = α 4 k := fun k => (r (by decide)).trans rfl
  have r2 : ∀ k, addV μ π α (100 + 40 * n + 2) k = α 5 k := fun k => (r (by decide)).trans rfl
  have r3 : ∀ k, addV μ π α (100 + 40 * n + 3) k = α 6 k := fun k => (r (by decide)).trans rfl
  have r6 : ∀ k, addV μ π α (100 + 40 * n + 6) k = α 2 k := fun k => (r (by decide)).trans rfl
  have eT : ∀ k : Nat, smT (addV μ π α) n k = if (k : Int) < α 0 1 then α 3 k else α 0 4 := fun k => by
    unfold smT
    rw [n0, r0, r31]
  have eB : ∀ k : Nat, smB (addV μ π α) n k = if (k : Int) < α 0 1 then α 4 k else α 0 5 := fun k => by
    unfold smB
    rw [n0, r1, r31]
  unfold VGo
  rw [n0, n1]
  refine ⟨fun e he => ?_, by rw [r30]; exact b0, fun b hb => by rw [r30]; exact b1 b (by omega), fun e he => ?_⟩
  · obtain ⟨x1, x2⟩ := ha e he
    rw [eT, eT, eB, eB, r2, r3, if_pos he, if_pos he, ← x1, ← x2]
    exact ⟨rfl, rfl⟩
  · obtain ⟨x1, x2⟩ := b2 e he
    rw [r6]
    exact ⟨⟨x1.1, by omega⟩, fun b hb => by rw [r30]; exact x2 b (by omega)⟩
theorem vg_items {t : tk_T} : ∀ (f i : Nat) (μ ν : pm_T), sp_items t f i μ = .inr ν → VGm μ → VGm ν
  | 0, _, _, _, h, _ => by rw [sp_items] at h; cases h
  | f + 1, i, μ, ν, h, H => by
    rw [sp_items] at h
    split at h
    · cases h; exact H
    · obtain ⟨q, eq, h⟩ := bnd_r h
      refine vg_items f _ _ _ h ?_
      split at eq
      · exact VGm_k H (time_k eq)
      · split at eq
        · unfold sp_voice at eq
          split at eq
          · rename_i c4
            obtain ⟨a, ea, eq⟩ := bnd_r eq
            split at eq
            · cases eq
            · rename_i c
              split at eq
              · rename_i c3
                obtain rfl := Sum.inr.inj eq
                have e7 : addV μ a.2 (walk a.2) 0 7 = μ 0 7 + 1 := by unfold addV; rw [if_pos ⟨rfl, rfl⟩]
                obtain ⟨h1, h2⟩ := H
                refine ⟨?_, fun n hn => ?_⟩
                · show 0 ≤ addV μ a.2 (walk a.2) 0 7 ∧ addV μ a.2 (walk a.2) 0 7 ≤ 4
                  rw [e7]; omega
                · have hn' : (n : Int) < addV μ a.2 (walk a.2) 0 7 := hn
                  rw [e7] at hn'
                  show VGo (addV μ a.2 (walk a.2)) n
                  by_cases cn : n = (μ 0 7).toNat
                  · exact VGo_new cn c c3
                  · exact VGo_c (h2 n (by omega)) (fun x k w => addV_b (n := n) (by omega) w (by omega))
              · cases eq
          · cases eq
        · split at eq
          · exact VGm_k H (line_k eq)
          · split at eq
            · exact VGm_k H (rule_k eq)
            · split at eq
              · exact VGm_k H (row_k eq)
              · cases eq
theorem VGm_of {μ : pm_T} (H : OKm μ) : VGm μ := by
  have h0 : VGm sco0 := by
    have e : sco0 0 7 = 0 := by unfold sco0; simp [up2]
    exact ⟨by rw [e]; decide, fun n hn => by rw [e] at hn; omega⟩
  rcases H with ⟨X, -, e⟩ | rfl
  · exact vg_items _ _ _ _ e h0
  · exact h0
