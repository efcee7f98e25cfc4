/-! ===== the WALK, class: what its cells tell ===== -/
def EVh (π α : pm_T) (v e : Nat) (h : ah_T) : Prop := (0 ≤ α 1 e ∧ α 1 e < π 0 0 ∧ π 1 (α 1 e).toNat = 256) ∧ h.2.1 (v + 7) e = π 18 (α 1 e).toNat ∧ (α 0 2 ≤ 100 → h.2.1 (v + 8) e = α 2 e) ∧ (h.2.2.1 (v + 9) e = α 3 e ∧ h.2.2.1 (v + 10) e = α 4 e ∧ h.2.2.1 (v + 11) e = α 5 e ∧ h.2.2.1 (v + 12) e = α 6 e) ∧ (0 ≤ α 3 e ∧ α 3 e ≤ 1000 * α 4 e ∧ 1 ≤ α 4 e ∧ α 4 e ≤ 1000000) ∧ 1 ≤ α 5 e ∧ α 5 e ≤ 1000 * α 6 e ∧ 1 ≤ α 6 e ∧ α 6 e ≤ 1000000
def WKe (π α : pm_T) (v : Nat) (h : ah_T) : Prop := h.2.1 v 14 = α 0 1 ∧ (0 ≤ α 0 4 ∧ α 0 4 ≤ 1000 * α 0 5 ∧ 1 ≤ α 0 5 ∧ α 0 5 ≤ 1000000) ∧ (h.2.2.1 (v + 9) (α 0 1).toNat = α 0 4 ∧ h.2.2.1 (v + 10) (α 0 1).toNat = α 0 5) ∧ (∀ e : Nat, (e : Int) < α 0 1 → EVh π α v e h) ∧ (α 0 2 ≤ 100 → ∀ b : Nat, (b : Int) ≤ α 0 2 → h.2.1 (v + 13) b = α 7 b ∧ 0 ≤ α 7 b ∧ α 7 b ≤ α 0 1)
def WKh (π α : pm_T) (v : Nat) (h : ah_T) : Prop := (h.2.1 9 8 = α 0 0 ∧ h.2.1 9 9 = α 0 1 ∧ h.2.1 9 10 = α 0 2 ∧ h.2.1 9 11 = (if α 0 3 = 0 then 1 else 0)) ∧ (0 ≤ α 0 1 ∧ α 0 1 ≤ α 0 0 ∧ 0 ≤ α 0 2 ∧ α 0 2 ≤ α 0 0) ∧ ((α 0 2 ≤ 100 → h.2.1 v 16 = α 0 2 + 1) ∧ (100 < α 0 2 → h.2.1 v 16 = 101)) ∧ (α 0 3 = 0 ∧ α 0 1 ≤ 300 → WKe π α v h)
theorem wk_st_o {α : pm_T} {a k : Nat} (h : ¬ (a = 0 ∧ k = 0)) : wk_st α a k = α a k := by unfold wk_st; exact up2_o h
theorem WKe_c {π α α' : pm_T} {v : Nat} {h h' : ah_T} (H : WKe π α v h) (e : ∀ a k, ¬ (a = 0 ∧ (k = 0 ∨ k = 3)) → α' a k = α a k) (g : ∀ a k, a ≠ 9 → h'.2.1 a k = h.2.1 a k) (gl : ∀ a k, h'.2.2.1 a k = h.2.2.1 a k) (hv : 24 ≤ v) : WKe π α' v h' := by
  have g1 : ∀ a k, v ≤ a → h'.2.1 a k = h.2.1 a k := fun a k ha => g a k (by omega)
  have e0 : ∀ k, k ≠ 0 → k ≠ 3 → α' 0 k = α 0 k := fun k h0 h3 => e 0 k (by omega)
  have e1 : ∀ a k, 1 ≤ a → α' a k = α a k := fun a k ha => e a k (by omega)
  obtain ⟨h1, h2, h3, h4, h5⟩ := H
  unfold WKe
  rw [e0 1 (by decide) (by decide), e0 4 (by decide) (by decide), e0 5 (by decide) (by decide), e0 2 (by decide) (by decide), g1 _ _ (Nat.le_refl _), gl, gl]
  refine ⟨h1, h2, h3, fun k hk => ?_, fun hl b hb => ?_⟩
  · have := h4 k hk
    unfold EVh at this ⊢
    rw [e1 1 _ (by decide), e1 2 _ (by decide), e1 3 _ (by decide), e1 4 _ (by decide), e1 5 _ (by decide), e1 6 _ (by decide), e0 2 (by decide) (by decide), g1 _ _ (by omega), g1 _ _ (by omega), gl, gl, gl, gl]
    exact this
  · rw [g1 _ _ (by omega), e1 7 _ (by decide)]; exact h5 hl b hb
/-- a step -/
theorem WKh_st {π α : pm_T} {v : Nat} {h h' : ah_T} {x : Int} (hv : isV v) (H : WKh π α v h) (hx : x = h.2.1 9 8) (e : h' = st_i h 9 8 (x + 1)) : WKh π (wk_st α) v h' := by
  have v24 := isV_24 hv
  obtain ⟨⟨a1, a2, a3, a4⟩, b, c, d⟩ := H
  have g : ∀ a k, ¬ (a = 9 ∧ k = 8) → h'.2.1 a k = h.2.1 a k := fun a k q => mm_i e q
  unfold WKh
  rw [wk_st_0, wk_st_o (by omega), wk_st_o (by omega), wk_st_o (by omega)]
  refine ⟨⟨by rw [mv_i e]; omega, ?_, ?_, ?_⟩, by omega, ?_, fun q => WKe_c (d q) (fun a k q => wk_st_o (by omega)) (fun a k q => g a k (by omega)) (fun a k => mm_io e) v24⟩
  · rw [g _ _ (by omega)]; exact a2
  · rw [g _ _ (by omega)]; exact a3
  · rw [g _ _ (by omega)]; exact a4
  · rw [g _ _ (by omega)]; exact c
/-- a | met -/
theorem WKh_ln {π α : pm_T} {v b l : Nat} {h h' : ah_T} (hv : isV v) (H : WKh π α v h) (hs : α 0 2 + 1 ≤ α 0 0) (hl : α 0 2 = (l : Int)) (hb : h.2.1 v 16 = (b : Int)) (f : fr (fun a k => (a = 9 ∧ k = 10) ∨ (a = v + 13 ∧ k = b) ∨ (a = v ∧ k = 16)) h h') (g1 : h'.2.1 9 10 = (l : Int) + 1) (g2 : l < 100 → h'.2.1 (v + 13) b = h.2.1 v 14 ∧ h'.2.1 v 16 = (b : Int) + 1) (g3 : ¬ l < 100 → h'.2.1 v 16 = (b : Int) ∧ ∀ k, h'.2.1 (v + 13) k = h.2.1 (v + 13) k) : WKh π (wk_ln α) v h' := by
  have v24 := isV_24 hv
  obtain ⟨⟨a1, a2, a3, a4⟩, bb, c, d⟩ := H
  have o : ∀ a k, ¬ (a = 0 ∧ k = 2) → a ≠ 7 → wk_ln α a k = α a k := fun a k q q7 => by
    unfold wk_ln; rw [up2_o q]; split
    · rw [up2_o (by omega)]
    · rfl
  have o2 : wk_ln α 0 2 = α 0 2 + 1 := by unfold wk_ln; rw [up2_at]
  have o0 : ∀ k, k ≠ 2 → wk_ln α 0 k = α 0 k := fun k hk => o 0 k (by omega) (by decide)
  have g : ∀ a k, ¬ ((a = 9 ∧ k = 10) ∨ (a = v + 13 ∧ k = b) ∨ (a = v ∧ k = 16)) → h'.2.1 a k = h.2.1 a k := fun a k q => fr_g f q
  have gl : ∀ a k, a ≠ 9 → a ≠ v → a ≠ v + 13 → h'.2.2.1 a k = h.2.2.1 a k := fun a k q1 q2 q3 => fr_gl f (by omega)
  unfold WKh
  rw [o0 0 (by decide), o0 1 (by decide), o0 3 (by decide), o2]
  refine ⟨⟨?_, ?_, by rw [g1]; omega, ?_⟩, by omega, ⟨fun q => ?_, fun q => ?_⟩, fun q => ?_⟩
  · rw [g _ _ (by omega)]; exact a1
  · rw [g _ _ (by omega)]; exact a2
  · rw [g _ _ (by omega)]; exact a4
  · rw [(g2 (by omega)).2]; have := c.1 (by omega); omega
  · by_cases hc : l < 100
    · omega
    · rw [(g3 hc).1]
      by_cases hc2 : α 0 2 ≤ 100
      · have := c.1 hc2; omega
      · have := c.2 (by omega); omega
  · obtain ⟨w1, w2, w3, w4, w5⟩ := d q
    unfold WKe
    rw [o0 1 (by decide), o0 4 (by decide), o0 5 (by decide), o2]
    refine ⟨by rw [g _ _ (by omega)]; exact w1, w2, by rw [gl _ _ (by omega) (by omega) (by omega), gl _ _ (by omega) (by omega) (by omega)]; exact w3, fun e he => ?_, fun hl' k hk => ?_⟩
    · obtain ⟨y1, y2, y3, y4, y5⟩ := w4 e he
      unfold EVh
      rw [o 1 _ (by omega) (by decide), o 2 _ (by omega) (by decide), o 3 _ (by omega) (by decide), o 4 _ (by omega) (by decide), o 5 _ (by omega) (by decide), o 6 _ (by omega) (by decide), o2, g _ _ (by omega), g _ _ (by omega), gl _ _ (by omega) (by omega) (by omega), gl _ _ (by omega) (by omega) (by omega), gl _ _ (by omega) (by omega) (by omega), gl _ _ (by omega) (by omega) (by omega)]
      exact ⟨y1, y2, fun q => y3 (by omega), y4, y5⟩
    · have hb' : b = l + 1 := by have := c.1 (by omega); omega
      have e7 : ∀ k, wk_ln α 7 k = (if k = l + 1 then α 0 1 else α 7 k) := fun k => by
        unfold wk_ln; rw [up2_o (by omega), if_pos (by omega)]
        have : (α 0 2).toNat + 1 = l + 1 := by omega
        rw [this]
        by_cases hc : k = l + 1
        · rw [if_pos hc, hc, up2_at]
        · rw [if_neg hc, up2_o (by omega)]
      rw [e7]
      by_cases hc : k = l + 1
      · rw [if_pos hc, hc, ← hb', (g2 (by omega)).1]
        exact ⟨w1, by omega, Int.le_refl _⟩
      · rw [if_neg hc, g _ _ (by omega)]
        exact w5 (by omega) k (by omega)
