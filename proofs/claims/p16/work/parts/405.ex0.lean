/-! ===== the start of what the law carries ===== -/
theorem hp0_g {a k : Nat} (h : ¬ (a = 0 ∧ k = 1)) (h1 : ¬ (a = 17 ∧ k = 2)) (h2 : ¬ (a = 17 ∧ k = 3)) (h3 : ¬ (a = 80 ∧ k = 2)) (h4 : ¬ (a = 80 ∧ k = 3)) (h5 : ¬ (a = 0 ∧ k = 4)) (h6 : ¬ (a = 170 ∧ k = 13)) : hp_0.2.1 a k = 0 := by
  rw [hp0_i, up2_o h6, up2_o h5, up2_o h4, up2_o h3, up2_o h2, up2_o h1, up2_o h]
theorem EX_0 : EX 17 hp_0 := by
  have g : ∀ a k, ¬ (a = 17 ∧ k = 2) → ¬ (a = 17 ∧ k = 3) → ¬ (a = 80 ∧ k = 2) → ¬ (a = 80 ∧ k = 3) → ¬ (a = 0 ∧ k = 4) → ¬ (a = 170 ∧ k = 13) → hp_0.2.1 a k = 0 := by
    intro a k h1 h2 h3 h4 h5 h6
    by_cases h : a = 0 ∧ k = 1
    · obtain ⟨rfl, rfl⟩ := h
      rw [hp0_i]; simp [up2]
    · exact hp0_g h h1 h2 h3 h4 h5 h6
  have m0 : ∀ a k, ¬ (a = 0 ∧ k = 1) → ¬ (a = 0 ∧ k = 2) → sco0 a k = 0 := fun a k q1 q2 => by
    unfold sco0
    rw [up2_o q2, up2_o q1]
  have m1 : sco0 0 1 = 4 := by unfold sco0; simp [up2]
  have m2 : sco0 0 2 = 4 := by unfold sco0; simp [up2]
  have z0 : ∀ k, k ≠ 1 → k ≠ 2 → sco0 0 k = 0 := fun k q1 q2 => m0 0 k (by omega) (by omega)
  refine ⟨⟨fun _ => 0, 0, by decide, ⟨g 0 1 (by decide) (by decide) (by decide) (by decide) (by decide) (by decide), fun j hj => by omega⟩, ⟨g 170 1 (by decide) (by decide) (by decide) (by decide) (by decide) (by decide), fun j hj => by omega⟩⟩, ?_, sco0, ?_, ?_, ?_, ?_, Or.inr rfl, fun q => ?_⟩
  · rw [hp0_i]; simp [up2]
  · refine ⟨⟨?_, ?_, ?_, ?_, ?_, ?_⟩, ?_, fun j hj => ?_, fun j hj => ?_, fun j hj => ?_, fun n hn => ?_⟩
    · rw [z0 7 (by decide) (by decide)]; exact g 80 1 (by decide) (by decide) (by decide) (by decide) (by decide) (by decide)
    · rw [m1, hp0_i]; simp [up2]
    · rw [m2, hp0_i]; simp [up2]
    · rw [z0 3 (by decide) (by decide)]; exact g 80 6 (by decide) (by decide) (by decide) (by decide) (by decide) (by decide)
    · rw [z0 4 (by decide) (by decide)]; exact g 80 10 (by decide) (by decide) (by decide) (by decide) (by decide) (by decide)
    · rw [z0 5 (by decide) (by decide)]; exact g 80 12 (by decide) (by decide) (by decide) (by decide) (by decide) (by decide)
    · rw [z0 3 (by decide) (by decide), z0 4 (by decide) (by decide), z0 5 (by decide) (by decide), z0 7 (by decide) (by decide)]; decide
    · rw [z0 3 (by decide) (by decide)] at hj; omega
    · rw [z0 4 (by decide) (by decide)] at hj; omega
    · rw [z0 5 (by decide) (by decide)] at hj; omega
    · rw [z0 7 (by decide) (by decide)] at hn; omega
  · refine ⟨⟨?_, ?_, ?_, ?_⟩, ?_, fun j hj => ?_, fun j hj => ?_, fun j hj => ?_, fun n hn => ?_⟩
    · rw [z0 7 (by decide) (by decide)]; exact g 172 0 (by decide) (by decide) (by decide) (by decide) (by decide) (by decide)
    · rw [z0 3 (by decide) (by decide)]; exact g 175 0 (by decide) (by decide) (by decide) (by decide) (by decide) (by decide)
    · rw [z0 4 (by decide) (by decide)]; exact g 177 0 (by decide) (by decide) (by decide) (by decide) (by decide) (by decide)
    · rw [z0 5 (by decide) (by decide)]; exact g 181 0 (by decide) (by decide) (by decide) (by decide) (by decide) (by decide)
    · rw [z0 3 (by decide) (by decide), z0 4 (by decide) (by decide), z0 5 (by decide) (by decide), z0 7 (by decide) (by decide)]; decide
    · rw [z0 3 (by decide) (by decide)] at hj; omega
    · rw [z0 4 (by decide) (by decide)] at hj; omega
    · rw [z0 5 (by decide) (by decide)] at hj; omega
    · rw [z0 7 (by decide) (by decide)] at hn; omega
  · rw [g 173 0 (by decide) (by decide) (by decide) (by decide) (by decide) (by decide), m1]; rfl
  · rw [g 174 0 (by decide) (by decide) (by decide) (by decide) (by decide) (by decide), m2]; rfl
  · rw [z0 7 (by decide) (by decide)] at q; omega
