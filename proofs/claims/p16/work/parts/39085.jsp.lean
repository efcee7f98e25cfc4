/-! ===== what a WALK gives: STARTS one behind another, BARS and their events ===== -/
theorem wk_ind {π : pm_T} {P : pm_T → Prop} (hs : ∀ α, P α → P (wk_st α)) (hl : ∀ α, P α → P (wk_ln α)) (he : ∀ j sT sB α, P α → P (wk_ev π j sT sB α)) : ∀ (f : Nat) (b : Bool) (x y : Nat) (sT sB : Int) (α : pm_T), P α → P (wk π f b x y sT sB α)
  | 0, _, _, _, _, _, _, h => by rw [wk]; exact h
  | f + 1, true, x, y, sT, sB, α, h => by
    have ih := fun b x y sT sB α h => wk_ind hs hl he f b x y sT sB α h
    rw [wk]
    split
    · exact h
    split
    · refine ih _ _ _ _ _ _ ?_
      split
      · exact ih _ _ _ _ _ _ (hs _ h)
      · exact ih _ _ _ _ _ _ (hs _ (ih _ _ _ _ _ _ (hs _ (hs _ h))))
    split
    · exact ih _ _ _ _ _ _ (ih _ _ _ _ _ _ (hs _ h))
    split
    · exact ih _ _ _ _ _ _ (hl _ (hs _ h))
    split
    · exact ih _ _ _ _ _ _ (he _ _ _ _ (hs _ h))
    · exact ih _ _ _ _ _ _ (hs _ h)
  | f + 1, false, x, y, sT, sB, α, h => by
    have ih := fun b x y sT sB α h => wk_ind hs hl he f b x y sT sB α h
    rw [wk]
    split
    · exact ih _ _ _ _ _ _ (ih _ _ _ _ _ _ (ih _ _ _ _ _ _ (hs _ h)))
    · exact h
def nxT (α : pm_T) (e : Nat) : Int := if (e : Int) + 1 < α 0 1 then α 3 (e + 1) else α 0 4
def nxB (α : pm_T) (e : Nat) : Int := if (e : Int) + 1 < α 0 1 then α 4 (e + 1) else α 0 5
def WGa (α : pm_T) : Prop := ∀ e : Nat, (e : Int) < α 0 1 → nxT α e = rdT (α 3 e * α 6 e + α 5 e * α 4 e) (α 4 e * α 6 e) ∧ nxB α e = rdB (α 3 e * α 6 e + α 5 e * α 4 e) (α 4 e * α 6 e)
def WGb (α : pm_T) : Prop := α 7 0 = 0 ∧ (∀ b : Nat, (b : Int) ≤ α 0 2 → 0 ≤ α 7 b ∧ α 7 b ≤ α 0 1) ∧ ∀ e : Nat, (e : Int) < α 0 1 → (0 ≤ α 2 e ∧ α 2 e ≤ α 0 2) ∧ ∀ b : Nat, (b : Int) ≤ α 0 2 → (α 7 b ≤ e ↔ (b : Int) ≤ α 2 e)
def WGs (α : pm_T) : Prop := (0 ≤ α 0 1 ∧ 0 ≤ α 0 2) ∧ (α 0 3 = 0 → α 0 1 ≤ 300 → WGa α ∧ (α 0 2 ≤ 100 → WGb α))
theorem WG_st {α : pm_T} (H : WGs α) : WGs (wk_st α) := by
  have e : ∀ a k, ¬ (a = 0 ∧ k = 0) → wk_st α a k = α a k := fun a k q => up2_o q
  obtain ⟨h0, h1⟩ := H
  unfold WGs WGa WGb nxT nxB
  simp only [e 0 1 (by decide), e 0 2 (by decide), e 0 3 (by decide), e 0 4 (by decide), e 0 5 (by decide), e 2 _ (fun w => absurd w.1 (by decide)), e 3 _ (fun w => absurd w.1 (by decide)), e 4 _ (fun w => absurd w.1 (by decide)), e 5 _ (fun w => absurd w.1 (by decide)), e 6 _ (fun w => absurd w.1 (by decide)), e 7 _ (fun w => absurd w.1 (by decide))]
  exact ⟨h0, h1⟩
theorem WG_ln {α : pm_T} (H : WGs α) : WGs (wk_ln α) := by
  obtain ⟨⟨h0, h2⟩, h1⟩ := H
  have e2 : wk_ln α 0 2 = α 0 2 + 1 := by unfold wk_ln; rw [up2_at]
  have e : ∀ a k, ¬ (a = 0 ∧ k = 2) → ¬ (a = 7 ∧ k = (α 0 2).toNat + 1) → wk_ln α a k = α a k := fun a k q q2 => by
    unfold wk_ln
    rw [up2_o q]
    split
    · rw [up2_o q2]
    · rfl
  have e7 : α 0 2 < 100 → wk_ln α 7 ((α 0 2).toNat + 1) = α 0 1 := fun c => by
    unfold wk_ln
    rw [up2_o (by omega), if_pos c, up2_at]
  have n7 : ∀ a k, a ≠ 7 → ¬ (a = 7 ∧ k = (α 0 2).toNat + 1) := fun a k q w => q w.1
  have r : ∀ a k, a ≠ 0 → a ≠ 7 → wk_ln α a k = α a k := fun a k q q2 => e a k (fun w => q w.1) (n7 a k q2)
  have r0 : ∀ k, k ≠ 2 → wk_ln α 0 k = α 0 k := fun k q => e 0 k (fun w => q w.2) (by omega)
  refine ⟨⟨by rw [r0 1 (by decide)]; exact h0, by omega⟩, fun c3 c1 => ?_⟩
  rw [r0 3 (by decide)] at c3
  rw [r0 1 (by decide)] at c1
  obtain ⟨ha, hb⟩ := h1 c3 c1
  refine ⟨fun k hk => ?_, fun c2 => ?_⟩
  · unfold nxT nxB
    rw [r0 1 (by decide)] at hk ⊢
    rw [r0 4 (by decide), r0 5 (by decide), r 3 _ (by decide) (by decide), r 3 _ (by decide) (by decide), r 4 _ (by decide) (by decide), r 4 _ (by decide) (by decide), r 5 _ (by decide) (by decide), r 6 _ (by decide) (by decide)]
    exact ha k hk
  · rw [e2] at c2
    obtain ⟨b0, b1, b2⟩ := hb (by omega)
    have e7' := e7 (by omega)
    have o7 : ∀ b : Nat, (b : Int) ≤ α 0 2 → wk_ln α 7 b = α 7 b := fun b q => e 7 b (by omega) (by omega)
    unfold WGb
    rw [e2, r0 1 (by decide)]
    refine ⟨by rw [o7 0 (by omega)]; exact b0, fun b q => ?_, fun k hk => ?_⟩
    · by_cases c : (b : Int) ≤ α 0 2
      · rw [o7 b c]; exact b1 b c
      · obtain rfl : b = (α 0 2).toNat + 1 := by omega
        rw [e7']; omega
    · obtain ⟨x1, x2⟩ := b2 k hk
      rw [r 2 _ (by decide) (by decide)]
      refine ⟨⟨x1.1, by omega⟩, fun b q => ?_⟩
      by_cases c : (b : Int) ≤ α 0 2
      · rw [o7 b c]; exact x2 b c
      · obtain rfl : b = (α 0 2).toNat + 1 := by omega
        rw [e7']; omega
theorem gc_e (x y : Int) : x = (Int.gcd x y : Int) * rdT x y ∧ y = (Int.gcd x y : Int) * rdB x y := by
  unfold rdT rdB
  exact ⟨(Int.mul_ediv_cancel' (Int.gcd_dvd_left x y)).symm, (Int.mul_ediv_cancel' (Int.gcd_dvd_right x y)).symm⟩
theorem WG_ev {π : pm_T} {j : Nat} {sT sB : Int} {α : pm_T} (H : WGs α) : WGs (wk_ev π j sT sB α) := by
  obtain ⟨⟨h0, h2⟩, h1⟩ := H
  unfold wk_ev
  dsimp only
  split
  · rename_i cc
    obtain ⟨ha, hb⟩ := h1 cc.1 (by omega)
    generalize rdT (lnT π j sT) (lnB π j sB) = lT
    generalize rdB (lnT π j sT) (lnB π j sB) = lB
    split
    · refine ⟨⟨?_, ?_⟩, fun c3 => ?_⟩
      · simp [up2]; omega
      · simp [up2]; omega
      · simp [up2] at c3
    · generalize hT : rdT (α 0 4 * lB + lT * α 0 5) (α 0 5 * lB) = nT at *
      generalize hB : rdB (α 0 4 * lB + lT * α 0 5) (α 0 5 * lB) = nB at *
      generalize (if isFr nT nB = true then (1 : Int) else 0) = fz
      obtain ⟨N, hN⟩ : ∃ N : Nat, α 0 1 = N := ⟨(α 0 1).toNat, by omega⟩
      have tN : (α 0 1).toNat = N := by omega
      rw [tN]
      generalize eβ : up2 (up2 (up2 (up2 (up2 (up2 (up2 (up2 (up2 (up2 α 0 1 (α 0 1 + 1)) 1 N (j : Int)) 2 N (α 0 2)) 3 N (α 0 4)) 4 N (α 0 5)) 5 N lT) 6 N lB) 0 4 nT) 0 5 nB) 0 3 fz = β
      have o : ∀ a k, a ≠ 0 → k ≠ N → β a k = α a k := fun a k q1 q2 => by
        rw [← eβ, up2_o (by omega), up2_o (by omega), up2_o (by omega), up2_o (by omega), up2_o (by omega), up2_o (by omega), up2_o (by omega), up2_o (by omega), up2_o (by omega), up2_o (by omega)]
      have v1 : β 0 1 = α 0 1 + 1 := by rw [← eβ]; simp [up2]
      have v2 : β 0 2 = α 0 2 := by rw [← eβ]; simp [up2]
      have v4 : β 0 4 = nT := by rw [← eβ]; simp [up2]
      have v5 : β 0 5 = nB := by rw [← eβ]; simp [up2]
      have n2 : β 2 N = α 0 2 := by rw [← eβ]; simp [up2]
      have n3 : β 3 N = α 0 4 := by rw [← eβ]; simp [up2]
      have n4 : β 4 N = α 0 5 := by rw [← eβ]; simp [up2]
      have n5 : β 5 N = lT := by rw [← eβ]; simp [up2]
      have n6 : β 6 N = lB := by rw [← eβ]; simp [up2]
      have o7 : ∀ k, β 7 k = α 7 k := fun k => by
        rw [← eβ, up2_o (by omega), up2_o (by omega), up2_o (by omega), up2_o (by omega), up2_o (by omega), up2_o (by omega), up2_o (by omega), up2_o (by omega), up2_o (by omega), up2_o (by omega)]
      refine ⟨⟨by omega, by omega⟩, fun _ _ => ⟨fun k hk => ?_, fun c2 => ?_⟩⟩
      · unfold nxT nxB
        rw [v1] at hk ⊢
        by_cases c : k = N
        · subst c
          rw [if_neg (by omega), if_neg (by omega), n3, n4, n5, n6, v4, v5]
          exact ⟨hT.symm, hB.symm⟩
        · obtain ⟨x1, x2⟩ := ha k (by omega)
          unfold nxT at x1
          unfold nxB at x2
          rw [if_pos (show (k : Int) + 1 < α 0 1 + 1 by omega), if_pos (show (k : Int) + 1 < α 0 1 + 1 by omega), o 3 k (by decide) c, o 6 k (by decide) c, o 5 k (by decide) c, o 4 k (by decide) c]
          by_cases c' : k + 1 = N
          · rw [if_neg (show ¬ (k : Int) + 1 < α 0 1 by omega)] at x1 x2
            rw [c', n3, n4]
            exact ⟨x1, x2⟩
          · rw [if_pos (show (k : Int) + 1 < α 0 1 by omega)] at x1 x2
            rw [o 3 (k + 1) (by decide) c', o 4 (k + 1) (by decide) c']
            exact ⟨x1, x2⟩
      · rw [v2] at c2
        obtain ⟨b0, b1, b2⟩ := hb c2
        unfold WGb
        rw [v1, v2, o7]
        refine ⟨b0, fun b q => ?_, fun k hk => ?_⟩
        · rw [o7]
          have := b1 b q
          omega
        · by_cases c : k = N
          · subst c
            rw [n2]
            refine ⟨by omega, fun b q => ?_⟩
            rw [o7]
            have := b1 b q
            omega
          · rw [o 2 k (by decide) c]
            refine ⟨(b2 k (by omega)).1, fun b q => ?_⟩
            rw [o7]
            exact (b2 k (by omega)).2 b q
  · rename_i cc
    have v1 : up2 α 0 1 (α 0 1 + 1) 0 1 = α 0 1 + 1 := up2_at
    have v : ∀ k, k ≠ 1 → up2 α 0 1 (α 0 1 + 1) 0 k = α 0 k := fun k q => up2_o (by omega)
    refine ⟨⟨by omega, by rw [v 2 (by decide)]; exact h2⟩, fun c3 c1 => ?_⟩
    rw [v 3 (by decide)] at c3
    omega
theorem WG_walk {π : pm_T} : WGs (walk π) := by
  refine wk_ind (fun α h => WG_st h) (fun α h => WG_ln h) (fun j sT sB α h => WG_ev h) _ _ _ _ _ _ _ ?_
  have v : ∀ a k, ¬ (a = 0 ∧ k = 5) → wk0 a k = 0 := fun a k q => up2_o q
  refine ⟨⟨by rw [v _ _ (by decide)]; decide, by rw [v _ _ (by decide)]; decide⟩, fun _ _ => ⟨fun e he => ?_, fun _ => ⟨v _ _ (by decide), fun b hb => ?_, fun e he => ?_⟩⟩⟩
  · rw [v _ _ (by decide)] at he; omega
  · rw [v 7 b (by omega), v 0 1 (by decide)]; decide
  · rw [v _ _ (by decide)] at he; omega
