/-! ===== beam: the runs of a BAR, a spec of our own ===== -/
noncomputable def dif {α : Type} (p : Prop) (a b : α) : α := @ite _ p (Classical.propDecidable p) a b
theorem dif_t {α : Type} {p : Prop} {a b : α} (h : p) : dif p a b = a := by unfold dif; exact if_pos h
theorem dif_f {α : Type} {p : Prop} {a b : α} (h : ¬ p) : dif p a b = b := by unfold dif; exact if_neg h
noncomputable def cntS (μ : pm_T) (n f : Nat) : Nat → Nat
  | 0 => 0
  | k + 1 => cntS μ n f k + dif (Shr μ n (f + k)) 1 0
/-- a run up to z is cut -/
noncomputable def cutC (μ : pm_T) (n f z : Nat) (q : Int × Nat × List Int) : Int × List Int := (q.1 + leaC (jnC μ n f) z (z - q.2.1), q.2.2 ++ grpC (jnC μ n f) z (z - q.2.1) (z - q.2.1))
noncomputable def csC (μ : pm_T) (n f : Nat) : Nat → Int × Nat × List Int
  | 0 => (0, f, [])
  | k + 1 => dif (Shr μ n (f + k)) (csC μ n f k) ((cutC μ n f (f + k) (csC μ n f k)).1, f + k + 1, (cutC μ n f (f + k) (csC μ n f k)).2)
theorem cntS_m {μ : pm_T} {n f : Nat} {k : Nat} : ∀ m, k ≤ m → cntS μ n f k ≤ cntS μ n f m
  | 0, h => by
    have : k = 0 := by omega
    subst this; exact Nat.le_refl _
  | m + 1, h => by
    by_cases c : k = m + 1
    · subst c; exact Nat.le_refl _
    · exact Nat.le_trans (cntS_m m (by omega)) (Nat.le_add_right _ _)
theorem cut_b {μ : pm_T} {n f z : Nat} {q : Int × Nat × List Int} (GG : GM μ) (hn : (n : Int) < μ 0 7) (hz : (z : Int) ≤ μ (10 + n) 0) (h1 : q.2.1 ≤ z) (hs : ∀ e, q.2.1 ≤ e → e < z → Shr μ n e) : (q.1 ≤ (cutC μ n f z q).1 ∧ (cutC μ n f z q).1 ≤ q.1 + 3 * ((z - q.2.1 : Nat) : Int)) ∧ (cutC μ n f z q).2.length ≤ q.2.2.length + (z - q.2.1) := by
  have lb := leaC_b (jc := jnC μ n f) (z := z) (r := z - q.2.1) (by omega) (fun e h2 h3 => jnC_b GG hn (by omega) (hs e (by omega) h3).1 (hs (e - 1) (by omega) (by omega)).1) (z - q.2.1) (Nat.le_refl _)
  have gl := grpC_l (jc := jnC μ n f) (z := z) (z - q.2.1) (z - q.2.1)
  unfold cutC
  refine ⟨⟨?_, ?_⟩, ?_⟩
  · dsimp only; omega
  · dsimp only; omega
  · dsimp only; rw [List.length_append]; omega
theorem csC_b {μ : pm_T} {n f : Nat} (GG : GM μ) (hn : (n : Int) < μ 0 7) : ∀ k : Nat, ((f + k : Nat) : Int) ≤ μ (10 + n) 0 → (f ≤ (csC μ n f k).2.1 ∧ (csC μ n f k).2.1 ≤ f + k) ∧ (∀ e, (csC μ n f k).2.1 ≤ e → e < f + k → Shr μ n e) ∧ (csC μ n f k).2.2.length + (f + k - (csC μ n f k).2.1) ≤ cntS μ n f k ∧ 0 ≤ (csC μ n f k).1 ∧ (csC μ n f k).1 + 3 * ((f + k - (csC μ n f k).2.1 : Nat) : Int) ≤ 3 * (cntS μ n f k : Int)
  | 0, _ => by
    rw [csC, cntS]
    refine ⟨⟨Nat.le_refl _, Nat.le_refl _⟩, fun e h1 h2 => ?_, ?_, Int.le_refl _, ?_⟩
    · dsimp only at h1; omega
    · dsimp only; show 0 + _ ≤ _; omega
    · dsimp only; omega
  | k + 1, h => by
    obtain ⟨⟨i1, i2⟩, i3, i4, i5, i6⟩ := csC_b (f := f) GG hn k (by omega)
    rw [csC, cntS]
    by_cases c : Shr μ n (f + k)
    · rw [dif_t c, dif_t c]
      refine ⟨⟨i1, by omega⟩, fun e h1 h2 => ?_, by omega, i5, by omega⟩
      by_cases ce : e = f + k
      · subst ce; exact c
      · exact i3 e h1 (by omega)
    · rw [dif_f c, dif_f c]
      obtain ⟨⟨x1, x2⟩, x3⟩ := cut_b (f := f) GG hn (z := f + k) (q := csC μ n f k) (by omega) i2 i3
      refine ⟨⟨?_, ?_⟩, fun e h1 h2 => ?_, ?_, ?_, ?_⟩
      · dsimp only; omega
      · dsimp only; omega
      · dsimp only at h1; omega
      · dsimp only; omega
      · dsimp only; omega
      · dsimp only; omega
/-- beam's answer, and the GROUPS found -/
noncomputable def bmC (μ : pm_T) (n b : Nat) : Int := dif (14 < cntS μ n (brE μ n b) (brE μ n (b + 1) - brE μ n b)) (-4) (cutC μ n (brE μ n b) (brE μ n (b + 1)) (csC μ n (brE μ n b) (brE μ n (b + 1) - brE μ n b))).1
noncomputable def bmv (μ : pm_T) (v b : Int) : Int := dif ((0 ≤ v ∧ v < μ 0 7) ∧ (0 ≤ b ∧ b < μ (10 + v.toNat) 1)) (bmC μ v.toNat b.toNat) (-1)
