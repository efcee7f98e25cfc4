/-! ===== the bars of a kept voice's events ===== -/
def GO (h : ah_T) (w : Nat) : Prop := ∀ e : Nat, 300 * w ≤ e → (e : Int) < 300 * w + h.2.1 185 w → h.2.1 196 e < h.2.1 186 w
def KO (h : ah_T) : Prop := ∀ w : Nat, (w : Int) < h.2.1 172 0 → GO h w
theorem KO_s {P : Nat → Nat → Bool} {h h' : ah_T} (H : KO h) (hk : kM P h h') (h0 : P 172 0 = false) (hi : ∀ k, P 185 k = false ∧ P 186 k = false ∧ P 196 k = false) : KO h' := by
  intro w hw e h1 h2
  rw [hk.2.2.1 172 0 h0] at hw
  rw [hk.2.2.1 185 w (hi w).1] at h2
  rw [hk.2.2.1 196 e (hi e).2.2, hk.2.2.1 186 w (hi w).2.1]
  exact H w hw e h1 h2
