/-! ===== the bars of a kept voice's events ===== -/
def GO (h : ah_T) (w : Nat) : Prop := ∀ e : Nat, 300 * w ≤ e → (e : Int) < 300 * w + h.2.1 185 w → h.2.1 196 e < h.2.1 186 w
def KO (h : ah_T) : Prop := ∀ w : Nat, (w : Int) < h.2.1 172 0 → GO h w
