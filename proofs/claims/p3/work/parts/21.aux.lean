/-! ===== small facts for the walks ===== -/
theorem isS_o {s : Nat} (h : isS s) : isS (97 - s) := by unfold isS at *; omega
theorem lt1_V {v : Nat} (hv : isV v) : v < 170 := by unfold isV at hv; omega
theorem lt1_S {v : Nat} (hv : isS v) : v < 170 := by unfold isS at hv; omega
theorem lt2_V {v k : Nat} (hv : isV v) (hk : k < 40) : v + k < 170 := by unfold isV at hv; omega
theorem lt2_S {v k : Nat} (hv : isS v) (hk : k < 40) : v + k < 170 := by unfold isS at hv; omega
theorem kF_j {F : Nat → Prop} {s a k : Nat} {z lo hi : Int} {h0 h : ah_T} (hk : kF F s h0 h) (ha : ¬ F a) (hn : ns a k) (hq : rg a k = (lo, hi)) (h1 : lo ≤ z) (h2 : z ≤ hi) : kF F s h0 (st_i h a k z) := kF_i hk ha hn hq ⟨h1, h2⟩
theorem kF_js {F : Nat → Prop} {s a k : Nat} {z lo hi : Int} {h0 h : ah_T} (hk : kF F s h0 h) (ha : ¬ F a) (hn : sem (st_i h a k z)) (hq : rg a k = (lo, hi)) (h1 : lo ≤ z) (h2 : z ≤ hi) : kF F s h0 (st_i h a k z) := kF_is hk ha hn hq ⟨h1, h2⟩
