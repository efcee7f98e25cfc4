theorem up_F {a k : Nat} : True := trivial
def pt_I (h hc : ah_T) (i : Int) : Prop := (∀ k : Nat, k < 4 → (k : Int) < i → hc.2.1 155 k ≤ h.2.1 155 k + 1) ∧ ∀ k : Nat, k < 4 → i ≤ (k : Int) → hc.2.1 155 k = h.2.1 155 k
theorem pt_0 {h : ah_T} : pt_I h h 0 := ⟨fun k _ q => by omega, fun k _ _ => rfl⟩
theorem pt_n {h hc : ah_T} {i : Int} (H : pt_I h hc i) (h0 : 0 ≤ i) : pt_I h hc (i + 1) :=
  ⟨fun k hk q => by
    by_cases hi : (k : Int) < i
    · exact H.1 k hk hi
    · have := H.2 k hk (by omega); omega, fun k hk q => H.2 k hk (by omega)⟩
theorem pt_1 {h hc h1 h2 : ah_T} {i x : Int} (H : pt_I h hc i) (h0 : 0 ≤ i ∧ i < 4) (ex : x = hc.2.1 155 i.toNat) (fr : ∀ a' k', (a' = 155 → k' ≠ i.toNat) → h1.2.1 a' k' = hc.2.1 a' k') (ev : h1.2.1 155 i.toNat = x + 1) (e2 : h2.2.1 155 = h1.2.1 155) : pt_I h h2 (i + 1) := by
  refine ⟨fun k hk q => ?_, fun k hk q => ?_⟩
  · rw [e2]
    by_cases hi : k = i.toNat
    · subst hi; rw [ev, ex, H.2 _ hk (by omega)]; omega
    · rw [fr 155 k (fun _ => hi)]; exact H.1 k hk (by omega)
  · rw [e2, fr 155 k (fun _ => by omega)]; exact H.2 k hk (by omega)
theorem pt_e {h hc : ah_T} {i : Int} (H : pt_I h hc i) (h0 : 4 ≤ i) : ∀ k : Nat, k < 4 → hc.2.1 155 k ≤ h.2.1 155 k + 1 := fun k hk => H.1 k hk (by omega)
def ti_I (hc : ah_T) (i : Int) : Prop := ∀ k : Nat, k < 4 → (k : Int) < i → hc.2.1 155 k ≤ 300
theorem ti_0 {h : ah_T} : ti_I h 0 := fun k _ q => by omega
theorem ti_1 {hc h1 h2 : ah_T} {i x : Int} (H : ti_I hc i) (h0 : 0 ≤ i) (fr : ∀ a' k', (a' = 155 → k' ≠ i.toNat) → h1.2.1 a' k' = hc.2.1 a' k') (ev : h1.2.1 155 i.toNat = x) (hx : x ≤ 300) (e2 : h2.2.1 155 = h1.2.1 155) : ti_I h2 (i + 1) := by
  intro k hk q
  rw [e2]
  by_cases hi : k = i.toNat
  · subst hi; rw [ev]; exact hx
  · rw [fr 155 k (fun _ => hi)]; exact H k hk (by omega)
/-! ===== small facts for the walks ===== -/
theorem isS_o {s : Nat} (h : isS s) : isS (97 - s) := by unfold isS at *; omega
theorem lt1_V {v : Nat} (hv : isV v) : v < 170 := by unfold isV at hv; omega
theorem lt1_S {v : Nat} (hv : isS v) : v < 170 := by unfold isS at hv; omega
theorem lt2_V {v k : Nat} (hv : isV v) (hk : k < 40) : v + k < 170 := by unfold isV at hv; omega
theorem lt2_S {v k : Nat} (hv : isS v) (hk : k < 40) : v + k < 170 := by unfold isS at hv; omega
theorem kF_j {F : Nat → Prop} {s a k : Nat} {z lo hi : Int} {h0 h : ah_T} (hk : kF F s h0 h) (ha : ¬ F a) (hn : ns a k) (hq : rg a k = (lo, hi)) (h1 : lo ≤ z) (h2 : z ≤ hi) : kF F s h0 (st_i h a k z) := kF_i hk ha hn hq ⟨h1, h2⟩
theorem kF_js {F : Nat → Prop} {s a k : Nat} {z lo hi : Int} {h0 h : ah_T} (hk : kF F s h0 h) (ha : ¬ F a) (hn : sem (st_i h a k z)) (hq : rg a k = (lo, hi)) (h1 : lo ≤ z) (h2 : z ≤ hi) : kF F s h0 (st_i h a k z) := kF_is hk ha hn hq ⟨h1, h2⟩
