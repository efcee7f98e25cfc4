/-! ===== which event is the first of a bar; short events ===== -/
def FO (h : ah_T) (v b i : Int) : Prop := 0 ≤ i ∧ i ≤ h.2.1 185 v.toNat ∧ (∀ j : Nat, (j : Int) < i → h.2.1 196 (300 * v + j).toNat < b) ∧ (i < h.2.1 185 v.toNat → b ≤ h.2.1 196 (300 * v + i).toNat)
def SHq (h : ah_T) (e : Nat) : Int := if 0 < h.2.1 191 e ∧ 8 ≤ h.2.1 197 e then 1 else 0
