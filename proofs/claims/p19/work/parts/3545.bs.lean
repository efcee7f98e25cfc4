/-! ===== beside: the last column ===== -/
def CM (q : ah_T) (n m lo : Int) : Prop := ∀ x : Nat, lo ≤ (x : Int) → (x : Int) ≤ n → q.2.1 239 (81 * (x : Int) + m).toNat = 5 * (n - x)
def CX (h h' : ah_T) (i j n m : Int) : Prop := (j = m → i = n → h'.2.1 239 (81 * i + j).toNat = 0) ∧ (j = m → i < n → 0 ≤ h.2.1 239 (81 * i + j + 81).toNat → h.2.1 239 (81 * i + j + 81).toNat ≤ 1000 → h'.2.1 239 (81 * i + j).toNat = 5 + h.2.1 239 (81 * i + j + 81).toNat) ∧ ∀ x : Nat, x ≠ (81 * i + j).toNat → h'.2.1 239 x = h.2.1 239 x
theorem CM_at {q : ah_T} {n m lo i : Int} {k : Nat} (H : CM q n m lo) (h0 : 0 ≤ i) (h1 : lo ≤ i) (h2 : i ≤ n) (hk : k = (81 * i + m).toNat) : q.2.1 239 k = 5 * (n - i) := by
  have h3 := H i.toNat (by omega) (by omega)
  rw [show ((i.toNat : Nat) : Int) = i by omega] at h3
  rw [hk]
  exact h3
/-- a cell that isn't of the last column -/
theorem CM_o {q q' : ah_T} {i j n m lo : Int} (H : CM q n m lo) (hl : i ≤ lo) (hi : 0 ≤ i) (h0 : 0 ≤ j) (hj : j < m) (hm : m ≤ 80) (x : CX q q' i j n m) : CM q' n m lo := by
  intro y h1 h2
  rw [x.2.2 _ (by omega)]
  exact H y h1 h2
/-- a cell of the last column -/
theorem CM_c {q q' : ah_T} {i n m : Int} (H : CM q n m (i + 1)) (hi : 0 ≤ i) (hin : i ≤ n) (hn : n ≤ 80) (hm0 : 0 ≤ m) (hm : m ≤ 80) (x : CX q q' i m n m) : CM q' n m i := by
  obtain ⟨x1, x2, x3⟩ := x
  intro y h1 h2
  by_cases hy : (y : Int) = i
  · by_cases hc : i = n
    · rw [show (81 * (y : Int) + m).toNat = (81 * i + m).toNat by omega, x1 rfl hc]
      omega
    · have h4 := CM_at H (i := i + 1) (k := (81 * i + m + 81).toNat) (by omega) (by omega) (by omega) (by omega)
      rw [show (81 * (y : Int) + m).toNat = (81 * i + m).toNat by omega, x2 rfl (by omega) (by omega) (by omega), h4]
      omega
  · rw [x3 _ (by omega)]
    exact H y (by omega) h2
/-- what the cells behind (i, j) cost at most -/
def CD (q : ah_T) (n m i j : Int) : Prop := ∀ x y : Nat, (x : Int) ≤ n → (y : Int) ≤ m → (i < (x : Int) ∨ ((x : Int) = i ∧ j < (y : Int))) → 0 ≤ q.2.1 239 (81 * (x : Int) + y).toNat ∧ q.2.1 239 (81 * (x : Int) + y).toNat ≤ 5 * ((n - x) + (m - y))
theorem CD_0 {q : ah_T} {n m : Int} : CD q n m n m := fun x y h1 h2 h3 => by omega
theorem CD_at {q : ah_T} {n m i j x y : Int} {k : Nat} (H : CD q n m i j) (hx0 : 0 ≤ x) (hy0 : 0 ≤ y) (hx : x ≤ n) (hy : y ≤ m) (hc : i < x ∨ (x = i ∧ j < y)) (hk : k = (81 * x + y).toNat) : 0 ≤ q.2.1 239 k ∧ q.2.1 239 k ≤ 5 * ((n - x) + (m - y)) := by
  have h := H x.toNat y.toNat (by omega) (by omega) (by omega)
  rw [show ((x.toNat : Nat) : Int) = x by omega, show ((y.toNat : Nat) : Int) = y by omega] at h
  rw [hk]
  exact h
theorem CD_s {q q' : ah_T} {n m i j : Int} (H : CD q n m i j) (hi : 0 ≤ i) (hj : 0 ≤ j) (hjm : j ≤ m) (hm : m ≤ 80) (f : ∀ x : Nat, x ≠ (81 * i + j).toNat → q'.2.1 239 x = q.2.1 239 x) (e : 0 ≤ q'.2.1 239 (81 * i + j).toNat ∧ q'.2.1 239 (81 * i + j).toNat ≤ 5 * ((n - i) + (m - j))) : CD q' n m i (j - 1) := by
  intro x y h1 h2 h3
  by_cases hc : (x : Int) = i ∧ (y : Int) = j
  · rw [show (81 * (x : Int) + y).toNat = (81 * i + j).toNat by omega]
    omega
  · rw [f _ (by omega)]
    exact H x y h1 h2 (by omega)
theorem CD_r {q : ah_T} {n m i j : Int} (H : CD q n m i j) (hj : j ≤ -1) : CD q n m (i - 1) m := fun x y h1 h2 h3 => H x y h1 h2 (by omega)
