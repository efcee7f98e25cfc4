/-! ===== going through rows of keys: it comes to an end ===== -/
def rdg (s : Nat → Int) (hi i : Int) : Nat → Int
  | 0 => if 0 ≤ i then 2 else 1
  | j + 1 => if (j : Int) < i then 2 * (hi + 1 - s j) else if (j : Int) = i then (if s j ≤ hi then 2 * (hi + 1 - s j) - 1 else 0) else 255
def hor (r : Nat → Int) : Nat → Int
  | 0 => 0
  | d + 1 => 256 * hor r d + r d
def TM (s : Nat → Int) (hi i : Int) : Int := hor (rdg s hi i) 9
theorem hor_0 {r : Nat → Int} : ∀ N, (∀ d, d < N → 0 ≤ r d) → 0 ≤ hor r N
  | 0, _ => Int.le_refl _
  | N + 1, h => by
    have h1 := hor_0 N (fun d hd => h d (by omega))
    have h2 := h N (by omega)
    show 0 ≤ 256 * hor r N + r N
    omega
theorem hor_e {r r' : Nat → Int} : ∀ N, (∀ d, d < N → r' d = r d) → hor r' N = hor r N
  | 0, _ => rfl
  | N + 1, h => by
    show 256 * hor r' N + r' N = 256 * hor r N + r N
    rw [hor_e N (fun d hd => h d (by omega)), h N (by omega)]
theorem hor_lt {r r' : Nat → Int} {p : Nat} (h1 : ∀ d, d < p → r' d = r d) (h2 : r' p + 1 ≤ r p) : ∀ N, p < N → (∀ d, p < d → d < N → 0 ≤ r d ∧ r' d ≤ 255) → hor r' N + 1 ≤ hor r N
  | 0, h, _ => by omega
  | N + 1, hN, h => by
    show 256 * hor r' N + r' N + 1 ≤ 256 * hor r N + r N
    by_cases hp : p = N
    · subst hp
      rw [hor_e p h1]
      omega
    · have h3 := hor_lt h1 h2 N (by omega) (fun d hd hd2 => h d hd (by omega))
      have h4 := h N (by omega) (by omega)
      omega
/-- where going through stands -/
def TSt (s : Nat → Int) (lo hi sz i : Int) : Prop := -1 ≤ i ∧ i ≤ sz - 1 ∧ (∀ j : Nat, (j : Int) < i → lo - 1 ≤ s j ∧ s j ≤ hi) ∧ (0 ≤ i → lo - 1 ≤ s i.toNat ∧ (s i.toNat ≤ hi ∨ s i.toNat = lo - 1))
section TSL
variable {s s' : Nat → Int} {lo hi sz i x : Int}
theorem rd_b (H : TSt s lo hi sz i) (hl : 0 ≤ lo) (hh : hi ≤ 120) : ∀ d, 0 ≤ rdg s hi i d ∧ rdg s hi i d ≤ 255
  | 0 => by
    show 0 ≤ (if 0 ≤ i then (2 : Int) else 1) ∧ (if 0 ≤ i then (2 : Int) else 1) ≤ 255
    split <;> omega
  | j + 1 => by
    obtain ⟨-, -, h3, h4⟩ := H
    show 0 ≤ (if (j : Int) < i then 2 * (hi + 1 - s j) else if (j : Int) = i then (if s j ≤ hi then 2 * (hi + 1 - s j) - 1 else 0) else 255) ∧ (if (j : Int) < i then 2 * (hi + 1 - s j) else if (j : Int) = i then (if s j ≤ hi then 2 * (hi + 1 - s j) - 1 else 0) else 255) ≤ 255
    split
    · have := h3 j (by assumption)
      omega
    · split
      · rename_i e
        have h5 := h4 (by omega)
        rw [show i.toNat = j by omega] at h5
        split <;> omega
      · omega
theorem TM_0 (H : TSt s lo hi sz i) (hl : 0 ≤ lo) (hh : hi ≤ 120) : 0 ≤ TM s hi i := hor_0 9 (fun d _ => (rd_b H hl hh d).1)
theorem rd_lt {j : Nat} (h : (j : Int) < i) : rdg s hi i (j + 1) = 2 * (hi + 1 - s j) := if_pos h
theorem rd_at {j : Nat} (h : (j : Int) = i) (h2 : s j ≤ hi) : rdg s hi i (j + 1) = 2 * (hi + 1 - s j) - 1 := by
  show (if (j : Int) < i then 2 * (hi + 1 - s j) else if (j : Int) = i then (if s j ≤ hi then 2 * (hi + 1 - s j) - 1 else 0) else 255) = _
  rw [if_neg (by omega), if_pos h, if_pos h2]
/-- too high: one back -/
theorem TS_dn (H : TSt s lo hi sz i) (hl : 0 ≤ lo) (hh : hi ≤ 120) (hs : sz ≤ 8) (h0 : 0 ≤ i) (f : ∀ j, j ≠ i.toNat → s' j = s j) : TSt s' lo hi sz (i - 1) ∧ TM s' hi (i - 1) + 1 ≤ TM s hi i := by
  have hb := rd_b H hl hh
  obtain ⟨h1, h2, h3, h4⟩ := H
  have H' : TSt s' lo hi sz (i - 1) := by
    refine ⟨by omega, by omega, fun j hj => by rw [f j (by omega)]; exact h3 j (by omega), fun hi1 => ?_⟩
    rw [f _ (by omega)]
    have := h3 (i - 1).toNat (by omega)
    omega
  refine ⟨H', ?_⟩
  have hb' := rd_b H' hl hh
  refine hor_lt (p := i.toNat) (fun d hd => ?_) ?_ 9 (by omega) (fun d _ _ => ⟨(hb d).1, (hb' d).2⟩)
  · match d with
    | 0 => show (if 0 ≤ i - 1 then (2 : Int) else 1) = (if 0 ≤ i then (2 : Int) else 1)
           rw [if_pos (by omega), if_pos (by omega)]
    | j + 1 => rw [rd_lt (by omega), rd_lt (by omega), f j (by omega)]
  · match hi2 : i.toNat with
    | 0 => show (if 0 ≤ i - 1 then (2 : Int) else 1) + 1 ≤ (if 0 ≤ i then (2 : Int) else 1)
           rw [if_neg (by omega), if_pos (by omega)]
           omega
    | j + 1 =>
      have h5 := h3 j (by omega)
      rw [rd_at (by omega) (by rw [f j (by omega)]; omega), rd_lt (by omega), f j (by omega)]
      omega
/-- the next key at the same place -/
theorem TS_st (H : TSt s lo hi sz i) (hl : 0 ≤ lo) (hh : hi ≤ 120) (hs : sz ≤ 8) (h0 : 0 ≤ i) (f : ∀ j, j ≠ i.toNat → s' j = s j) (e : s' i.toNat = x) (ex : x = s i.toNat + 1) (hx : x ≤ hi) : TSt s' lo hi sz i ∧ TM s' hi i + 1 ≤ TM s hi i := by
  have hb := rd_b H hl hh
  obtain ⟨h1, h2, h3, h4⟩ := H
  have h5 := h4 h0
  have H' : TSt s' lo hi sz i := ⟨h1, h2, fun j hj => by rw [f j (by omega)]; exact h3 j (by omega), fun hi1 => by rw [e]; omega⟩
  refine ⟨H', ?_⟩
  have hb' := rd_b H' hl hh
  refine hor_lt (p := i.toNat + 1) (fun d hd => ?_) ?_ 9 (by omega) (fun d _ _ => ⟨(hb d).1, (hb' d).2⟩)
  · match d with
    | 0 => rfl
    | j + 1 => rw [rd_lt (by omega), rd_lt (by omega), f j (by omega)]
  · rw [rd_at (by omega) (by rw [e]; omega), rd_at (by omega) (by omega), e]
    omega
/-- on to the next place -/
theorem TS_up (H : TSt s lo hi sz i) (hl : 0 ≤ lo) (hh : hi ≤ 120) (hs : sz ≤ 8) (h0 : 0 ≤ i) (hz : i < sz - 1) (f : ∀ j, j ≠ i.toNat → j ≠ (i + 1).toNat → s' j = s j) (e : s' i.toNat = x) (ex : x = s i.toNat + 1) (hx : x ≤ hi) (e2 : s' (i + 1).toNat = lo - 1) : TSt s' lo hi sz (i + 1) ∧ TM s' hi (i + 1) + 1 ≤ TM s hi i := by
  have hb := rd_b H hl hh
  obtain ⟨h1, h2, h3, h4⟩ := H
  have h5 := h4 h0
  have H' : TSt s' lo hi sz (i + 1) := by
    refine ⟨by omega, by omega, fun j hj => ?_, fun _ => by rw [e2]; omega⟩
    by_cases hc : j = i.toNat
    · rw [hc, e]; omega
    · rw [f j hc (by omega)]; exact h3 j (by omega)
  refine ⟨H', ?_⟩
  have hb' := rd_b H' hl hh
  refine hor_lt (p := i.toNat + 1) (fun d hd => ?_) ?_ 9 (by omega) (fun d _ _ => ⟨(hb d).1, (hb' d).2⟩)
  · match d with
    | 0 => show (if 0 ≤ i + 1 then (2 : Int) else 1) = (if 0 ≤ i then (2 : Int) else 1)
           rw [if_pos (by omega), if_pos (by omega)]
    | j + 1 => rw [rd_lt (by omega), rd_lt (by omega), f j (by omega) (by omega)]
  · rw [rd_lt (by omega), rd_at (by omega) (by omega), e]
    omega
theorem TS_0 (h : s 0 = lo - 1) (hz : 1 ≤ sz) : TSt s lo hi sz 0 := ⟨by omega, by omega, fun j hj => by omega, fun _ => by rw [show (0 : Int).toNat = 0 from rfl, h]; omega⟩
end TSL
