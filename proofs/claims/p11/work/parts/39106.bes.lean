/-! ===== beam: THE BEST GROUPS of a run, a spec of our own ===== -/
/-- the cost of one GROUP of k events from a on -/
def togC (jc : Nat → Int) (a : Nat) : Nat → Int
  | 0 => 1
  | k + 1 => togC jc a k + jc (a + k + 1)
/-- the best over sizes 1 .. k + 1, of what stands behind W tells -/
def innC (jc : Nat → Int) (W : Nat → Int) (a r : Nat) : Nat → Int × Int
  | 0 => (3 + W (r - 1), 1)
  | k + 1 => if k + 2 ≤ r ∧ togC jc a (k + 1) + W (r - (k + 2)) ≤ (innC jc W a r k).1 then (togC jc a (k + 1) + W (r - (k + 2)), ((k + 2 : Nat) : Int)) else innC jc W a r k
/-- the least cost of the last r events up to z, and the size taken first -/
def tabC (jc : Nat → Int) (z : Nat) : Nat → Nat → Int × Int
  | 0 => fun _ => (0, 1)
  | r + 1 => up1 (tabC jc z r) (r + 1) (innC jc (fun k => (tabC jc z r k).1) (z - (r + 1)) (r + 1) 5)
def leaC (jc : Nat → Int) (z r : Nat) : Int := (tabC jc z r r).1
def takC (jc : Nat → Int) (z r : Nat) : Int := (tabC jc z r r).2
theorem tabC_k {jc : Nat → Int} {z k : Nat} : ∀ r : Nat, k ≤ r → tabC jc z r k = tabC jc z k k
  | 0, h => by
    have : k = 0 := by omega
    subst this; rfl
  | r + 1, h => by
    by_cases c : k = r + 1
    · subst c; rfl
    · have ih := tabC_k (jc := jc) (z := z) (k := k) r (by omega)
      show up1 (tabC jc z r) (r + 1) _ k = _
      unfold up1
      rw [if_neg c]
      exact ih
theorem innC_W {jc W W' : Nat → Int} {a r : Nat} (hr : 1 ≤ r) (h : ∀ k, k < r → W k = W' k) : ∀ k, innC jc W a r k = innC jc W' a r k
  | 0 => by rw [innC, innC, h _ (by omega)]
  | k + 1 => by
    rw [innC, innC, innC_W hr h k]
    by_cases c : k + 2 ≤ r
    · rw [h _ (show r - (k + 2) < r by omega)]
    · rw [if_neg (fun w => c w.1), if_neg (fun w => c w.1)]
theorem tab_s {jc : Nat → Int} {z r : Nat} : tabC jc z (r + 1) (r + 1) = innC jc (leaC jc z) (z - (r + 1)) (r + 1) 5 := by
  show up1 (tabC jc z r) (r + 1) _ (r + 1) = _
  unfold up1
  rw [if_pos rfl]
  refine innC_W (by omega) (fun k hk => ?_) 5
  unfold leaC
  rw [tabC_k r (by omega)]
theorem innC_b {jc W : Nat → Int} {a r : Nat} (hr : 1 ≤ r) : ∀ k, 1 ≤ (innC jc W a r k).2 ∧ (innC jc W a r k).2 ≤ r ∧ (innC jc W a r k).2 ≤ (k : Int) + 1
  | 0 => by
    rw [innC]
    refine ⟨?_, ?_, ?_⟩ <;> dsimp only <;> omega
  | k + 1 => by
    have ih := innC_b (jc := jc) (W := W) (a := a) hr k
    rw [innC]
    split
    · rename_i c
      have := c.1
      refine ⟨?_, ?_, ?_⟩ <;> dsimp only <;> omega
    · omega
theorem takC_b {jc : Nat → Int} {z r : Nat} (hr : 1 ≤ r) : 1 ≤ takC jc z r ∧ takC jc z r ≤ r ∧ takC jc z r ≤ 6 := by
  obtain ⟨q, rfl⟩ : ∃ q, r = q + 1 := ⟨r - 1, by omega⟩
  unfold takC
  rw [tab_s]
  have := innC_b (jc := jc) (W := leaC jc z) (a := z - (q + 1)) (r := q + 1) (by omega) 5
  omega
/-- behind the last size that has room nothing changes -/
theorem innC_e {jc W : Nat → Int} {a r k : Nat} : ∀ m, k ≤ m → r < k + 2 → innC jc W a r m = innC jc W a r k
  | 0, h, _ => by
    have : k = 0 := by omega
    subst this; rfl
  | m + 1, h, h2 => by
    by_cases c : k = m + 1
    · subst c; rfl
    · rw [innC, if_neg (fun w => by have := w.1; omega)]
      exact innC_e m (by omega) h2
theorem togC_b {jc : Nat → Int} {a : Nat} {M : Nat} (h : ∀ k, k < M → 0 ≤ jc (a + k + 1) ∧ jc (a + k + 1) ≤ 61) : ∀ k, k ≤ M → 1 ≤ togC jc a k ∧ togC jc a k ≤ 1 + 61 * (k : Int)
  | 0, _ => by rw [togC]; omega
  | k + 1, hk => by
    have ih := togC_b h k (by omega)
    have := h k (by omega)
    rw [togC]
    omega
theorem innC_c {jc W : Nat → Int} {a r : Nat} (hr : 1 ≤ r) (hj : ∀ e, a < e → e < a + r → 0 ≤ jc e ∧ jc e ≤ 61) (hW : ∀ k, k < r → 0 ≤ W k ∧ W k ≤ 3 * (k : Int)) : ∀ k, 0 ≤ (innC jc W a r k).1 ∧ (innC jc W a r k).1 ≤ 3 * (r : Int)
  | 0 => by
    have := hW (r - 1) (by omega)
    rw [innC]
    dsimp only
    omega
  | k + 1 => by
    have ih := innC_c hr hj hW k
    rw [innC]
    split
    · rename_i c
      have t := togC_b (jc := jc) (a := a) (M := k + 1) (fun i hi => hj _ (by omega) (by omega)) (k + 1) (Nat.le_refl _)
      have := hW (r - (k + 2)) (by omega)
      dsimp only
      omega
    · exact ih
theorem leaC_b {jc : Nat → Int} {z r : Nat} (hr : r ≤ z) (hj : ∀ e, z - r < e → e < z → 0 ≤ jc e ∧ jc e ≤ 61) : ∀ k, k ≤ r → 0 ≤ leaC jc z k ∧ leaC jc z k ≤ 3 * (k : Int) := by
  intro k
  induction k using Nat.strongRecOn with
  | ind k ih =>
    intro hk
    cases k with
    | zero => exact ⟨Int.le_refl _, Int.le_refl _⟩
    | succ q =>
      unfold leaC
      rw [tab_s]
      exact innC_c (by omega) (fun e h1 h2 => hj e (by omega) (by omega)) (fun i hi => ih i (by omega) (by omega)) 5
/-- the GROUPS of the last r events up to z -/
def grpC (jc : Nat → Int) (z : Nat) : Nat → Nat → List Int
  | 0, _ => []
  | f + 1, r => if r = 0 then [] else takC jc z r :: grpC jc z f (r - (takC jc z r).toNat)
theorem grpC_f {jc : Nat → Int} {z : Nat} : ∀ (f g r : Nat), r ≤ f → r ≤ g → grpC jc z f r = grpC jc z g r
  | 0, g, r, h, _ => by
    have : r = 0 := by omega
    subst this
    cases g with
    | zero => rfl
    | succ g => rw [grpC, grpC, if_pos rfl]
  | f + 1, 0, r, _, h => by
    have : r = 0 := by omega
    subst this
    rw [grpC, grpC, if_pos rfl]
  | f + 1, g + 1, r, h, h2 => by
    rw [grpC, grpC]
    split
    · rfl
    · have b := takC_b (jc := jc) (z := z) (r := r) (by omega)
      rw [grpC_f f g _ (by omega) (by omega)]
theorem grpC_s {jc : Nat → Int} {z r : Nat} (hr : 1 ≤ r) : grpC jc z r r = takC jc z r :: grpC jc z (r - (takC jc z r).toNat) (r - (takC jc z r).toNat) := by
  obtain ⟨q, rfl⟩ : ∃ q, r = q + 1 := ⟨r - 1, by omega⟩
  have b := takC_b (jc := jc) (z := z) (r := q + 1) (by omega)
  rw [grpC, if_neg (by omega), grpC_f q _ _ (by omega) (Nat.le_refl _)]
theorem grpC_l {jc : Nat → Int} {z : Nat} : ∀ (f r : Nat), (grpC jc z f r).length ≤ r
  | 0, _ => Nat.zero_le _
  | f + 1, r => by
    rw [grpC]
    split
    · exact Nat.zero_le _
    · have b := takC_b (jc := jc) (z := z) (r := r) (by omega)
      have := grpC_l (jc := jc) (z := z) f (r - (takC jc z r).toNat)
      rw [List.length_cons]
      omega
