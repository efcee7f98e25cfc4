/-! ===== page: THE BEST LINES, a spec of our own ===== -/
/-- what is left of w behind k bars from a on -/
def lefL (wd : Nat → Int) (w : Int) (a : Nat) : Nat → Int
  | 0 => w
  | k + 1 => lefL wd w a k - wd (a + k)
/-- the best over lines of 1 .. k + 1 bars, of the last r bars -/
def innL (wd : Nat → Int) (w : Int) (W : Nat → Int) (a r : Nat) : Nat → Int × Int
  | 0 => (W (r - 1) + lnC (lefL wd w a 1) (decide (r = 1)), 1)
  | k + 1 => if k + 2 ≤ r ∧ 0 ≤ lefL wd w a (k + 2) ∧ W (r - (k + 2)) + lnC (lefL wd w a (k + 2)) (decide (r = k + 2)) ≤ (innL wd w W a r k).1 then (W (r - (k + 2)) + lnC (lefL wd w a (k + 2)) (decide (r = k + 2)), ((k + 2 : Nat) : Int)) else innL wd w W a r k
def tabL (wd : Nat → Int) (w : Int) (z : Nat) : Nat → Nat → Int × Int
  | 0 => fun _ => (0, 1)
  | r + 1 => up1 (tabL wd w z r) (r + 1) (innL wd w (fun k => (tabL wd w z r k).1) (z - (r + 1)) (r + 1) 13)
def leaL (wd : Nat → Int) (w : Int) (z r : Nat) : Int := (tabL wd w z r r).1
def takL (wd : Nat → Int) (w : Int) (z r : Nat) : Int := (tabL wd w z r r).2
theorem tabL_k {wd : Nat → Int} {w : Int} {z k : Nat} : ∀ r : Nat, k ≤ r → tabL wd w z r k = tabL wd w z k k
  | 0, h => by
    have : k = 0 := by omega
    subst this; rfl
  | r + 1, h => by
    by_cases c : k = r + 1
    · subst c; rfl
    · have ih := tabL_k (wd := wd) (w := w) (z := z) (k := k) r (by omega)
      show up1 (tabL wd w z r) (r + 1) _ k = _
      unfold up1
      rw [if_neg c]
      exact ih
theorem innL_W {wd W W' : Nat → Int} {w : Int} {a r : Nat} (hr : 1 ≤ r) (h : ∀ k, k < r → W k = W' k) : ∀ k, innL wd w W a r k = innL wd w W' a r k
  | 0 => by rw [innL, innL, h _ (by omega)]
  | k + 1 => by
    rw [innL, innL, innL_W hr h k]
    by_cases c : k + 2 ≤ r
    · rw [h _ (show r - (k + 2) < r by omega)]
    · rw [if_neg (fun q => c q.1), if_neg (fun q => c q.1)]
theorem tabL_s {wd : Nat → Int} {w : Int} {z r : Nat} : tabL wd w z (r + 1) (r + 1) = innL wd w (leaL wd w z) (z - (r + 1)) (r + 1) 13 := by
  show up1 (tabL wd w z r) (r + 1) _ (r + 1) = _
  unfold up1
  rw [if_pos rfl]
  refine innL_W (by omega) (fun k hk => ?_) 13
  unfold leaL
  rw [tabL_k r (by omega)]
theorem innL_b {wd W : Nat → Int} {w : Int} {a r : Nat} (hr : 1 ≤ r) : ∀ k, 1 ≤ (innL wd w W a r k).2 ∧ (innL wd w W a r k).2 ≤ r ∧ (innL wd w W a r k).2 ≤ (k : Int) + 1
  | 0 => by
    rw [innL]
    refine ⟨?_, ?_, ?_⟩ <;> dsimp only <;> omega
  | k + 1 => by
    have ih := innL_b (wd := wd) (W := W) (w := w) (a := a) hr k
    rw [innL]
    split
    · rename_i c
      have := c.1
      refine ⟨?_, ?_, ?_⟩ <;> dsimp only <;> omega
    · omega
theorem takL_b {wd : Nat → Int} {w : Int} {z r : Nat} (hr : 1 ≤ r) : 1 ≤ takL wd w z r ∧ takL wd w z r ≤ r := by
  obtain ⟨q, rfl⟩ : ∃ q, r = q + 1 := ⟨r - 1, by omega⟩
  unfold takL
  rw [tabL_s]
  have := innL_b (wd := wd) (W := leaL wd w z) (w := w) (a := z - (q + 1)) (r := q + 1) (by omega) 13
  omega
/-- once there is no room left, or no bar, nothing changes -/
theorem lefL_m {wd : Nat → Int} {w : Int} {a : Nat} (h : ∀ i, 0 ≤ wd i) {k : Nat} : ∀ m, k ≤ m → lefL wd w a m ≤ lefL wd w a k
  | 0, q => by
    have : k = 0 := by omega
    subst this; exact Int.le_refl _
  | m + 1, q => by
    by_cases c : k = m + 1
    · subst c; exact Int.le_refl _
    · have := lefL_m (w := w) (a := a) h (k := k) m (by omega)
      have := h (a + m)
      rw [lefL]
      omega
theorem innL_e {wd W : Nat → Int} {w : Int} {a r k : Nat} (h : ∀ i, 0 ≤ wd i) : ∀ m, k ≤ m → (r < k + 2 ∨ lefL wd w a (k + 2) < 0) → innL wd w W a r m = innL wd w W a r k
  | 0, q, _ => by
    have : k = 0 := by omega
    subst this; rfl
  | m + 1, q, q2 => by
    by_cases c : k = m + 1
    · subst c; rfl
    · have mm := lefL_m (w := w) (a := a) h (k := k + 2) (m + 2) (by omega)
      rw [innL, if_neg (fun x => by have := x.1; have := x.2.1; omega)]
      exact innL_e h m (by omega) q2
/-! bounds of what lines cost: D tells how wide the bars ahead are at most -/
theorem sq_b {x m : Int} (h0 : 0 ≤ x) (h1 : x ≤ m) : 0 ≤ x * x ∧ x * x ≤ m * x := ⟨Int.mul_nonneg h0 h0, Int.mul_le_mul_of_nonneg_right h1 h0⟩
theorem lnC_b {l x : Int} {q : Bool} (h0 : 0 ≤ x) (h1 : x ≤ 40000) (h2 : -x ≤ l) (h3 : l ≤ 1000) : 0 ≤ lnC l q ∧ lnC l q ≤ 40000 * x + 1010000 := by
  unfold lnC
  by_cases c : l < 0
  · rw [if_pos c]
    have e : l * l = (-l) * (-l) := by rw [Int.neg_mul_neg]
    have s := sq_b (x := -l) (m := 40000) (by omega) (by omega)
    rw [e]
    omega
  · rw [if_neg c]
    have s := sq_b (x := l) (m := 1000) (by omega) h3
    split <;> omega
theorem lefL_le {wd : Nat → Int} {w : Int} {a : Nat} (h : ∀ i, 0 ≤ wd i) (k : Nat) : lefL wd w a k ≤ w := lefL_m h (k := 0) k (Nat.zero_le _)
theorem lefL_D {wd D : Nat → Int} {w : Int} {a : Nat} (hD : ∀ i, 0 ≤ wd i ∧ wd i ≤ D (i + 1) - D i) : ∀ k, w - (D (a + k) - D a) ≤ lefL wd w a k
  | 0 => by rw [lefL]; show w - (D a - D a) ≤ w; omega
  | k + 1 => by
    have ih := lefL_D (w := w) (a := a) hD k
    have := hD (a + k)
    have e : D (a + (k + 1)) = D (a + k + 1) := rfl
    rw [lefL, e]
    omega
theorem innL_c {wd D W : Nat → Int} {w : Int} {a r : Nat} (hr : 1 ≤ r) (hw : 0 ≤ w ∧ w ≤ 1000) (hD : ∀ i, 0 ≤ wd i ∧ wd i ≤ D (i + 1) - D i) (hx : D (a + 1) - D a ≤ 40000) (hW : ∀ k, k < r → 0 ≤ W k) : ∀ k, 0 ≤ (innL wd w W a r k).1 ∧ (innL wd w W a r k).1 ≤ W (r - 1) + 40000 * (D (a + 1) - D a) + 1010000
  | 0 => by
    have d := lefL_D (w := w) (a := a) hD 1
    have l := lefL_le (w := w) (a := a) (fun i => (hD i).1) 1
    have := hW (r - 1) (by omega)
    have := hD a
    have b := lnC_b (l := lefL wd w a 1) (x := D (a + 1) - D a) (q := decide (r = 1)) (by omega) hx (by omega) (by omega)
    rw [innL]
    dsimp only
    omega
  | k + 1 => by
    have ih := innL_c (w := w) hr hw hD hx hW k
    rw [innL]
    split
    · rename_i c
      obtain ⟨c1, c2, c3⟩ := c
      have l := lefL_le (w := w) (a := a) (fun i => (hD i).1) (k + 2)
      have := hW (r - (k + 2)) (by omega)
      have b := lnC_b (l := lefL wd w a (k + 2)) (x := 0) (q := decide (r = k + 2)) (by omega) (by omega) (by omega) (by omega)
      dsimp only
      omega
    · exact ih
theorem leaL_b {wd D : Nat → Int} {w : Int} {z : Nat} (hw : 0 ≤ w ∧ w ≤ 1000) (hD : ∀ i, 0 ≤ wd i ∧ wd i ≤ D (i + 1) - D i) (hz : ∀ i, 0 ≤ D i ∧ (i ≤ z → D i ≤ 39000)) : ∀ r : Nat, r ≤ z → 0 ≤ leaL wd w z r ∧ leaL wd w z r ≤ 40000 * (D z - D (z - r)) + 1010000 * (r : Int)
  | 0, _ => by
    show 0 ≤ (0 : Int) ∧ (0 : Int) ≤ 40000 * (D z - D (z - 0)) + 1010000 * ((0 : Nat) : Int)
    rw [Nat.sub_zero]
    omega
  | r + 1, hr => by
    have ih := leaL_b hw hD hz r (by omega)
    have e : leaL wd w z (r + 1) = (innL wd w (leaL wd w z) (z - (r + 1)) (r + 1) 13).1 := by
      show (tabL wd w z (r + 1) (r + 1)).1 = _
      rw [tabL_s]
    have z1 : z - (r + 1) + 1 = z - r := by omega
    have h0 := hz (z - r)
    have h1 := hz (z - (r + 1))
    have c := innL_c (w := w) (a := z - (r + 1)) (r := r + 1) (W := leaL wd w z) (by omega) hw hD (by rw [z1]; omega) (fun k hk => (leaL_b hw hD hz k (by omega)).1) 13
    rw [e]
    rw [z1, show r + 1 - 1 = r by omega] at c
    omega
/-- how many bars each line has, of the last r -/
def grpL (wd : Nat → Int) (w : Int) (z : Nat) : Nat → Nat → List Int
  | 0, _ => []
  | f + 1, r => if r = 0 then [] else takL wd w z r :: grpL wd w z f (r - (takL wd w z r).toNat)
theorem grpL_f {wd : Nat → Int} {w : Int} {z : Nat} : ∀ (f g r : Nat), r ≤ f → r ≤ g → grpL wd w z f r = grpL wd w z g r
  | 0, 0, _, _, _ => rfl
  | 0, g + 1, r, h, _ => by
    have : r = 0 := by omega
    subst this
    rw [grpL, grpL, if_pos rfl]
  | f + 1, 0, r, _, h => by
    have : r = 0 := by omega
    subst this
    rw [grpL, grpL, if_pos rfl]
  | f + 1, g + 1, r, h1, h2 => by
    rw [grpL, grpL]
    split
    · rfl
    · have := takL_b (wd := wd) (w := w) (z := z) (r := r) (by omega)
      rw [grpL_f f g _ (by omega) (by omega)]
theorem grpL_s {wd : Nat → Int} {w : Int} {z r : Nat} (hr : 1 ≤ r) : grpL wd w z r r = takL wd w z r :: grpL wd w z (r - (takL wd w z r).toNat) (r - (takL wd w z r).toNat) := by
  obtain ⟨q, rfl⟩ : ∃ q, r = q + 1 := ⟨r - 1, by omega⟩
  have := takL_b (wd := wd) (w := w) (z := z) (r := q + 1) (by omega)
  rw [grpL, if_neg (by omega), grpL_f q (q + 1 - (takL wd w z (q + 1)).toNat) _ (by omega) (Nat.le_refl _)]
theorem grpL_l {wd : Nat → Int} {w : Int} {z : Nat} : ∀ (f r : Nat), (grpL wd w z f r).length ≤ r
  | 0, _ => Nat.zero_le _
  | f + 1, r => by
    rw [grpL]
    split
    · exact Nat.zero_le _
    · have := takL_b (wd := wd) (w := w) (z := z) (r := r) (by omega)
      have := grpL_l (wd := wd) (w := w) (z := z) f (r - (takL wd w z r).toNat)
      show (grpL wd w z f (r - (takL wd w z r).toNat)).length + 1 ≤ r
      omega
