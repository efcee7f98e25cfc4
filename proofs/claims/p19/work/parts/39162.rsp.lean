/-! ===== readings: a spec of our own: how many trees a name has over n places from f on, told up to 1000001 ===== -/
def NMg (μ : pm_T) : Prop := (∀ r : Nat, (r : Int) < μ 0 4 → (0 ≤ μ 2 r ∧ μ 2 r ≤ 15) ∧ (0 ≤ μ 3 r ∧ μ 3 r ≤ 15) ∧ (-2 ≤ μ 4 r ∧ μ 4 r ≤ 15)) ∧ ∀ i : Nat, (i : Int) < μ 0 5 → 0 ≤ μ 5 i ∧ μ 5 i ≤ 15
/-- the first c cuts of rule r -/
def byC (μ : pm_T) (tb : Nat → Nat → Nat → Int) (r f n : Nat) : Nat → Int
  | 0 => 0
  | c + 1 => byC μ tb r f n c + tb (c + 1) f (μ 3 r).toNat * tb (n - (c + 1)) (f + (c + 1)) (μ 4 r).toNat
def byR (μ : pm_T) (tb : Nat → Nat → Nat → Int) (r f n : Nat) : Int := if μ 4 r < 0 then (if n = 1 ∧ μ 5 f = μ 3 r then 1 else 0) else byC μ tb r f n (n - 1)
/-- the first rules, those of name a -/
def suR (μ : pm_T) (tb : Nat → Nat → Nat → Int) (a f n : Nat) : Nat → Int
  | 0 => 0
  | r + 1 => suR μ tb a f n r + (if (μ 2 r).toNat = a then byR μ tb r f n else 0)
def tbN (μ : pm_T) : Nat → Nat → Nat → Nat → Int
  | 0 => fun _ _ _ => 0
  | N + 1 => up1 (tbN μ N) (N + 1) (fun f a => cap (suR μ (tbN μ N) a f (N + 1) (μ 0 4).toNat))
def trN (μ : pm_T) (n f a : Nat) : Int := tbN μ n n f a
section
variable {μ : pm_T}
theorem tbN_k {k : Nat} : ∀ N, k ≤ N → tbN μ N k = tbN μ k k
  | 0, h => by
    have : k = 0 := by omega
    subst this; rfl
  | N + 1, h => by
    by_cases c : k = N + 1
    · subst c; rfl
    · have ih := tbN_k (k := k) N (by omega)
      show up1 (tbN μ N) (N + 1) _ k = _
      unfold up1
      rw [if_neg c]
      exact ih
theorem byC_e {tb tb' : Nat → Nat → Nat → Int} {r f n : Nat} (h : ∀ m, 1 ≤ m → m < n → tb m = tb' m) : ∀ c, c ≤ n - 1 → byC μ tb r f n c = byC μ tb' r f n c
  | 0, _ => rfl
  | c + 1, hc => by rw [byC, byC, byC_e h c (by omega), h (c + 1) (by omega) (by omega), h (n - (c + 1)) (by omega) (by omega)]
theorem byR_e {tb tb' : Nat → Nat → Nat → Int} {r f n : Nat} (h : ∀ m, 1 ≤ m → m < n → tb m = tb' m) : byR μ tb r f n = byR μ tb' r f n := by
  unfold byR
  rw [byC_e h _ (Nat.le_refl _)]
theorem suR_e {tb tb' : Nat → Nat → Nat → Int} {a f n : Nat} (h : ∀ m, 1 ≤ m → m < n → tb m = tb' m) : ∀ r, suR μ tb a f n r = suR μ tb' a f n r
  | 0 => rfl
  | r + 1 => by rw [suR, suR, suR_e h r, byR_e h]
theorem trN_s {n f a : Nat} (hn : 1 ≤ n) : trN μ n f a = cap (suR μ (trN μ) a f n (μ 0 4).toNat) := by
  obtain ⟨N, rfl⟩ : ∃ N, n = N + 1 := ⟨n - 1, by omega⟩
  show up1 (tbN μ N) (N + 1) _ (N + 1) f a = _
  unfold up1
  rw [if_pos rfl]
  show cap (suR μ (tbN μ N) a f (N + 1) (μ 0 4).toNat) = _
  rw [suR_e (tb' := trN μ) (fun m _ hm => tbN_k N (by omega))]
theorem cap_or (x : Int) : (1000001 < x ∧ cap x = 1000001) ∨ (x ≤ 1000001 ∧ cap x = x) := by
  by_cases c : x > 1000001
  · exact Or.inl ⟨c, if_pos c⟩
  · exact Or.inr ⟨by omega, if_neg c⟩
theorem cap_b {x : Int} (h : 0 ≤ x) : 0 ≤ cap x ∧ cap x ≤ 1000001 := by
  rcases cap_or x with w | w <;> omega
theorem cap_i {x : Int} (h : x ≤ 1000001) : cap x = x := by
  rcases cap_or x with w | w <;> omega
theorem cap_min {x z : Int} (h1 : z ≤ x) (h2 : z ≤ 1000001) (h3 : z = x ∨ z = 1000001) : z = cap x := by
  rcases cap_or x with w | w <;> omega
theorem cap_c {x y : Int} (hx : 0 ≤ x) (hy : 0 ≤ y) : cap (cap x + y) = cap (x + y) := by
  rcases cap_or x with w | w <;> rcases cap_or (x + y) with w2 | w2 <;> rcases cap_or (cap x + y) with w3 | w3 <;> omega
theorem cap_cc {x y : Int} (hx : 0 ≤ x) (hy : 0 ≤ y) : cap (cap x + cap y) = cap (x + y) := by
  rcases cap_or x with w | w <;> rcases cap_or y with w4 | w4 <;> rcases cap_or (x + y) with w2 | w2 <;> rcases cap_or (cap x + cap y) with w3 | w3 <;> omega
theorem byC_b {tb : Nat → Nat → Nat → Int} (h : ∀ m f a, 0 ≤ tb m f a ∧ tb m f a ≤ 1000001) {r f n : Nat} : ∀ c : Nat, 0 ≤ byC μ tb r f n c ∧ byC μ tb r f n c ≤ 1000002000001 * (c : Int)
  | 0 => by rw [byC]; omega
  | c + 1 => by
    have ih := byC_b h (r := r) (f := f) (n := n) c
    have x := h (c + 1) f (μ 3 r).toNat
    have y := h (n - (c + 1)) (f + (c + 1)) (μ 4 r).toNat
    have p0 := Int.mul_nonneg x.1 y.1
    have p1 := Int.mul_le_mul x.2 y.2 y.1 (by decide)
    rw [byC]
    omega
theorem byR_b {tb : Nat → Nat → Nat → Int} (h : ∀ m f a, 0 ≤ tb m f a ∧ tb m f a ≤ 1000001) {r f n : Nat} (hn : n ≤ 13) : 0 ≤ byR μ tb r f n ∧ byR μ tb r f n ≤ 100000000000000 := by
  have b := byC_b (μ := μ) h (r := r) (f := f) (n := n) (n - 1)
  unfold byR
  split
  · split <;> omega
  · omega
theorem suR_b {tb : Nat → Nat → Nat → Int} (h : ∀ m f a, 0 ≤ tb m f a ∧ tb m f a ≤ 1000001) {a f n : Nat} (hn : n ≤ 13) : ∀ r : Nat, 0 ≤ suR μ tb a f n r
  | 0 => Int.le_refl _
  | r + 1 => by
    have ih := suR_b h (a := a) (f := f) hn r
    have b := byR_b (μ := μ) h (r := r) (f := f) hn
    rw [suR]
    split <;> omega
theorem suR_0 {tb : Nat → Nat → Nat → Int} (h : ∀ m f a, 0 ≤ tb m f a ∧ tb m f a ≤ 1000001) {a f n : Nat} : ∀ r : Nat, 0 ≤ suR μ tb a f n r
  | 0 => Int.le_refl _
  | r + 1 => by
    have ih := suR_0 h (a := a) (f := f) (n := n) r
    have b := byC_b (μ := μ) h (r := r) (f := f) (n := n) (n - 1)
    have b2 : 0 ≤ byR μ tb r f n := by
      unfold byR
      split
      · split <;> omega
      · exact b.1
    rw [suR]
    split <;> omega
theorem tbN_b : ∀ N m f a, 0 ≤ tbN μ N m f a ∧ tbN μ N m f a ≤ 1000001
  | 0, _, _, _ => ⟨Int.le_refl _, (by show (0 : Int) ≤ 1000001; decide)⟩
  | N + 1, m, f, a => by
    have ih := tbN_b N
    show 0 ≤ up1 (tbN μ N) (N + 1) _ m f a ∧ up1 (tbN μ N) (N + 1) _ m f a ≤ 1000001
    unfold up1
    by_cases c : m = N + 1
    · rw [if_pos c]
      exact cap_b (suR_0 ih _)
    · rw [if_neg c]
      exact ih m f a
theorem trN_b (m f a : Nat) : 0 ≤ trN μ m f a ∧ trN μ m f a ≤ 1000001 := tbN_b m m f a
end
/-- where the trees of a name over the places f .. t - 1 stand -/
abbrev ixT (a f t : Nat) : Nat := 169 * a + 13 * f + t
/-- readings' answer -/
def reaN (μ : pm_T) : Int := trN μ (μ 0 5).toNat 0 (μ 2 0).toNat
def reav (μ : pm_T) : Int := if μ 0 4 = 0 then -2 else if μ 0 5 = 0 then -2 else if 1000000 < reaN μ then -4 else reaN μ
