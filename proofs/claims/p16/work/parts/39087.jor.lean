/-! ===== the order of STARTS ===== -/
theorem fr_ll {a b c d e f : Int} (hd : 1 ≤ d) (hb : 1 ≤ b) (hf : 1 ≤ f) (h1 : a * d < c * b) (h2 : c * f ≤ e * d) : a * f < e * b := by
  have x1 : (a * d) * f < (c * b) * f := Int.mul_lt_mul_of_pos_right h1 (by omega)
  have x2 : (c * f) * b ≤ (e * d) * b := Int.mul_le_mul_of_nonneg_right h2 (by omega)
  have x3 : (a * f) * d < (e * b) * d := by
    have e1 : (a * d) * f = (a * f) * d := by rw [Int.mul_assoc, Int.mul_comm d f, ← Int.mul_assoc]
    have e2 : (c * b) * f = (c * f) * b := by rw [Int.mul_assoc, Int.mul_comm b f, ← Int.mul_assoc]
    have e3 : (e * d) * b = (e * b) * d := by rw [Int.mul_assoc, Int.mul_comm d b, ← Int.mul_assoc]
    omega
  exact Int.lt_of_mul_lt_mul_right x3 (by omega)
theorem fr_le {a b c d e f : Int} (hd : 1 ≤ d) (hb : 1 ≤ b) (hf : 1 ≤ f) (h1 : a * d ≤ c * b) (h2 : c * f < e * d) : a * f < e * b := by
  have x1 : (a * d) * f ≤ (c * b) * f := Int.mul_le_mul_of_nonneg_right h1 (by omega)
  have x2 : (c * f) * b < (e * d) * b := Int.mul_lt_mul_of_pos_right h2 (by omega)
  have x3 : (a * f) * d < (e * b) * d := by
    have e1 : (a * d) * f = (a * f) * d := by rw [Int.mul_assoc, Int.mul_comm d f, ← Int.mul_assoc]
    have e2 : (c * b) * f = (c * f) * b := by rw [Int.mul_assoc, Int.mul_comm b f, ← Int.mul_assoc]
    have e3 : (e * d) * b = (e * b) * d := by rw [Int.mul_assoc, Int.mul_comm d b, ← Int.mul_assoc]
    omega
  exact Int.lt_of_mul_lt_mul_right x3 (by omega)
theorem fr_tt {a b c d e f : Int} (hd : 1 ≤ d) (hb : 1 ≤ b) (hf : 1 ≤ f) (h1 : a * d ≤ c * b) (h2 : c * f ≤ e * d) : a * f ≤ e * b := by
  have x1 : (a * d) * f ≤ (c * b) * f := Int.mul_le_mul_of_nonneg_right h1 (by omega)
  have x2 : (c * f) * b ≤ (e * d) * b := Int.mul_le_mul_of_nonneg_right h2 (by omega)
  have x3 : (a * f) * d ≤ (e * b) * d := by
    have e1 : (a * d) * f = (a * f) * d := by rw [Int.mul_assoc, Int.mul_comm d f, ← Int.mul_assoc]
    have e2 : (c * b) * f = (c * f) * b := by rw [Int.mul_assoc, Int.mul_comm b f, ← Int.mul_assoc]
    have e3 : (e * d) * b = (e * b) * d := by rw [Int.mul_assoc, Int.mul_comm d b, ← Int.mul_assoc]
    omega
  exact Int.le_of_mul_le_mul_right x3 (by omega)
/-- START i of voice o is ahead of (not behind) START e of voice n -/
def SL (μ : pm_T) (o i n e : Nat) : Prop := smT μ o i * smB μ n e < smT μ n e * smB μ o i
def SE (μ : pm_T) (o i n e : Nat) : Prop := smT μ o i * smB μ n e ≤ smT μ n e * smB μ o i
/-- a good score's memory -/
def GM (μ : pm_T) : Prop := VGm μ ∧ TMg μ ∧ ∀ n : Nat, (n : Int) < μ 0 7 → MVo μ n
theorem GM_b {μ : pm_T} (G : GM μ) {n : Nat} (hn : (n : Int) < μ 0 7) (e : Nat) : (0 ≤ smT μ n e ∧ smT μ n e ≤ 1000 * smB μ n e) ∧ 1 ≤ smB μ n e ∧ smB μ n e ≤ 1000000 := by
  have M := G.2.2 n hn
  unfold smT smB
  split
  · rename_i c
    have := (M.2.2.2.1 e c).2.2.2.2.1
    exact ⟨⟨this.1, this.2.1⟩, this.2.2.1, this.2.2.2⟩
  · have := M.2.2.1
    exact ⟨⟨this.1, this.2.1⟩, this.2.2.1, this.2.2.2⟩
theorem GM_s {μ : pm_T} (G : GM μ) {n e : Nat} (hn : (n : Int) < μ 0 7) (he : (e : Int) < μ (10 + n) 0) : SL μ n e n (e + 1) := by
  obtain ⟨g, x1, x2⟩ : ∃ g : Int, smT μ n e * μ (100 + 40 * n + 3) e + μ (100 + 40 * n + 2) e * smB μ n e = g * smT μ n (e + 1) ∧ smB μ n e * μ (100 + 40 * n + 3) e = g * smB μ n (e + 1) := by
    obtain ⟨y1, y2⟩ := (G.1.2 n hn).1 e he
    obtain ⟨z1, z2⟩ := gc_e (smT μ n e * μ (100 + 40 * n + 3) e + μ (100 + 40 * n + 2) e * smB μ n e) (smB μ n e * μ (100 + 40 * n + 3) e)
    rw [y1, y2]
    exact ⟨_, z1, z2⟩
  have ⟨b0, b1, b2⟩ := GM_b G hn e
  have ⟨c0, c1, c2⟩ := GM_b G hn (e + 1)
  have l := ((G.2.2 n hn).2.2.2.1 e he).2.2.2.2.2.1
  unfold SL
  generalize smT μ n e = T at *
  generalize smB μ n e = B at *
  generalize smT μ n (e + 1) = T' at *
  generalize smB μ n (e + 1) = B' at *
  generalize μ (100 + 40 * n + 3) e = lB at *
  generalize μ (100 + 40 * n + 2) e = lT at *
  have hg : 1 ≤ g := by
    by_cases c : 1 ≤ g
    · exact c
    · have p : 1 ≤ B * lB := by
        have := Int.mul_le_mul b1 l.2.2.1 (by omega) (by omega)
        omega
      have : g * B' ≤ 0 := Int.mul_nonpos_of_nonpos_of_nonneg (by omega) (by omega)
      omega
  have q : T * B' * g < T' * B * g := by
    have e1 : T * B' * g = T * (B * lB) := by rw [x2, Int.mul_comm g B', ← Int.mul_assoc]
    have e2 : T' * B * g = (T * lB + lT * B) * B := by rw [x1, Int.mul_comm g T', Int.mul_assoc, Int.mul_assoc, Int.mul_comm g B]
    have e3 : (T * lB + lT * B) * B = T * (B * lB) + lT * (B * B) := by rw [Int.add_mul, Int.mul_assoc, Int.mul_comm lB B, Int.mul_assoc]
    have p : 1 ≤ lT * (B * B) := by
      have h1 := Int.mul_le_mul b1 b1 (by omega) (by omega)
      have h2 := Int.mul_le_mul l.1 h1 (by omega) (by omega)
      omega
    omega
  exact Int.lt_of_mul_lt_mul_right q (by omega)
theorem SL_n {μ : pm_T} {o i n e : Nat} : ¬ SL μ o i n e ↔ SE μ n e o i := by
  unfold SL SE; omega
theorem SE_n {μ : pm_T} {o i n e : Nat} : ¬ SE μ o i n e ↔ SL μ n e o i := by
  unfold SL SE; omega
theorem SL_e {μ : pm_T} {o i n e : Nat} (h : SL μ o i n e) : SE μ o i n e := by
  unfold SL SE at *; omega
theorem SL_le {μ : pm_T} (G : GM μ) {o i n e m f : Nat} (ho : (o : Int) < μ 0 7) (hn : (n : Int) < μ 0 7) (hm : (m : Int) < μ 0 7) (h1 : SL μ o i n e) (h2 : SE μ n e m f) : SL μ o i m f :=
  fr_ll (GM_b G hn e).2.1 (GM_b G ho i).2.1 (GM_b G hm f).2.1 h1 h2
theorem SE_lt {μ : pm_T} (G : GM μ) {o i n e m f : Nat} (ho : (o : Int) < μ 0 7) (hn : (n : Int) < μ 0 7) (hm : (m : Int) < μ 0 7) (h1 : SE μ o i n e) (h2 : SL μ n e m f) : SL μ o i m f :=
  fr_le (GM_b G hn e).2.1 (GM_b G ho i).2.1 (GM_b G hm f).2.1 h1 h2
theorem SE_le {μ : pm_T} (G : GM μ) {o i n e m f : Nat} (ho : (o : Int) < μ 0 7) (hn : (n : Int) < μ 0 7) (hm : (m : Int) < μ 0 7) (h1 : SE μ o i n e) (h2 : SE μ n e m f) : SE μ o i m f :=
  fr_tt (GM_b G hn e).2.1 (GM_b G ho i).2.1 (GM_b G hm f).2.1 h1 h2
theorem SE_r {μ : pm_T} {n e : Nat} : SE μ n e n e := Int.le_refl _
theorem GM_m {μ : pm_T} (G : GM μ) {n : Nat} (hn : (n : Int) < μ 0 7) {i : Nat} : ∀ j : Nat, i ≤ j → (j : Int) ≤ μ (10 + n) 0 → SE μ n i n j
  | 0, h, _ => by
    have : i = 0 := by omega
    subst this
    exact SE_r
  | j + 1, h, h2 => by
    by_cases c : i = j + 1
    · subst c; exact SE_r
    · exact SE_le G hn hn hn (GM_m G hn j (by omega) (by omega)) (SL_e (GM_s G hn (by omega)))
theorem GM_l {μ : pm_T} (G : GM μ) {n i j : Nat} (hn : (n : Int) < μ 0 7) (h : i < j) (h2 : (j : Int) ≤ μ (10 + n) 0) : SL μ n i n j :=
  SL_le G hn hn hn (GM_s G hn (by omega)) (GM_m G hn j (by omega) h2)
/-- the events ahead of bar b, behind the last all -/
def brE (μ : pm_T) (n b : Nat) : Nat := if (b : Int) < μ (10 + n) 1 then (μ (100 + 40 * n + 30) b).toNat else (μ (10 + n) 0).toNat
theorem brE_b {μ : pm_T} (G : GM μ) {n b : Nat} (hn : (n : Int) < μ 0 7) : (brE μ n b : Int) ≤ μ (10 + n) 0 := by
  have h := (G.1.2 n hn).2.2.1 b
  have := (G.2.2 n hn).1
  unfold brE
  split
  · rename_i c
    have := h c
    omega
  · omega
theorem brE_m {μ : pm_T} (G : GM μ) {n b : Nat} (hn : (n : Int) < μ 0 7) : brE μ n b ≤ brE μ n (b + 1) := by
  have H := G.1.2 n hn
  have M := (G.2.2 n hn).1
  have B := brE_b G (b := b) hn
  have c0 := H.2.2.1 b
  have c1 := H.2.2.1 (b + 1)
  unfold brE at *
  split
  · rename_i h
    rw [if_pos h] at B
    have c0 := c0 h
    split
    · rename_i h2
      have c1 := c1 h2
      by_cases c : μ (100 + 40 * n + 30) (b + 1) < μ (10 + n) 0
      · obtain ⟨e, he⟩ : ∃ e : Nat, μ (100 + 40 * n + 30) (b + 1) = e := ⟨(μ (100 + 40 * n + 30) (b + 1)).toNat, by omega⟩
        have x := (H.2.2.2 e (by omega)).2
        have x1 := (x (b + 1) h2).mp (by omega)
        have x2 := (x b h).mpr (by omega)
        omega
      · omega
    · omega
  · split <;> omega
