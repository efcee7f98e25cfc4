/-! ===== the class: a voice told in the score's memory ===== -/
def sgm (μ : pm_T) (R e : Nat) : Nat → Int
  | 0 => 0
  | n + 1 => sgm μ R e n + sgk (μ (R + (10 + n)) e) (μ (R + (20 + n)) e)
def RVe (μ : pm_T) (R v e : Nat) (h : ah_T) : Prop := ∃ b q : Nat, b < 300 ∧ h.2.1 (v + 7) e = b ∧ h.2.1 (v + 8) e = μ (R + 6) e ∧ (h.2.2.1 (v + 9) e = μ (R + 0) e ∧ h.2.2.1 (v + 10) e = μ (R + 1) e ∧ h.2.2.1 (v + 11) e = μ (R + 2) e ∧ h.2.2.1 (v + 12) e = μ (R + 3) e) ∧ (h.2.1 (v + 3) b = q ∧ h.2.1 (v + 3) (b + 1) = q + μ (R + 4) e) ∧ (h.2.1 (v + 6) b = μ (R + 5) e ∧ h.2.1 (v + 4) b = μ (R + 7) e ∧ h.2.1 (v + 5) b = μ (R + 8) e) ∧
  (∀ p : Nat, (p : Int) < μ (R + 4) e → h.2.1 (v + 1) (q + p) = μ (R + (10 + p)) e ∧ h.2.1 (v + 2) (q + p) = μ (R + (20 + p)) e)
/-- what holds of an event in the memory -/
def MVe (μ : pm_T) (R e : Nat) : Prop := (0 ≤ μ (R + 4) e ∧ μ (R + 4) e ≤ 4) ∧ (μ (R + 5) e = 0 ∨ μ (R + 5) e = 1) ∧ (1 ≤ μ (R + 7) e ∧ μ (R + 7) e ≤ 64) ∧ (0 ≤ μ (R + 8) e ∧ μ (R + 8) e ≤ 3) ∧ (0 ≤ μ (R + 0) e ∧ μ (R + 0) e ≤ 1000 * μ (R + 1) e ∧ 1 ≤ μ (R + 1) e ∧ μ (R + 1) e ≤ 1000000) ∧ (1 ≤ μ (R + 2) e ∧ μ (R + 2) e ≤ 1000 * μ (R + 3) e ∧ 1 ≤ μ (R + 3) e ∧ μ (R + 3) e ≤ 1000000) ∧ (∀ p : Nat, (p : Int) < μ (R + 4) e → (-2 ≤ μ (R + (10 + p)) e ∧ μ (R + (10 + p)) e ≤ 109) ∧ 0 ≤ μ (R + (20 + p)) e ∧ μ (R + (20 + p)) e ≤ 62) ∧ μ (R + 9) e = sgm μ R e (μ (R + 4) e).toNat
def RVo (μ : pm_T) (n v : Nat) (h : ah_T) : Prop := (h.2.1 v 14 = μ (10 + n) 0 ∧ h.2.1 v 16 = μ (10 + n) 1) ∧ (h.2.2.1 (v + 9) (μ (10 + n) 0).toNat = μ (100 + 40 * n + 31) 0 ∧ h.2.2.1 (v + 10) (μ (10 + n) 0).toNat = μ (100 + 40 * n + 31) 1) ∧ (∀ e : Nat, (e : Int) < μ (10 + n) 0 → RVe μ (100 + 40 * n) v e h) ∧ (∀ b : Nat, (b : Int) < μ (10 + n) 1 → h.2.1 (v + 13) b = μ (100 + 40 * n + 30) b) ∧ h.2.1 (v + 13) (μ (10 + n) 1).toNat = μ (10 + n) 0
def MVo (μ : pm_T) (n : Nat) : Prop := (0 ≤ μ (10 + n) 0 ∧ μ (10 + n) 0 ≤ 300) ∧ (1 ≤ μ (10 + n) 1 ∧ μ (10 + n) 1 ≤ 101) ∧ (0 ≤ μ (100 + 40 * n + 31) 0 ∧ μ (100 + 40 * n + 31) 0 ≤ 1000 * μ (100 + 40 * n + 31) 1 ∧ 1 ≤ μ (100 + 40 * n + 31) 1 ∧ μ (100 + 40 * n + 31) 1 ≤ 1000000) ∧ (∀ e : Nat, (e : Int) < μ (10 + n) 0 → MVe μ (100 + 40 * n) e) ∧ ∀ b : Nat, (b : Int) < μ (10 + n) 1 → 0 ≤ μ (100 + 40 * n + 30) b ∧ μ (100 + 40 * n + 30) b ≤ μ (10 + n) 0
theorem addV_i {μ π α : pm_T} {n w k : Nat} (hn : n = (μ 0 7).toNat) (hw : w < 40) : addV μ π α (100 + 40 * n + w) k = (if w < 4 then α (3 + w) k else if w = 4 then π 5 (α 1 k).toNat else if w = 5 then π 4 (α 1 k).toNat else if w = 6 then α 2 k else if w = 7 then π 2 (α 1 k).toNat else if w = 8 then π 3 (α 1 k).toNat else if w = 9 then π 17 (α 1 k).toNat else if 10 ≤ w ∧ w < 14 then π (w - 4) (α 1 k).toNat else if 20 ≤ w ∧ w < 24 then π (w - 10) (α 1 k).toNat else if w = 30 then α 7 k else if w = 31 then α 0 (4 + k) else 0) := by
  unfold addV
  rw [← hn, if_neg (by omega), if_neg (by omega), if_neg (by omega), if_pos (by omega)]
  have : 100 + 40 * n + w - (100 + 40 * n) = w := by omega
  dsimp only
  rw [this]
theorem addV_n {μ π α : pm_T} {n : Nat} (hn : n = (μ 0 7).toNat) : addV μ π α (10 + n) 0 = α 0 1 ∧ addV μ π α (10 + n) 1 = α 0 2 + 1 := by
  unfold addV
  rw [← hn]
  exact ⟨by rw [if_neg (by omega), if_pos ⟨rfl, rfl⟩], by rw [if_neg (by omega), if_neg (by omega), if_pos ⟨rfl, rfl⟩]⟩
/-- the voices of before stay in the memory -/
theorem addV_b {μ π α : pm_T} {n a k : Nat} (hn : n < (μ 0 7).toNat) (ha : a = 10 + n ∨ (100 + 40 * n ≤ a ∧ a < 140 + 40 * n)) (h4 : (μ 0 7).toNat ≤ 4) : addV μ π α a k = μ a k := by
  unfold addV
  rw [if_neg (by omega), if_neg (by omega), if_neg (by omega), if_neg (by omega)]
theorem MVo_w {μ π : pm_T} {v n : Nat} {h : ah_T} (hn : n = (μ 0 7).toNat) (T : TW π v h) (H : RPc π v h) (P : PW π) : RVo (addV μ π (walk π)) n v h ∧ MVo (addV μ π (walk π)) n := by
  obtain ⟨⟨w1, w2, w3, w4, w5⟩, b1, b2, t16, tE⟩ := T
  generalize walk π = α at *
  obtain ⟨n0, n1⟩ := addV_n (π := π) (α := α) hn
  have r : ∀ {w k : Nat}, w < 40 → addV μ π α (100 + 40 * n + w) k = _ := fun {w k} hw => addV_i (π := π) (α := α) (k := k) hn hw
  have r31 : ∀ k, addV μ π α (100 + 40 * n + 31) k = α 0 (4 + k) := fun k => (r (by decide)).trans rfl
  have r30 : ∀ k, addV μ π α (100 + 40 * n + 30) k = α 7 k := fun k => (r (by decide)).trans rfl
  have r0 : ∀ k, addV μ π α (100 + 40 * n + 0) k = α 3 k := fun k => (r (by decide)).trans rfl
  have r1 : ∀ k, addV μ π α (100 + 40 * n + 1) k = α 4 k := fun k => (r (by decide)).trans rfl
  have r2 : ∀ k, addV μ π α (100 + 40 * n + 2) k = α 5 k := fun k => (r (by decide)).trans rfl
  have r3 : ∀ k, addV μ π α (100 + 40 * n + 3) k = α 6 k := fun k => (r (by decide)).trans rfl
  have r4 : ∀ k, addV μ π α (100 + 40 * n + 4) k = π 5 (α 1 k).toNat := fun k => (r (by decide)).trans rfl
  have r5 : ∀ k, addV μ π α (100 + 40 * n + 5) k = π 4 (α 1 k).toNat := fun k => (r (by decide)).trans rfl
  have r6 : ∀ k, addV μ π α (100 + 40 * n + 6) k = α 2 k := fun k => (r (by decide)).trans rfl
  have r7 : ∀ k, addV μ π α (100 + 40 * n + 7) k = π 2 (α 1 k).toNat := fun k => (r (by decide)).trans rfl
  have r8 : ∀ k, addV μ π α (100 + 40 * n + 8) k = π 3 (α 1 k).toNat := fun k => (r (by decide)).trans rfl
  have r9 : ∀ k, addV μ π α (100 + 40 * n + 9) k = π 17 (α 1 k).toNat := fun k => (r (by decide)).trans rfl
  have rk : ∀ p k, p < 4 → addV μ π α (100 + 40 * n + (10 + p)) k = π (6 + p) (α 1 k).toNat ∧ addV μ π α (100 + 40 * n + (20 + p)) k = π (10 + p) (α 1 k).toNat := by
    intro p k hp
    have : p = 0 ∨ p = 1 ∨ p = 2 ∨ p = 3 := by omega
    rcases this with rfl | rfl | rfl | rfl <;> exact ⟨(r (by decide)).trans rfl, (r (by decide)).trans rfl⟩
  refine ⟨⟨⟨by rw [n0]; exact w1, by rw [n1]; exact t16⟩, ?_, fun e he => ?_, fun b hb => ?_, ?_⟩, ⟨by rw [n0]; exact b1, by rw [n1]; omega, ?_, fun e he => ?_, fun b hb => ?_⟩⟩
  · rw [n0, r31, r31]; exact w3
  · rw [n0] at he
    obtain ⟨⟨y1, y2, y3⟩, y4, y5, y6, y7⟩ := w4 e he
    have hj : ((α 1 e).toNat : Int) < π 0 0 := by omega
    have E := (H.2.2 _ hj).2.1 y3
    have V := (P.2.2 _ hj).2.1 y3
    obtain ⟨j, ej⟩ : ∃ j, (α 1 e).toNat = j := ⟨_, rfl⟩
    rw [ej] at E V hj y3 y4
    obtain ⟨⟨c1, c2, c3, c4⟩, c5, c6, c7⟩ := E
    obtain ⟨-, v2, v3, v4, v5, -, -⟩ := V
    have p0 := P.1
    refine ⟨(π 18 j).toNat, (π 19 j).toNat, by omega, by rw [y4]; omega, ?_, ?_, ⟨by rw [c6]; omega, ?_⟩, ⟨?_, ?_, ?_⟩, fun p hp => ?_⟩
    · rw [r6]; exact y5 (by omega)
    · rw [r0, r1, r2, r3]; exact y6
    · rw [r4, ej, c5]; omega
    · rw [r5, ej]; exact c4
    · rw [r7, ej]; exact c2
    · rw [r8, ej]; exact c3
    · rw [r4, ej] at hp
      rw [(rk p e (by omega)).1, (rk p e (by omega)).2, ej]
      exact c7 p hp
  · rw [n1] at hb
    rw [r30]
    exact (w5 b2.2 b (by omega)).1
  · rw [n0, n1]
    have : (α 0 2 + 1).toNat = (α 0 2).toNat + 1 := by omega
    rw [this]; exact tE
  · rw [r31, r31]; exact w2
  · rw [n0] at he
    obtain ⟨⟨y1, y2, y3⟩, y4, y5, y6, y7⟩ := w4 e he
    have hj : ((α 1 e).toNat : Int) < π 0 0 := by omega
    have V := (P.2.2 _ hj).2.1 y3
    unfold MVe
    rw [r0, r1, r2, r3, r4, r5, r7, r8, r9]
    obtain ⟨u1, u2, u3, u4, u5, u6, u7⟩ := V
    refine ⟨u4, u1.2.2, u1.1, u1.2.1, y7.1, y7.2, fun p hp => ?_, ?_⟩
    · rw [(rk p e (by omega)).1, (rk p e (by omega)).2]; exact u6 p hp
    · rw [u7]
      have : ∀ k, k ≤ 4 → sgs π (α 1 e).toNat k = sgm (addV μ π α) (100 + 40 * n) e k := by
        intro k
        induction k with
        | zero => intro _; rfl
        | succ k ih => intro hk; rw [sgs, sgm, ih (by omega), (rk k e (by omega)).1, (rk k e (by omega)).2]
      exact this _ (by omega)
  · rw [n1] at hb
    rw [r30, n0]
    exact (w5 b2.2 b (by omega)).2
