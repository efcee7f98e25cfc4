/-! ===== the reference: a voice, whole ===== -/
def RVd (μ : pm_T) (R q e : Nat) (h : ah_T) : Prop := (h.2.1 191 q = μ (R + 4) e ∧ h.2.1 195 q = μ (R + 5) e ∧ h.2.1 196 q = μ (R + 6) e ∧ h.2.1 197 q = μ (R + 7) e ∧ h.2.1 198 q = μ (R + 8) e ∧ h.2.1 194 q = μ (R + 9) e) ∧ (h.2.2.1 187 q = μ (R + 0) e ∧ h.2.2.1 188 q = μ (R + 1) e ∧ h.2.2.1 189 q = μ (R + 2) e ∧ h.2.2.1 190 q = μ (R + 3) e) ∧ (0 ≤ μ (R + 4) e ∧ μ (R + 4) e ≤ 4) ∧
  ∀ p : Nat, (p : Int) < μ (R + 4) e → h.2.1 192 (4 * q + p) = μ (R + (10 + p)) e ∧ h.2.1 193 (4 * q + p) = μ (R + (20 + p)) e
/-- the START of an event, or the end of the voice -/
def smT (μ : pm_T) (n e : Nat) : Int := if (e : Int) < μ (10 + n) 0 then μ (100 + 40 * n + 0) e else μ (100 + 40 * n + 31) 0
def smB (μ : pm_T) (n e : Nat) : Int := if (e : Int) < μ (10 + n) 0 then μ (100 + 40 * n + 1) e else μ (100 + 40 * n + 31) 1
/-- voice n of the score's memory in the reference's voice w -/
def RVm (μ : pm_T) (n w : Nat) (h : ah_T) : Prop := (h.2.1 185 w = μ (10 + n) 0 ∧ h.2.1 186 w = μ (10 + n) 1) ∧ ((0 ≤ μ (10 + n) 0 ∧ μ (10 + n) 0 ≤ 300) ∧ 1 ≤ μ (10 + n) 1 ∧ μ (10 + n) 1 ≤ 101) ∧ (∀ e : Nat, (e : Int) < μ (10 + n) 0 → RVd μ (100 + 40 * n) (300 * w + e) e h) ∧
  (∀ b : Nat, (b : Int) < μ (10 + n) 1 → h.2.2.1 199 (102 * w + b) = smT μ n (μ (100 + 40 * n + 30) b).toNat ∧ h.2.2.1 200 (102 * w + b) = smB μ n (μ (100 + 40 * n + 30) b).toNat) ∧ h.2.2.1 199 (102 * w + (μ (10 + n) 1).toNat) = μ (100 + 40 * n + 31) 0 ∧ h.2.2.1 200 (102 * w + (μ (10 + n) 1).toNat) = μ (100 + 40 * n + 31) 1
theorem RVm_w {μ π : pm_T} {n v : Nat} {h : ah_T} (hn : n = (μ 0 7).toNat) (T : WTm π v h) (P : PW π) : RVm (addV μ π (walk π)) n v h := by
  obtain ⟨⟨c1, c2⟩, b, ⟨w1, w2, w3, w4⟩, e1, e2⟩ := T
  generalize walk π = α at *
  obtain ⟨n0, n1⟩ := addV_n (π := π) (α := α) hn
  have r : ∀ {w k : Nat}, w < 40 → addV μ π α (100 + 40 * n + w) k = _ := fun {w k} hw => addV_i (π := π) (α := α) (k := k) hn hw
  have r31 : ∀ k, addV μ π α (100 + 40 * n + 31) k = α 0 (4 + k) := fun k => (r (by decide)).trans rfl
  have r30 : ∀ k, addV μ π α (100 + 40 * n + 30) k = α 7 k := fun k => (r (by decide)).trans rfl
  have r0 : ∀ k, addV μ π α (100 + 40 * n + 0) k = α 3 k := fun k => (r (by decide)).trans rfl
  have r1 : ∀ k, addV μ π α (100 + 40 * n + 1) k = α 4 k := fun k => (r (by decide)).trans rfl
  have r2 : ∀ k, addV μ π α (100 + 40 * n + 2) k = α 5 k := fun k => (r (by decide)).trans rfl
  have r3 : ∀ k, addV μ π α (100 + 40 * n + 3) k = α 6 k := fun k => (r (by decide)).trans rfl
  have r4 : ∀ k, addV μ π α (100 + 40 * n + 4) k = π 5 (α 1 k).toNat := fun k => (r (by decide)).trans rfl
  have r5 : ∀ k, addV μ π α (100 + 40 * n + 5) k = π 4 (α 1 k).toNat := fun k => (r (by decide)).trans rfl
  have r6 : ∀ k, addV μ π α (100 + 40 * n + 6) k = α 2 k := fun k => (r (by decide)).trans rfl
  have r7 : ∀ k, addV μ π α (100 + 40 * n + 7) k = π 2 (α 1 k).toNat := fun k => (r (by decide)).trans rfl
  have r8 : ∀ k, addV μ π α (100 + 40 * n + 8) k = π 3 (α 1 k).toNat := fun k => (r (by decide)).trans rfl
  have r9 : ∀ k, addV μ π α (100 + 40 * n + 9) k = π 17 (α 1 k).toNat := fun k => (r (by decide)).trans rfl
  have rk : ∀ p k, p < 4 → addV μ π α (100 + 40 * n + (10 + p)) k = π (6 + p) (α 1 k).toNat ∧ addV μ π α (100 + 40 * n + (20 + p)) k = π (10 + p) (α 1 k).toNat := by
    intro p k hp
    have : p = 0 ∨ p = 1 ∨ p = 2 ∨ p = 3 := by omega
    rcases this with rfl | rfl | rfl | rfl <;> exact ⟨(r (by decide)).trans rfl, (r (by decide)).trans rfl⟩
  refine ⟨⟨by rw [n0]; exact c1, by rw [n1]; exact c2⟩, ⟨by rw [n0]; omega, by rw [n1]; omega⟩, fun e he => ?_, fun x hx => ?_, ?_, ?_⟩
  · rw [n0] at he
    obtain ⟨y1, y2, y3, y4⟩ := w3 e he
    have V := (P.2.2 _ (by omega)).2.1 y1.2.2
    have V5 := V.2.2.2.1
    unfold RVd
    rw [r0, r1, r2, r3, r4, r5, r6, r7, r8, r9]
    refine ⟨⟨y2.1, y2.2.2.1, y2.2.2.2.1, y2.2.2.2.2.1, y2.2.2.2.2.2, y2.2.1⟩, y4, V5, fun p hp => ?_⟩
    rw [(rk p e (by omega)).1, (rk p e (by omega)).2]
    exact y3 p hp
  · rw [n1] at hx
    obtain ⟨-, z1, z2⟩ := w4 b.2.2.2 x (by omega)
    unfold smT smB
    rw [r30, n0, r0, r1, r31, r31]
    exact ⟨z1, z2⟩
  · rw [n1, r31]
    have : (α 0 2 + 1).toNat = (α 0 2).toNat + 1 := by omega
    rw [this]; exact e1
  · rw [n1, r31]
    have : (α 0 2 + 1).toNat = (α 0 2).toNat + 1 := by omega
    rw [this]; exact e2
/-- rows of voice w in the reference's cells -/
def vcel (w a k : Nat) : Prop := ((a = 185 ∨ a = 186) ∧ k = w) ∨ (((187 ≤ a ∧ a ≤ 191) ∨ (194 ≤ a ∧ a ≤ 198)) ∧ 300 * w ≤ k ∧ k < 300 * w + 300) ∨ ((a = 192 ∨ a = 193) ∧ 1200 * w ≤ k ∧ k < 1200 * w + 1200) ∨ ((a = 199 ∨ a = 200) ∧ 102 * w ≤ k ∧ k < 102 * w + 102)
theorem RVm_g {μ : pm_T} {n w : Nat} {h h' : ah_T} (H : RVm μ n w h) (g : ∀ a k, vcel w a k → h'.2.1 a k = h.2.1 a k ∧ h'.2.2.1 a k = h.2.2.1 a k) : RVm μ n w h' := by
  obtain ⟨h1, h2, h3, h4, h5⟩ := H
  have gc : ∀ a, a = 185 ∨ a = 186 → h'.2.1 a w = h.2.1 a w := fun a q => (g a w (Or.inl ⟨q, rfl⟩)).1
  have ge : ∀ a e, e < 300 → ((187 ≤ a ∧ a ≤ 191) ∨ (194 ≤ a ∧ a ≤ 198)) → h'.2.1 a (300 * w + e) = h.2.1 a (300 * w + e) ∧ h'.2.2.1 a (300 * w + e) = h.2.2.1 a (300 * w + e) := fun a e he q => g a _ (Or.inr (Or.inl ⟨q, by omega, by omega⟩))
  have gk : ∀ a e p, e < 300 → p < 4 → (a = 192 ∨ a = 193) → h'.2.1 a (4 * (300 * w + e) + p) = h.2.1 a (4 * (300 * w + e) + p) := fun a e p he hp q => (g a _ (Or.inr (Or.inr (Or.inl ⟨q, by omega, by omega⟩)))).1
  have gb : ∀ a b, b < 102 → (a = 199 ∨ a = 200) → h'.2.2.1 a (102 * w + b) = h.2.2.1 a (102 * w + b) := fun a b hb q => (g a _ (Or.inr (Or.inr (Or.inr ⟨q, by omega, by omega⟩)))).2
  refine ⟨by rw [gc _ (Or.inl rfl), gc _ (Or.inr rfl)]; exact h1, h2, fun e he => ?_, fun b hb => ?_, ?_, ?_⟩
  · obtain ⟨y1, y2, y3, y4⟩ := h3 e he
    have he3 : e < 300 := by omega
    unfold RVd
    rw [(ge 191 e he3 (by omega)).1, (ge 195 e he3 (by omega)).1, (ge 196 e he3 (by omega)).1, (ge 197 e he3 (by omega)).1, (ge 198 e he3 (by omega)).1, (ge 194 e he3 (by omega)).1, (ge 187 e he3 (by omega)).2, (ge 188 e he3 (by omega)).2, (ge 189 e he3 (by omega)).2, (ge 190 e he3 (by omega)).2]
    refine ⟨y1, y2, y3, fun p hp => ?_⟩
    rw [gk 192 e p he3 (by omega) (Or.inl rfl), gk 193 e p he3 (by omega) (Or.inr rfl)]
    exact y4 p hp
  · rw [gb _ b (by omega) (Or.inl rfl), gb _ b (by omega) (Or.inr rfl)]; exact h4 b hb
  · rw [gb _ _ (by omega) (Or.inl rfl)]; exact h5.1
  · rw [gb _ _ (by omega) (Or.inr rfl)]; exact h5.2
theorem RVm_m {μ μ' : pm_T} {n w : Nat} {h : ah_T} (H : RVm μ n w h) (e : ∀ a k, vrow n a → μ' a k = μ a k) : RVm μ' n w h := by
  have e1 : ∀ k, μ' (10 + n) k = μ (10 + n) k := fun k => e _ k (Or.inl rfl)
  have e2 : ∀ w k, w < 40 → μ' (100 + 40 * n + w) k = μ (100 + 40 * n + w) k := fun w k hw => e _ k (Or.inr ⟨by omega, by omega⟩)
  obtain ⟨h1, h2, h3, h4, h5⟩ := H
  unfold RVm smT smB
  rw [e1, e1, e2 31 _ (by decide), e2 31 _ (by decide)]
  refine ⟨h1, h2, fun k hk => ?_, fun b hb => ?_, h5⟩
  · obtain ⟨y1, y2, y3, y4⟩ := h3 k hk
    unfold RVd
    rw [e2 0 _ (by decide), e2 1 _ (by decide), e2 2 _ (by decide), e2 3 _ (by decide), e2 4 _ (by decide), e2 5 _ (by decide), e2 6 _ (by decide), e2 7 _ (by decide), e2 8 _ (by decide), e2 9 _ (by decide)]
    exact ⟨y1, y2, y3, fun p hp => by rw [e2 _ _ (by omega), e2 _ _ (by omega)]; exact y4 p hp⟩
  · rw [e2 30 _ (by decide), e2 0 _ (by decide), e2 1 _ (by decide)]
    exact h4 b hb
/-- the voices that are read -/
def RVw (μ : pm_T) (h : ah_T) : Prop := ∀ n : Nat, (n : Int) < μ 0 7 → RVm μ n (4 + n) h
theorem WWf_c {v w a k : Nat} (hvw : v ≠ w) (H : WWf v a k) : ¬ vcel w a k := by
  intro q
  rcases H with (⟨h1, h2, h3⟩ | ⟨h1, h2⟩ | ⟨h1, h2, h3⟩ | ⟨h1, h2, h3⟩ | ⟨h1, h2, h3⟩) | ⟨h1, h2⟩ | ⟨h1, h2⟩ <;> (rcases q with ⟨q1, q2⟩ | ⟨q1, q2, q3⟩ | ⟨q1, q2, q3⟩ | ⟨q1, q2, q3⟩ <;> omega)
theorem WWf_J {v : Nat} (hv : 4 ≤ v) : ∀ a k, WWf v a k → WJb a k := by
  intro a k H
  rcases H with (⟨h1, h2, h3⟩ | ⟨h1, h2⟩ | ⟨h1, h2, h3⟩ | ⟨h1, h2, h3⟩ | ⟨h1, h2, h3⟩) | ⟨h1, h2⟩ | ⟨h1, h2⟩
  · exact Or.inl (Or.inl ⟨h1, Or.inr ⟨by omega, by omega, by omega⟩⟩)
  · exact Or.inr (Or.inr (Or.inr (Or.inr (Or.inr ⟨by omega, by omega⟩))))
  · exact Or.inr (Or.inr (Or.inl ⟨by omega, by omega⟩))
  · exact Or.inr (Or.inr (Or.inr (Or.inl ⟨by omega, by omega⟩)))
  · exact Or.inr (Or.inr (Or.inr (Or.inr (Or.inl ⟨by omega, by omega⟩))))
  · exact Or.inl (Or.inl ⟨h1, Or.inl ⟨by omega, by omega⟩⟩)
  · exact Or.inr (Or.inl ⟨by omega, by omega⟩)
theorem RSn_v {μ π α : pm_T} {h : ah_T} (H : RSn (up2 μ 0 7 (μ 0 7 + 1)) h) : RSn (addV μ π α) h := by
  have e : ∀ a k, a ≤ 9 → addV μ π α a k = up2 μ 0 7 (μ 0 7 + 1) a k := fun a k ha => by
    by_cases c : a = 0 ∧ k = 7
    · obtain ⟨rfl, rfl⟩ := c; rw [addV_7, up2_at]
    · rw [addV_o ha c, up2_o c]
  unfold RSn
  simp only [e _ _ (show (0:Nat) ≤ 9 by decide), e _ _ (show (1:Nat) ≤ 9 by decide), e _ _ (show (2:Nat) ≤ 9 by decide), e _ _ (show (3:Nat) ≤ 9 by decide), e _ _ (show (4:Nat) ≤ 9 by decide), e _ _ (show (5:Nat) ≤ 9 by decide), e _ _ (show (6:Nat) ≤ 9 by decide)]
  exact H
theorem sp_part_0 {t : tk_T} {i : Nat} {π : pm_T} {q : Nat × pm_T} (P : PW π) (e : sp_part t i π = .inr q) : q.2 0 0 = π 0 0 + 1 := by
  have p0 := P.1.1
  unfold sp_part at e
  split at e
  · rename_i hm
    cases e
    have h1 : 0 < π 0 1 := by unfold mkb at hm; simp only [Bool.and_eq_true, decide_eq_true_eq] at hm; exact hm.1
    have hd := P.2.1 (dp π - 1) (by unfold dp; have := P.1.2.1; omega)
    unfold PD at hd
    exact (addM_v (π := π) (K := tK t i) (by unfold sz; omega)).1
  split at e
  · split at e
    · rw [sp_event_e] at e
      obtain ⟨a, ea, e⟩ := bnd_r e
      obtain ⟨n, -, e⟩ := bnd_r e
      obtain ⟨d, ed, e⟩ := bnd_r e
      have s0 := (sp_sound_ok ea).2
      unfold sp_tie at e
      split at e
      · split at e
        · cases e
        · cases e; show addE a.2 n d.2 1 0 0 = _; rw [addE_0.1, s0]
      · cases e; show addE a.2 n d.2 0 0 0 = _; rw [addE_0.1, s0]
    · cases e
  split at e
  · split at e
    · cases e; exact (addP_v (π := π) (c := 124) (x := 0) (y := 0)).1
    · cases e
  split at e
  · split at e
    · cases e; exact addO_0 (c := 91) (x := 0) (y := 0)
    · cases e
  split at e
  · split at e
    · unfold sp_times at e
      obtain ⟨a, -, e⟩ := bnd_r e
      obtain ⟨b, -, e⟩ := bnd_r e
      obtain ⟨c, -, e⟩ := bnd_r e
      obtain ⟨d, -, e⟩ := bnd_r e
      cases e; exact addO_0 (c := 123) (x := a) (y := c)
    · cases e
  · cases e
def PIm (X : tx_T) (R : F_T ⊕ (Nat × pm_T)) (z : Int) (h' : ah_T) : Prop := match R with
  | .inl q => z = 0 ∧ h'.2.1 170 11 = q.1 ∧ h'.2.1 170 12 = q.2
  | .inr q => z = 1 ∧ RMs X q.1 q.2 h' ∧ RH q.2 h' ∧ RVw q.2 h'
abbrev QIm (s : Nat) (X : tx_T) (R : F_T ⊕ (Nat × pm_T)) (h : ah_T) : Option av_T → ah_T → Prop := fun r h' => ∃ z, r = some (av_I z) ∧ hb s h' ∧ fr WJb h h' ∧ (z = 0 ∨ z = 1) ∧ PIm X R z h'
theorem RVw_V {μ : pm_T} {h h' : ah_T} {W : Nat → Nat → Prop} (H : RVw μ h) (f : fr W h h') (hW : ∀ a k, W a k → a ≤ 184 ∨ 201 ≤ a) : RVw μ h' := fun n hn =>
  RVm_g (H n hn) (fun a k q => by
    have : ¬ W a k := fun w => by have := hW a k w; unfold vcel at q; omega
    exact ⟨fr_g f this, fr_gl f this⟩)
