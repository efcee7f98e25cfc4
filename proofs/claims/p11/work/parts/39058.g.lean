/-! ===== the WALK, reference: what its cells tell ===== -/
def EVm (π α : pm_T) (v e : Nat) (h : ah_T) : Prop := (0 ≤ α 1 e ∧ α 1 e < π 0 0 ∧ π 1 (α 1 e).toNat = 256) ∧
  (h.2.1 191 (300 * v + e) = π 5 (α 1 e).toNat ∧ h.2.1 194 (300 * v + e) = π 17 (α 1 e).toNat ∧ h.2.1 195 (300 * v + e) = π 4 (α 1 e).toNat ∧ h.2.1 196 (300 * v + e) = α 2 e ∧ h.2.1 197 (300 * v + e) = π 2 (α 1 e).toNat ∧ h.2.1 198 (300 * v + e) = π 3 (α 1 e).toNat) ∧
  (∀ p : Nat, (p : Int) < π 5 (α 1 e).toNat → h.2.1 192 (4 * (300 * v + e) + p) = π (6 + p) (α 1 e).toNat ∧ h.2.1 193 (4 * (300 * v + e) + p) = π (10 + p) (α 1 e).toNat) ∧
  (h.2.2.1 187 (300 * v + e) = α 3 e ∧ h.2.2.1 188 (300 * v + e) = α 4 e ∧ h.2.2.1 189 (300 * v + e) = α 5 e ∧ h.2.2.1 190 (300 * v + e) = α 6 e)
def stT (α : pm_T) (e : Nat) : Int := if (e : Int) < α 0 1 then α 3 e else α 0 4
def stB (α : pm_T) (e : Nat) : Int := if (e : Int) < α 0 1 then α 4 e else α 0 5
def WMe (π α : pm_T) (v : Nat) (h : ah_T) : Prop := (h.2.2.1 170 75 = α 0 4 ∧ h.2.2.1 170 76 = α 0 5) ∧ (0 ≤ α 0 4 ∧ α 0 4 ≤ 1000 * α 0 5 ∧ 1 ≤ α 0 5 ∧ α 0 5 ≤ 1000000) ∧ (∀ e : Nat, (e : Int) < α 0 1 → EVm π α v e h) ∧
  (α 0 2 ≤ 100 → ∀ b : Nat, (b : Int) ≤ α 0 2 → (0 ≤ α 7 b ∧ α 7 b ≤ α 0 1) ∧ h.2.2.1 199 (102 * v + b) = stT α (α 7 b).toNat ∧ h.2.2.1 200 (102 * v + b) = stB α (α 7 b).toNat)
def WMh (π α : pm_T) (v : Nat) (h : ah_T) : Prop := (h.2.1 170 71 = α 0 0 ∧ h.2.1 170 72 = α 0 1 ∧ h.2.1 170 73 = α 0 2 ∧ h.2.1 170 74 = α 0 3 ∧ (α 0 3 = 0 ∨ α 0 3 = 1)) ∧ (0 ≤ α 0 1 ∧ α 0 1 ≤ α 0 0 ∧ 0 ≤ α 0 2 ∧ α 0 2 ≤ α 0 0) ∧ (α 0 3 = 0 ∧ α 0 1 ≤ 300 → WMe π α v h)
theorem WMe_c {π α α' : pm_T} {v : Nat} {h h' : ah_T} (H : WMe π α v h) (e : ∀ a k, ¬ (a = 0 ∧ (k = 0 ∨ k = 3)) → α' a k = α a k) (g : ∀ a k, 187 ≤ a → a ≤ 198 → h'.2.1 a k = h.2.1 a k ∧ h'.2.2.1 a k = h.2.2.1 a k) (g3 : ∀ b : Nat, (b : Int) ≤ α 0 2 → h'.2.2.1 199 (102 * v + b) = h.2.2.1 199 (102 * v + b) ∧ h'.2.2.1 200 (102 * v + b) = h.2.2.1 200 (102 * v + b)) (g2 : h'.2.2.1 170 75 = h.2.2.1 170 75 ∧ h'.2.2.1 170 76 = h.2.2.1 170 76) : WMe π α' v h' := by
  have e0 : ∀ k, k ≠ 0 → k ≠ 3 → α' 0 k = α 0 k := fun k h0 h3 => e 0 k (by omega)
  have e1 : ∀ a k, 1 ≤ a → α' a k = α a k := fun a k ha => e a k (by omega)
  have gi : ∀ a k, 187 ≤ a → a ≤ 198 → h'.2.1 a k = h.2.1 a k := fun a k q1 q2 => (g a k q1 q2).1
  have gl : ∀ a k, 187 ≤ a → a ≤ 198 → h'.2.2.1 a k = h.2.2.1 a k := fun a k q1 q2 => (g a k q1 q2).2
  obtain ⟨h1, h2, h3, h4⟩ := H
  unfold WMe
  rw [e0 1 (by decide) (by decide), e0 4 (by decide) (by decide), e0 5 (by decide) (by decide), e0 2 (by decide) (by decide), g2.1, g2.2]
  refine ⟨h1, h2, fun k hk => ?_, fun hl b hb => ?_⟩
  · have := h3 k hk
    unfold EVm at this ⊢
    rw [e1 1 _ (by decide), e1 2 _ (by decide), e1 3 _ (by decide), e1 4 _ (by decide), e1 5 _ (by decide), e1 6 _ (by decide), gi 191 _ (by decide) (by decide), gi 194 _ (by decide) (by decide), gi 195 _ (by decide) (by decide), gi 196 _ (by decide) (by decide), gi 197 _ (by decide) (by decide), gi 198 _ (by decide) (by decide), gl 187 _ (by decide) (by decide), gl 188 _ (by decide) (by decide), gl 189 _ (by decide) (by decide), gl 190 _ (by decide) (by decide)]
    refine ⟨this.1, this.2.1, fun p hp => ?_, this.2.2.2⟩
    rw [gi _ _ (by decide) (by decide), gi _ _ (by decide) (by decide)]
    exact this.2.2.1 p hp
  · have := h4 hl b hb
    unfold stT stB at this ⊢
    rw [e1 7 _ (by decide), e0 1 (by decide) (by decide), e0 4 (by decide) (by decide), e0 5 (by decide) (by decide), e1 3 _ (by decide), e1 4 _ (by decide), (g3 b hb).1, (g3 b hb).2]
    exact this
/-- other cells are written -/
theorem WMh_f {π α : pm_T} {v : Nat} {h h' : ah_T} {W : Nat → Nat → Prop} (H : WMh π α v h) (f : fr W h h') (hW : ∀ a k, W a k → (a = 170 ∧ (k ≤ 70 ∨ 77 ≤ k)) ∨ 201 ≤ a) : WMh π α v h' := by
  obtain ⟨⟨a1, a2, a3, a4, a5⟩, b, c⟩ := H
  have g : ∀ (a k : Nat), ¬ ((a = 170 ∧ (k ≤ 70 ∨ 77 ≤ k)) ∨ 201 ≤ a) → h'.2.1 a k = h.2.1 a k := fun a k q => fr_g f (fun w => q (hW a k w))
  have gl : ∀ (a k : Nat), ¬ ((a = 170 ∧ (k ≤ 70 ∨ 77 ≤ k)) ∨ 201 ≤ a) → h'.2.2.1 a k = h.2.2.1 a k := fun a k q => fr_gl f (fun w => q (hW a k w))
  refine ⟨⟨by rw [g _ _ (by omega)]; exact a1, by rw [g _ _ (by omega)]; exact a2, by rw [g _ _ (by omega)]; exact a3, by rw [g _ _ (by omega)]; exact a4, a5⟩, b, fun q => WMe_c (c q) (fun _ _ _ => rfl) (fun a k q1 q2 => ⟨g _ _ (by omega), gl _ _ (by omega)⟩) (fun b _ => ⟨gl _ _ (by omega), gl _ _ (by omega)⟩) ⟨gl _ _ (by omega), gl _ _ (by omega)⟩⟩
/-- a step -/
theorem WMh_st {π α : pm_T} {v : Nat} {h h' : ah_T} {x : Int} (H : WMh π α v h) (hx : x = h.2.1 170 71) (e : h' = st_i h 170 71 (x + 1)) : WMh π (wk_st α) v h' := by
  obtain ⟨⟨a1, a2, a3, a4, a5⟩, b, c⟩ := H
  have g : ∀ a k, ¬ (a = 170 ∧ k = 71) → h'.2.1 a k = h.2.1 a k := fun a k q => mm_i e q
  unfold WMh
  rw [wk_st_0, wk_st_o (by omega), wk_st_o (by omega), wk_st_o (by omega)]
  refine ⟨⟨by rw [mv_i e]; omega, by rw [g _ _ (by omega)]; exact a2, by rw [g _ _ (by omega)]; exact a3, by rw [g _ _ (by omega)]; exact a4, a5⟩, by omega, fun q => WMe_c (c q) (fun a k q => wk_st_o (by omega)) (fun a k q1 q2 => ⟨g _ _ (by omega), mm_io e⟩) (fun _ _ => ⟨mm_io e, mm_io e⟩) ⟨mm_io e, mm_io e⟩⟩
/-- a | met -/
theorem WMh_ln {π α : pm_T} {v l : Nat} {h h' : ah_T} (H : WMh π α v h) (hs : α 0 2 + 1 ≤ α 0 0) (hl : α 0 2 = (l : Int)) (f : fr (fun a k => (a = 170 ∧ k = 73) ∨ ((a = 199 ∨ a = 200) ∧ k = 102 * v + (l + 1))) h h') (g1 : h'.2.1 170 73 = (l : Int) + 1) (g2 : l < 100 → h'.2.2.1 199 (102 * v + (l + 1)) = h.2.2.1 170 75 ∧ h'.2.2.1 200 (102 * v + (l + 1)) = h.2.2.1 170 76) : WMh π (wk_ln α) v h' := by
  obtain ⟨⟨a1, a2, a3, a4, a5⟩, bb, d⟩ := H
  have o : ∀ a k, ¬ (a = 0 ∧ k = 2) → a ≠ 7 → wk_ln α a k = α a k := fun a k q q7 => by
    unfold wk_ln; rw [up2_o q]; split
    · rw [up2_o (by omega)]
    · rfl
  have o2 : wk_ln α 0 2 = α 0 2 + 1 := by unfold wk_ln; rw [up2_at]
  have o0 : ∀ k, k ≠ 2 → wk_ln α 0 k = α 0 k := fun k hk => o 0 k (by omega) (by decide)
  have g : ∀ a k, ¬ ((a = 170 ∧ k = 73) ∨ ((a = 199 ∨ a = 200) ∧ k = 102 * v + (l + 1))) → h'.2.1 a k = h.2.1 a k := fun a k q => fr_g f q
  have gl : ∀ a k, ¬ ((a = 170 ∧ k = 73) ∨ ((a = 199 ∨ a = 200) ∧ k = 102 * v + (l + 1))) → h'.2.2.1 a k = h.2.2.1 a k := fun a k q => fr_gl f q
  unfold WMh
  rw [o0 0 (by decide), o0 1 (by decide), o0 3 (by decide), o2]
  refine ⟨⟨by rw [g _ _ (by omega)]; exact a1, by rw [g _ _ (by omega)]; exact a2, by rw [g1]; omega, by rw [g _ _ (by omega)]; exact a4, a5⟩, by omega, fun q => ?_⟩
  obtain ⟨w1, w2, w3, w4⟩ := d q
  unfold WMe
  rw [o0 1 (by decide), o0 4 (by decide), o0 5 (by decide), o2]
  refine ⟨by rw [gl _ _ (by omega), gl _ _ (by omega)]; exact w1, w2, fun e he => ?_, fun hl' k hk => ?_⟩
  · obtain ⟨y1, y2, y3, y4⟩ := w3 e he
    unfold EVm
    rw [o 1 _ (by omega) (by decide), o 2 _ (by omega) (by decide), o 3 _ (by omega) (by decide), o 4 _ (by omega) (by decide), o 5 _ (by omega) (by decide), o 6 _ (by omega) (by decide), g _ _ (by omega), g _ _ (by omega), g _ _ (by omega), g _ _ (by omega), g _ _ (by omega), g _ _ (by omega), gl _ _ (by omega), gl _ _ (by omega), gl _ _ (by omega), gl _ _ (by omega)]
    exact ⟨y1, y2, fun p hp => by rw [g _ _ (by omega), g _ _ (by omega)]; exact y3 p hp, y4⟩
  · have e7 : ∀ k, wk_ln α 7 k = (if k = l + 1 then α 0 1 else α 7 k) := fun k => by
      unfold wk_ln; rw [up2_o (by omega), if_pos (by omega)]
      have : (α 0 2).toNat + 1 = l + 1 := by omega
      rw [this]
      by_cases hc : k = l + 1
      · rw [if_pos hc, hc, up2_at]
      · rw [if_neg hc, up2_o (by omega)]
    have eT : ∀ e, stT (wk_ln α) e = stT α e := fun e => by unfold stT; rw [o0 1 (by decide), o0 4 (by decide), o 3 _ (by omega) (by decide)]
    have eB : ∀ e, stB (wk_ln α) e = stB α e := fun e => by unfold stB; rw [o0 1 (by decide), o0 5 (by decide), o 4 _ (by omega) (by decide)]
    rw [e7, eT, eB]
    by_cases hc : k = l + 1
    · rw [if_pos hc, hc, (g2 (by omega)).1, (g2 (by omega)).2]
      refine ⟨⟨by omega, Int.le_refl _⟩, ?_, ?_⟩
      · unfold stT; rw [if_neg (by omega)]; exact w1.1
      · unfold stB; rw [if_neg (by omega)]; exact w1.2
    · rw [if_neg hc, gl _ _ (by omega), gl _ _ (by omega)]
      exact w4 (by omega) k (by omega)
/-- an event that isn't told -/
theorem WMh_evn {π α : pm_T} {v q j : Nat} {sT sB : Int} {h h' : ah_T} (H : WMh π α v h) (hs : α 0 1 + 1 ≤ α 0 0) (hc : ¬ (α 0 3 = 0 ∧ α 0 1 < 300)) (f : fr (fun a k => (187 ≤ a ∧ a ≤ 198) ∨ (a = 170 ∧ (k = 65 ∨ k = 66 ∨ k = 72 ∨ k = 74 ∨ k = 75 ∨ k = 76))) h h') (g1 : h'.2.1 170 72 = α 0 1 + 1) (g2 : h'.2.1 170 74 = α 0 3) : WMh π (wk_ev π j sT sB α) v h' := by
  obtain ⟨⟨a1, a2, a3, a4, a5⟩, b, d⟩ := H
  rw [wk_ev_n hc]
  unfold WMh
  rw [up2_at, up2_o (by omega), up2_o (by omega), up2_o (by omega)]
  exact ⟨⟨by rw [fr_g f (by omega)]; exact a1, g1, by rw [fr_g f (by omega)]; exact a3, g2, a5⟩, by omega, fun w => absurd ⟨w.1, by omega⟩ hc⟩
/-- an event told -/
theorem WMh_evy {π α : pm_T} {v e j : Nat} {sT sB lT lB : Int} {h h1 h' : ah_T} (P : PW π) (H : WMh π α v h) (hs : α 0 1 + 1 ≤ α 0 0) (hc : α 0 3 = 0 ∧ α 0 1 < 300) (hj : (j : Int) < π 0 0 ∧ π 1 j = 256) (he : α 0 1 = (e : Int)) (f : fr (WEm (300 * v + e)) h h1) (hT : lT = lT_ π j sT sB) (hB : lB = lB_ π j sT sB) (hp : 1 ≤ lT ∧ 1 ≤ lB) (g1 : isFr lT lB = true → h1.2.1 170 74 = 1)
    (g2 : ¬ isFr lT lB = true → (h1.2.1 191 (300 * v + e) = π 5 j ∧ h1.2.1 194 (300 * v + e) = π 17 j ∧ h1.2.1 195 (300 * v + e) = π 4 j ∧ h1.2.1 196 (300 * v + e) = α 0 2 ∧ h1.2.1 197 (300 * v + e) = π 2 j ∧ h1.2.1 198 (300 * v + e) = π 3 j) ∧
        (∀ p : Nat, (p : Int) < π 5 j → h1.2.1 192 (4 * (300 * v + e) + p) = π (6 + p) j ∧ h1.2.1 193 (4 * (300 * v + e) + p) = π (10 + p) j) ∧ (h1.2.2.1 187 (300 * v + e) = α 0 4 ∧ h1.2.2.1 188 (300 * v + e) = α 0 5 ∧ h1.2.2.1 189 (300 * v + e) = lT ∧ h1.2.2.1 190 (300 * v + e) = lB) ∧
        (h1.2.2.1 170 75 = rdT (α 0 4 * lB + lT * α 0 5) (α 0 5 * lB) ∧ h1.2.2.1 170 76 = rdB (α 0 4 * lB + lT * α 0 5) (α 0 5 * lB) ∧ h1.2.1 170 74 = (if isFr (rdT (α 0 4 * lB + lT * α 0 5) (α 0 5 * lB)) (rdB (α 0 4 * lB + lT * α 0 5) (α 0 5 * lB)) = true then 1 else 0)))
    (e' : h' = st_i h1 170 72 (α 0 1 + 1)) : WMh π (wk_ev π j sT sB α) v h' := by
  obtain ⟨⟨a1, a2, a3, a4, a5⟩, b, d⟩ := H
  have f' : fr (fun a k => WEm (300 * v + e) a k ∨ (a = 170 ∧ k = 72)) h h' := fr_i (fr_w f (fun a k w => Or.inl w)) e' (Or.inr ⟨rfl, rfl⟩)
  have n72 : h'.2.1 170 72 = α 0 1 + 1 := mv_i e'
  have m : ∀ a k, ¬ (a = 170 ∧ k = 72) → h'.2.1 a k = h1.2.1 a k := fun a k q => mm_i e' q
  have ml : ∀ a k, h'.2.2.1 a k = h1.2.2.1 a k := fun a k => mm_io e'
  have z0 := wk_ev_0 (π := π) (j := j) (sT := sT) (sB := sB) (α := α)
  have c71 : h'.2.1 170 71 = h.2.1 170 71 := fr_g f' (by omega)
  have c73 : h'.2.1 170 73 = h.2.1 170 73 := fr_g f' (by omega)
  by_cases hf : isFr lT lB = true
  · have hf' := hf
    rw [hT, hB] at hf'
    obtain ⟨y3, y1, y2⟩ := wk_ev_f hc hf'
    unfold WMh
    rw [z0, y1, y2, y3]
    exact ⟨⟨c71.trans a1, n72, c73.trans a3, by rw [m _ _ (by omega)]; exact g1 hf, Or.inr rfl⟩, by omega, fun w => absurd w.1 (by decide)⟩
  · have hf' := hf
    rw [hT, hB] at hf'
    obtain ⟨yo, y1, ⟨v1, v2, v3, v4, v5, v6⟩, y4, y5, y3⟩ := wk_ev_y (sT := sT) (sB := sB) hc he hf'
    rw [← hT, ← hB] at y4 y5 y3
    rw [← hT] at v5
    rw [← hB] at v6
    obtain ⟨k1, k2, k3, k4, k5, k6⟩ := g2 hf
    obtain ⟨w1, w2, w3, w4⟩ := d ⟨hc.1, by omega⟩
    have y2 : wk_ev π j sT sB α 0 2 = α 0 2 := yo 0 2 (by omega) (by omega)
    unfold WMh
    rw [z0, y1, y2]
    refine ⟨⟨c71.trans a1, n72, c73.trans a3, by rw [m _ _ (by omega), k6, y3], by rw [y3]; split <;> omega⟩, by omega, fun w => ?_⟩
    rw [y3] at w
    have nf : ¬ isFr (rdT (α 0 4 * lB + lT * α 0 5) (α 0 5 * lB)) (rdB (α 0 4 * lB + lT * α 0 5) (α 0 5 * lB)) = true := fun q => by rw [if_pos q] at w; exact absurd w.1 (by decide)
    have nb := isFr_n nf
    obtain ⟨n3, n4, n5, n6⟩ := w2
    have p1 : 0 ≤ α 0 4 * lB := Int.mul_nonneg n3 (by omega)
    have p2 : 1 ≤ lT * α 0 5 := by have := Int.mul_le_mul hp.1 n5 (by decide) (by omega); omega
    have p3 : 1 ≤ α 0 5 * lB := by have := Int.mul_le_mul n5 hp.2 (by decide) (by omega); omega
    obtain ⟨r1, -⟩ := rdT_b (a := α 0 4 * lB + lT * α 0 5) (b := α 0 5 * lB) (by omega) p3
    obtain ⟨r2, -⟩ := rdB_b (a := α 0 4 * lB + lT * α 0 5) (b := α 0 5 * lB) (by omega) p3
    unfold WMe
    rw [y1, y2, y4, y5]
    refine ⟨⟨by rw [ml]; exact k4, by rw [ml]; exact k5⟩, ⟨by omega, nb.1, r2, nb.2⟩, fun x hx => ?_, fun hl b hb => ?_⟩
    · unfold EVm
      by_cases c : x = e
      · subst c
        rw [v1, v2, v3, v4, v5, v6, tn_c, m _ _ (by omega), m _ _ (by omega), m _ _ (by omega), m _ _ (by omega), m _ _ (by omega), m _ _ (by omega), ml, ml, ml, ml]
        exact ⟨⟨by omega, hj.1, hj.2⟩, k1, fun p hp => by rw [m _ _ (by omega), m _ _ (by omega)]; exact k2 p hp, k3⟩
      · have o1 : ∀ a, 1 ≤ a → a ≤ 6 → wk_ev π j sT sB α a x = α a x := fun a q1 q2 => yo a x (by omega) (by omega)
        obtain ⟨u1, u2, u3, u4⟩ := w3 x (by omega)
        have G : ∀ a k, ¬ (WEm (300 * v + e) a k ∨ (a = 170 ∧ k = 72)) → h'.2.1 a k = h.2.1 a k := fun a k q => fr_g f' q
        have GL : ∀ a k, ¬ (WEm (300 * v + e) a k ∨ (a = 170 ∧ k = 72)) → h'.2.2.1 a k = h.2.2.1 a k := fun a k q => fr_gl f' q
        rw [o1 1 (by decide) (by decide), o1 2 (by decide) (by decide), o1 3 (by decide) (by decide), o1 4 (by decide) (by decide), o1 5 (by decide) (by decide), o1 6 (by decide) (by decide), G _ _ (by omega), G _ _ (by omega), G _ _ (by omega), G _ _ (by omega), G _ _ (by omega), G _ _ (by omega), GL _ _ (by omega), GL _ _ (by omega), GL _ _ (by omega), GL _ _ (by omega)]
        refine ⟨u1, u2, fun p hp => ?_, u4⟩
        have hp4 : π 5 (α 1 x).toNat ≤ 4 := ((P.2.2 _ (by omega)).2.1 u1.2.2).2.2.2.1.2
        rw [G _ _ (by omega), G _ _ (by omega)]
        exact u3 p hp
    · obtain ⟨u1, u2, u3⟩ := w4 hl b hb
      rw [yo 7 b (by omega) (by omega)]
      refine ⟨by omega, ?_, ?_⟩
      · rw [fr_gl f' (by omega), u2]
        unfold stT
        rw [y1]
        by_cases c : ((α 7 b).toNat : Int) < α 0 1
        · rw [if_pos c, if_pos (by omega), yo 3 _ (by omega) (by omega)]
        · have : (α 7 b).toNat = e := by omega
          rw [if_neg c, if_pos (by omega), this, v3]
      · rw [fr_gl f' (by omega), u3]
        unfold stB
        rw [y1]
        by_cases c : ((α 7 b).toNat : Int) < α 0 1
        · rw [if_pos c, if_pos (by omega), yo 4 _ (by omega) (by omega)]
        · have : (α 7 b).toNat = e := by omega
          rw [if_neg c, if_pos (by omega), this, v4]
