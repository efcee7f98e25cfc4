/-! ===== the WALK, class: an event met ===== -/
def lT_ (π : pm_T) (j : Nat) (sT sB : Int) : Int := rdT (lnT π j sT) (lnB π j sB)
def lB_ (π : pm_T) (j : Nat) (sT sB : Int) : Int := rdB (lnT π j sT) (lnB π j sB)
theorem wk_ev_n {π α : pm_T} {j : Nat} {sT sB : Int} (h : ¬ (α 0 3 = 0 ∧ α 0 1 < 300)) : wk_ev π j sT sB α = up2 α 0 1 (α 0 1 + 1) := by unfold wk_ev; rw [if_neg h]
theorem wk_ev_f {π α : pm_T} {j : Nat} {sT sB : Int} (h : α 0 3 = 0 ∧ α 0 1 < 300) (hf : isFr (lT_ π j sT sB) (lB_ π j sT sB) = true) : wk_ev π j sT sB α 0 3 = 1 ∧ wk_ev π j sT sB α 0 1 = α 0 1 + 1 ∧ wk_ev π j sT sB α 0 2 = α 0 2 := by
  unfold lT_ lB_ at hf
  unfold wk_ev
  rw [if_pos h]
  dsimp only
  rw [if_pos hf]
  refine ⟨by rw [up2_at], ?_, ?_⟩
  · rw [up2_o (by omega), up2_o (by omega), up2_o (by omega), up2_o (by omega), up2_o (by omega), up2_o (by omega), up2_o (by omega), up2_at]
  · rw [up2_o (by omega), up2_o (by omega), up2_o (by omega), up2_o (by omega), up2_o (by omega), up2_o (by omega), up2_o (by omega), up2_o (by omega)]
theorem wk_ev_y {π α : pm_T} {j e : Nat} {sT sB : Int} (h : α 0 3 = 0 ∧ α 0 1 < 300) (he : α 0 1 = (e : Int)) (hf : ¬ isFr (lT_ π j sT sB) (lB_ π j sT sB) = true) :
    (∀ a k, ¬ (a = 0 ∧ (k = 1 ∨ k = 3 ∨ k = 4 ∨ k = 5)) → (k ≠ e ∨ a = 0 ∨ 7 ≤ a) → wk_ev π j sT sB α a k = α a k) ∧ wk_ev π j sT sB α 0 1 = α 0 1 + 1 ∧
    (wk_ev π j sT sB α 1 e = j ∧ wk_ev π j sT sB α 2 e = α 0 2 ∧ wk_ev π j sT sB α 3 e = α 0 4 ∧ wk_ev π j sT sB α 4 e = α 0 5 ∧ wk_ev π j sT sB α 5 e = lT_ π j sT sB ∧ wk_ev π j sT sB α 6 e = lB_ π j sT sB) ∧
    wk_ev π j sT sB α 0 4 = rdT (α 0 4 * lB_ π j sT sB + lT_ π j sT sB * α 0 5) (α 0 5 * lB_ π j sT sB) ∧ wk_ev π j sT sB α 0 5 = rdB (α 0 4 * lB_ π j sT sB + lT_ π j sT sB * α 0 5) (α 0 5 * lB_ π j sT sB) ∧
    wk_ev π j sT sB α 0 3 = (if isFr (rdT (α 0 4 * lB_ π j sT sB + lT_ π j sT sB * α 0 5) (α 0 5 * lB_ π j sT sB)) (rdB (α 0 4 * lB_ π j sT sB + lT_ π j sT sB * α 0 5) (α 0 5 * lB_ π j sT sB)) = true then 1 else 0) := by
  unfold lT_ lB_ at hf ⊢
  unfold wk_ev
  rw [if_pos h]
  dsimp only
  rw [if_neg hf]
  have ee : (α 0 1).toNat = e := by omega
  rw [ee]
  refine ⟨fun a k q q2 => ?_, ?_, ⟨?_, ?_, ?_, ?_, ?_, ?_⟩, ?_, ?_, by rw [up2_at]⟩
  · rw [up2_o (by omega), up2_o (by omega), up2_o (by omega), up2_o (by omega), up2_o (by omega), up2_o (by omega), up2_o (by omega), up2_o (by omega), up2_o (by omega), up2_o (by omega)]
  · rw [up2_o (by omega), up2_o (by omega), up2_o (by omega), up2_o (by omega), up2_o (by omega), up2_o (by omega), up2_o (by omega), up2_o (by omega), up2_o (by omega), up2_at]
  · rw [up2_o (by omega), up2_o (by omega), up2_o (by omega), up2_o (by omega), up2_o (by omega), up2_o (by omega), up2_o (by omega), up2_o (by omega), up2_at]
  · rw [up2_o (by omega), up2_o (by omega), up2_o (by omega), up2_o (by omega), up2_o (by omega), up2_o (by omega), up2_o (by omega), up2_at]
  · rw [up2_o (by omega), up2_o (by omega), up2_o (by omega), up2_o (by omega), up2_o (by omega), up2_o (by omega), up2_at]
  · rw [up2_o (by omega), up2_o (by omega), up2_o (by omega), up2_o (by omega), up2_o (by omega), up2_at]
  · rw [up2_o (by omega), up2_o (by omega), up2_o (by omega), up2_o (by omega), up2_at]
  · rw [up2_o (by omega), up2_o (by omega), up2_o (by omega), up2_at]
  · rw [up2_o (by omega), up2_o (by omega), up2_at]
  · rw [up2_o (by omega), up2_at]
theorem WKh_evn {π α : pm_T} {v j : Nat} {sT sB : Int} {h h' : ah_T} (hv : isV v) (H : WKh π α v h) (hs : α 0 1 + 1 ≤ α 0 0) (hc : ¬ (α 0 3 = 0 ∧ α 0 1 < 300)) (e : h' = st_i h 9 9 (α 0 1 + 1)) : WKh π (wk_ev π j sT sB α) v h' := by
  have v24 := isV_24 hv
  obtain ⟨⟨a1, a2, a3, a4⟩, b, c, d⟩ := H
  rw [wk_ev_n hc]
  have g : ∀ a k, ¬ (a = 9 ∧ k = 9) → h'.2.1 a k = h.2.1 a k := fun a k q => mm_i e q
  unfold WKh
  rw [up2_at, up2_o (by omega), up2_o (by omega), up2_o (by omega)]
  refine ⟨⟨?_, mv_i e, ?_, ?_⟩, by omega, ?_, fun q => absurd ⟨q.1, by omega⟩ hc⟩
  · rw [g _ _ (by omega)]; exact a1
  · rw [g _ _ (by omega)]; exact a3
  · rw [g _ _ (by omega)]; exact a4
  · rw [g _ _ (by omega)]; exact c
theorem WKh_evy {π α : pm_T} {v j e bars : Nat} {sT sB z lT lB : Int} {h h12 h18 h' : ah_T} (hv : isV v) (H : WKh π α v h) (hs : α 0 1 + 1 ≤ α 0 0) (hc : α 0 3 = 0 ∧ α 0 1 < 300) (hj : (j : Int) < π 0 0 ∧ π 1 j = 256) (he : α 0 1 = (e : Int)) (hba : h.2.1 v 16 = (bars : Int)) (e12 : h12 = st_i h 9 9 (α 0 1 + 1)) (f : fr (WEv v e) h12 h18) (hT : lT = lT_ π j sT sB) (hB : lB = lB_ π j sT sB) (hp : 1 ≤ lT ∧ 1 ≤ lB) (g1 : h18.2.1 (v + 7) e = π 18 j ∧ h18.2.1 (v + 8) e = (bars : Int) - 1 ∧ h18.2.2.1 (v + 11) e = lT ∧ h18.2.2.1 (v + 12) e = lB) (g2 : isFr lT lB = true → z = 0) (g3 : ¬ isFr lT lB = true → h18.2.1 v 14 = (e : Int) + 1 ∧ h18.2.2.1 (v + 9) (e + 1) = rdT (α 0 4 * lB + lT * α 0 5) (α 0 5 * lB) ∧ h18.2.2.1 (v + 10) (e + 1) = rdB (α 0 4 * lB + lT * α 0 5) (α 0 5 * lB) ∧ z = (if isFr (rdT (α 0 4 * lB + lT * α 0 5) (α 0 5 * lB)) (rdB (α 0 4 * lB + lT * α 0 5) (α 0 5 * lB)) = true then 0 else 1)) (e' : h' = st_i h18 9 11 z) : WKh π (wk_ev π j sT sB α) v h' := by
  have v24 := isV_24 hv
  obtain ⟨⟨a1, a2, a3, a4⟩, b, c, d⟩ := H
  have D := d ⟨hc.1, by omega⟩
  obtain ⟨w1, w2, w3, w4, w5⟩ := D
  have g : ∀ a k, ¬ (a = 9 ∧ (k = 9 ∨ k = 11)) → ¬ WEv v e a k → h'.2.1 a k = h.2.1 a k := fun a k q q2 => by
    rw [mm_i e' (by omega), fr_g f q2, mm_i e12 (by omega)]
  have gl : ∀ a k, ¬ WEv v e a k → h'.2.2.1 a k = h.2.2.1 a k := fun a k q2 => by
    rw [mm_io e', fr_gl f q2, mm_io e12]
  have q8 : h'.2.1 9 8 = α 0 0 := by rw [g _ _ (by omega) (by omega)]; exact a1
  have q9 : h'.2.1 9 9 = α 0 1 + 1 := by rw [mm_i e' (by omega), fr_g f (by omega), mv_i e12]
  have q10 : h'.2.1 9 10 = α 0 2 := by rw [g _ _ (by omega) (by omega)]; exact a3
  have q11 : h'.2.1 9 11 = z := mv_i e'
  have q16 : h'.2.1 v 16 = h.2.1 v 16 := g _ _ (by omega) (by omega)
  subst hT hB
  by_cases hf : isFr (lT_ π j sT sB) (lB_ π j sT sB) = true
  · obtain ⟨r3, r1, r2⟩ := wk_ev_f (π := π) (j := j) (sT := sT) (sB := sB) hc hf
    unfold WKh
    rw [wk_ev_0, r1, r2, r3, q8, q9, q10, q11, q16, g2 hf]
    exact ⟨⟨rfl, rfl, rfl, rfl⟩, by omega, c, fun q => absurd q.1 (by decide)⟩
  · obtain ⟨ro, r1, ⟨re1, re2, re3, re4, re5, re6⟩, r4, r5, r3⟩ := wk_ev_y (π := π) (j := j) (sT := sT) (sB := sB) hc he hf
    obtain ⟨y1, y2, y3, y4⟩ := g3 hf
    have r2 : wk_ev π j sT sB α 0 2 = α 0 2 := ro _ _ (by omega) (by omega)
    unfold WKh
    rw [wk_ev_0, r1, r2, q8, q9, q10, q11, q16]
    refine ⟨⟨rfl, rfl, rfl, ?_⟩, by omega, c, fun q => ?_⟩
    · rw [r3, y4]; split <;> rfl
    · rw [r3] at q
      have nf : ¬ isFr (rdT (α 0 4 * lB_ π j sT sB + lT_ π j sT sB * α 0 5) (α 0 5 * lB_ π j sT sB)) (rdB (α 0 4 * lB_ π j sT sB + lT_ π j sT sB * α 0 5) (α 0 5 * lB_ π j sT sB)) = true := fun w => by rw [if_pos w] at q; exact absurd q.1 (by decide)
      obtain ⟨n1, n2⟩ := isFr_n nf
      obtain ⟨m1, m2⟩ := isFr_n hf
      have u1 : 0 ≤ α 0 4 * lB_ π j sT sB := Int.mul_nonneg w2.1 (by omega)
      have u2 : 1 ≤ lT_ π j sT sB * α 0 5 := by have := Int.mul_le_mul hp.1 w2.2.2.1 (by decide) (by omega); omega
      have u3 : 1 ≤ α 0 5 * lB_ π j sT sB := by have := Int.mul_le_mul w2.2.2.1 hp.2 (by decide) (by omega); omega
      have t1 := (rdT_b (show 1 ≤ α 0 4 * lB_ π j sT sB + lT_ π j sT sB * α 0 5 by omega) u3).1
      have t2 := (rdB_b (show 1 ≤ α 0 4 * lB_ π j sT sB + lT_ π j sT sB * α 0 5 by omega) u3).1
      have en : (α 0 1 + 1).toNat = e + 1 := by omega
      have ee : (α 0 1).toNat = e := by omega
      rw [ee] at w3
      unfold WKe
      rw [r1, r2, r4, r5, en]
      refine ⟨by rw [mm_i e' (by omega), y1]; omega, ⟨by omega, n1, t2, n2⟩, ⟨by rw [mm_io e']; exact y2, by rw [mm_io e']; exact y3⟩, fun k hk => ?_, fun hl k hk => ?_⟩
      · by_cases ck : k = e
        · subst ck
          have l9 : h'.2.2.1 (v + 9) k = α 0 4 := by rw [gl _ _ (by omega)]; exact w3.1
          have l10 : h'.2.2.1 (v + 10) k = α 0 5 := by rw [gl _ _ (by omega)]; exact w3.2
          have jj : (j : Int).toNat = j := tn_c j
          unfold EVh
          rw [re1, re2, re3, re4, re5, re6, r2, jj, l9, l10, mm_i e' (by omega), mm_i e' (by omega), mm_io e', mm_io e']
          refine ⟨⟨by omega, hj.1, hj.2⟩, g1.1, fun hl => ?_, ⟨rfl, rfl, g1.2.2.1, g1.2.2.2⟩, w2, hp.1, m1, hp.2, m2⟩
          rw [g1.2.1]; have := c.1 hl; omega
        · obtain ⟨y1', y2', y3', y4', y5'⟩ := w4 k (by omega)
          unfold EVh
          rw [ro 1 _ (by omega) (by omega), ro 2 _ (by omega) (by omega), ro 3 _ (by omega) (by omega), ro 4 _ (by omega) (by omega), ro 5 _ (by omega) (by omega), ro 6 _ (by omega) (by omega), r2, g _ _ (by omega) (by omega), g _ _ (by omega) (by omega), gl _ _ (by omega), gl _ _ (by omega), gl _ _ (by omega), gl _ _ (by omega)]
          exact ⟨y1', y2', y3', y4', y5'⟩
      · rw [g _ _ (by omega) (by omega), ro 7 _ (by omega) (by omega)]
        have := w5 hl k hk
        exact ⟨this.1, this.2.1, by omega⟩
