/-! ===== lines of both ===== -/
theorem LNg_of {μ : pm_T} {h : ah_T} (hm : mi h) (K : KSn μ h) : LNg μ := fun j hj => by
  have h1 := hm.2.2.1 176 j (by decide) (by decide)
  have e : mr 176 j = (-2, 109) := rfl
  rw [e, K.2.2.1 j hj] at h1
  exact h1
theorem linv_b {μ : pm_T} (b3 : 0 ≤ μ 0 3 ∧ μ 0 3 ≤ 8) {low high R : Int} : (-2147483648) ≤ linv μ low high R ∧ linv μ low high R ≤ 2147483647 := by
  unfold linv
  by_cases ok : okl low high R
  · rw [dif_t ok]
    by_cases z : μ 0 3 = 0
    · rw [dif_t z]; decide
    · rw [dif_f z]
      by_cases big : 100000 < spn low high ^ (μ 0 3).toNat
      · rw [dif_t big]; decide
      · rw [dif_f big, lnR_e (by omega)]
        have := rwF_l (low := low) (sp := spn low high) (P := fP R (μ 1) (μ 0 3).toNat) (μ 0 3).toNat []
        omega
  · rw [dif_f ok]; decide
theorem e_PM_lines {G : cx_T} {s : Nat} {h : ah_T} {μ : pm_T} {low high R : Int} (hx : xi s h) (hm : mi h) (C : CKn μ (97 - s) h) (Rq : SRq μ h) : con G 14 0 0 m_PM_lines [av_R (some 0), av_I low, av_I high, av_I R] h (fun r h' => ∃ z, r = some (av_I z) ∧ ((-2147483648) ≤ z ∧ z ≤ 2147483647) ∧ kF FC s h h' ∧ z = linv μ low high R ∧ SRq μ h') := by
  have hb0 := hb_xm hx hm
  have hs := hx.2.1
  have hc : isS (97 - s) := by unfold isS at *; omega
  refine con_mono (con_conj (h2 := h) (s_PM_lines hx) (t_PM_lines hb0 hc C (LNg_of hm Rq.1))) ?_
  rintro r h' ⟨⟨z, rfl, q2, kc⟩, r2, h2, ⟨rfl, hb2, -⟩, er, -⟩
  exact ⟨z, rfl, q2, kc, cv_eq (cv_I er rfl) q2 (linv_b C.2.1.1), SR_c Rq kc⟩
theorem e_MD_lines {G : cx_T} {s : Nat} {h : ah_T} {μ : pm_T} {low high R : Int} (hx : xi s h) (hm : mi h) (GG : GM μ) (Rq : SRq μ h) : con G 3 0 0 m_MD_lines [av_R (some 170), av_I low, av_I high, av_I R] h (fun r h' => ∃ z, r = some (av_I z) ∧ ((-2147483648) ≤ z ∧ z ≤ 2147483647) ∧ kM (pm [91, 93, 94, 95, 96] [229, 230]) h h' ∧ z = linv μ low high R) := by
  have hb0 := hb_xm hx hm
  refine con_mono (con_conj (h2 := h) (s_MD_lines hm) (t_MD_lines hb0 Rq.1 (LNg_of hm Rq.1))) ?_
  rintro r h' ⟨⟨z, rfl, q2, kn⟩, r2, h2, ⟨rfl, hb2, -⟩, er, -⟩
  exact ⟨z, rfl, q2, kn, cv_eq (cv_I er rfl) q2 (linv_b Rq.1.2.1.1)⟩
