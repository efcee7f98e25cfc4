/-! ===== readings of both ===== -/
theorem NMg_of {μ : pm_T} {h : ah_T} (hm : mi h) (K : KSn μ h) (hR : RL h) : NMg μ := by
  obtain ⟨⟨k7, k3, k4, k5⟩, -, -, ru, ro, -⟩ := K
  refine ⟨fun r hr => ?_, fun i hi => ?_⟩
  · obtain ⟨x, y, z⟩ := ru r hr
    obtain ⟨p, q⟩ := hR r (by rw [k4]; exact hr)
    have m2 := (hm.2.2.1 178 r (by decide) (by decide)).2
    have m3 := (hm.2.2.1 179 r (by decide) (by decide)).2
    have m4 := hm.2.2.1 180 r (by decide) (by decide)
    have e2 : mr 178 r = (-2, 15) := rfl
    have e3 : mr 179 r = (-2, 15) := rfl
    have e4 : mr 180 r = (-2, 15) := rfl
    rw [e2] at m2
    rw [e3] at m3
    rw [e4, z] at m4
    rw [x] at p m2
    rw [y] at q m3
    dsimp only at m2 m3 m4
    unfold nz at m4
    refine ⟨⟨p, m2⟩, ⟨q, m3⟩, ?_⟩
    split at m4 <;> omega
  · have m5 := hm.2.2.1 182 i (by decide) (by decide)
    have e5 : mr 182 i = (0, 15) := rfl
    rw [e5, ro i hi] at m5
    exact m5
theorem reav_b {μ : pm_T} : (-2147483648) ≤ reav μ ∧ reav μ ≤ 2147483647 := by
  have rb : 0 ≤ reaN μ ∧ reaN μ ≤ 1000001 := trN_b _ _ _
  unfold reav
  repeat' split
  all_goals omega
theorem e_PM_readings {G : cx_T} {s : Nat} {h : ah_T} {μ : pm_T} (hx : xi s h) (hm : mi h) (C : CKn μ (97 - s) h) (R : SRq μ h) (hR : RL h) : con G 6 0 0 m_PM_readings [av_R (some 0)] h (fun r h' => ∃ z, r = some (av_I z) ∧ ((-2147483648) ≤ z ∧ z ≤ 2147483647) ∧ kF FC s h h' ∧ z = reav μ ∧ SRq μ h') := by
  have hb0 := hb_xm hx hm
  have hs := hx.2.1
  have hc : isS (97 - s) := by unfold isS at *; omega
  refine con_mono (con_conj (h2 := h) (s_PM_readings hx) (t_PM_readings hb0 hc (RUc_of C) (NMg_of hm R.1 hR))) ?_
  rintro r h' ⟨⟨z, rfl, q2, kc⟩, r2, h2, ⟨rfl, hb2, -⟩, er, -⟩
  exact ⟨z, rfl, q2, kc, cv_eq (cv_I er rfl) q2 reav_b, SR_c R kc⟩
theorem e_MD_readings {G : cx_T} {s : Nat} {h : ah_T} {μ : pm_T} (hx : xi s h) (hm : mi h) (hR : RL h) (hT : TP h) (GG : GM μ) (R : SRq μ h) : con G 2 0 0 m_MD_readings [av_R (some 170)] h (fun r h' => ∃ z, r = some (av_I z) ∧ ((-2147483648) ≤ z ∧ z ≤ 2147483647) ∧ (TP h') ∧ kM (pm [98] [231]) h h' ∧ z = reav μ) := by
  have hb0 := hb_xm hx hm
  refine con_mono (con_conj (h2 := h) (s_MD_readings hm hR hT) (t_MD_readings hb0 (RUm_of R.1) (NMg_of hm R.1 hR))) ?_
  rintro r h' ⟨⟨z, rfl, q2, q3, kn⟩, r2, h2, ⟨rfl, hb2, -⟩, er, -⟩
  exact ⟨z, rfl, q2, q3, kn, cv_eq (cv_I er rfl) q2 reav_b⟩
