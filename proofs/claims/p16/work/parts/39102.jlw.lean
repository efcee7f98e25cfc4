/-! ===== judge of both ===== -/
theorem GM_of {μ : pm_T} {c : Nat} {h : ah_T} (C : CKn μ c h) (R : SRq μ h) : GM μ := ⟨VGm_of R.2.2.2.1, OKm_t R.2.2.2.1, fun n hn => (C.2.2.2.2.2 n hn).2⟩
theorem CV_of {μ : pm_T} {s : Nat} {h : ah_T} (hx : xi s h) (C : CKn μ (97 - s) h) (R : SRq μ h) : CV μ (97 - s) h := by
  have hs := hx.2.1
  refine ⟨by unfold isS at *; omega, C, GM_of C R, fun v hv b => ?_⟩
  have hl := isV_l hv
  have := (hx.2.2.2.2.2.2.1 (v + 3) b (by omega)).2
  rw [rgV hv] at this
  exact this
theorem MV_of {μ : pm_T} {h : ah_T} (G : GM μ) (R : SRq μ h) : MV μ h := ⟨R.1, G, R.2.2.2.2⟩
theorem juF_b {μ : pm_T} (G : GM μ) : (juF μ (μ 0 7).toNat).length ≤ 6404 := by
  have b := G.1.1
  have a := juF_l G (μ 0 7).toNat (by omega)
  have d : ∀ n, n ≤ 4 → LBj n ≤ 6404 := by decide
  exact Nat.le_trans a (d _ (by omega))
theorem SR_c {μ : pm_T} {s : Nat} {h h' : ah_T} (R : SRq μ h) (k : kF FC s h h') : SRq μ h' := KS_s2 R (fun a j q1 q2 => ⟨congrFun (k.2 a (Or.inr (by omega))).1 j, congrFun (k.2 a (Or.inr (by omega))).2.1 j⟩)
theorem cv_eq {z w : Int} (e : Int32.ofInt z = Int32.ofInt w) (h1 : (-2147483648) ≤ z ∧ z ≤ 2147483647) (h2 : (-2147483648) ≤ w ∧ w ≤ 2147483647) : z = w := (i32_eq (by unfold i32; omega) (by unfold i32; omega)).mp e
theorem e_PM_judge {G : cx_T} {s : Nat} {h : ah_T} {μ : pm_T} (hx : xi s h) (hm : mi h) (C : CKn μ (97 - s) h) (R : SRq μ h) : con G 6 0 0 m_PM_judge [av_R (some 0)] h (fun r h' => ∃ z, r = some (av_I z) ∧ ((-2147483648) ≤ z ∧ z ≤ 2147483647) ∧ kF FC s h h' ∧ z = ((juF μ (μ 0 7).toNat).length : Int) ∧ SRq μ h') := by
  have hb0 := hb_xm hx hm
  have V := CV_of hx C R
  have lb := juF_b V.2.2.1
  have t : con G 6 0 0 m_PM_judge [av_R (some 0)] h (fun r h' => r = some (av_I ((juF μ (μ 0 7).toNat).length : Int)) ∧ hb s h') := by
    refine c_PM_judge hb0 ?_
    unfold B_PM_judge_0
    refine con_mono (t_Judge_hear hb0 V) ?_
    rintro r h' ⟨rfl, hb', -⟩
    exact ⟨_, rfl, hb', rfl, hb'⟩
  refine con_mono (con_conj (h2 := h) (s_PM_judge hx) t) ?_
  rintro r h' ⟨⟨z, rfl, q2, kc⟩, r2, h2, ⟨rfl, hb2⟩, er, S⟩
  exact ⟨z, rfl, q2, kc, cv_eq (cv_I er rfl) q2 (by omega), SR_c R kc⟩
theorem e_MD_judge {G : cx_T} {s : Nat} {h : ah_T} {μ : pm_T} (hx : xi s h) (hm : mi h) (hKS : KS h) (GG : GM μ) (R : SRq μ h) : con G 6 0 0 m_MD_judge [av_R (some 170)] h (fun r h' => ∃ z, r = some (av_I z) ∧ ((-2147483648) ≤ z ∧ z ≤ 2147483647) ∧ (h'.2.1 170 80 ≤ 8000) ∧ kM (pm [65, 66, 80] [221, 222, 223, 224]) h h' ∧ z = ((juF μ (μ 0 7).toNat).length : Int)) := by
  have hb0 := hb_xm hx hm
  have lb := juF_b GG
  refine con_mono (con_conj (h2 := h) (s_MD_judge hm hKS) (t_MD_judge hb0 (MV_of GG R))) ?_
  rintro r h' ⟨⟨z, rfl, q2, q3, kn⟩, r2, h2, ⟨rfl, hb2, -⟩, er, S⟩
  exact ⟨z, rfl, q2, q3, kn, cv_eq (cv_I er rfl) q2 (by omega)⟩
