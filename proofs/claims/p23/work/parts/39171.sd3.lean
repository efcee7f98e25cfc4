/-! ===== sample of both ===== -/
theorem cv_Dd {G : cx_T} {z w : UInt64} {r : Option av_T} (e : r.map (cv G) = (some (av_D z)).map (cv G)) (hr : r = some (av_D w)) : z = w := by
  subst hr
  have e1 : some (Value.double w) = some (Value.double z) := e
  injection e1 with e2
  injection e2 with e3
  exact e3.symm
theorem e_PM_sample {G : cx_T} {s : Nat} {h : ah_T} {μ : pm_T} {a b : Int} (hx : xi s h) (hm : mi h) (C : CKn μ (97 - s) h) (R : SRq μ h) : con G 5 0 0 m_PM_sample [av_R (some 0), av_I a, av_I b] h (fun r h' => ∃ z, r = some (av_D z) ∧ h = h' ∧ z = sdq μ a b) := by
  refine con_mono (x_sample (hb_xm hx hm) (CV_of hx C R)) ?_
  rintro r h' ⟨rfl, hb2, rfl⟩
  exact ⟨_, rfl, rfl, rfl⟩
theorem e_MD_sample {G : cx_T} {s : Nat} {h : ah_T} {μ : pm_T} {a b : Int} (hx : xi s h) (hm : mi h) (hKS : KS h) (GG : GM μ) (R : SRq μ h) : con G 4 0 0 m_MD_sample [av_R (some 170), av_I a, av_I b] h (fun r h' => ∃ z, r = some (av_D z) ∧ kM (pm [65, 66] []) h h' ∧ z = sdq μ a b) := by
  have hb0 := hb_xm hx hm
  refine con_mono (con_conj (h2 := h) (s_MD_sample hm hKS) (y_sample hb0 (MV_of GG R))) ?_
  rintro r h' ⟨⟨z, rfl, kn⟩, r2, h2, ⟨rfl, hb2, -⟩, er, S⟩
  exact ⟨z, rfl, kn, cv_Dd er rfl⟩
