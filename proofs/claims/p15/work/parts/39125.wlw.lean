/-! ===== width of both ===== -/
theorem wdt_b {μ : pm_T} (GG : GM μ) {b : Nat} : 0 ≤ wdt μ b ∧ wdt μ b ≤ 3000000 := by
  have b7 := GG.1.1
  have r := Rem4_b (b := b) (p := ptr0 μ b) GG
  have a := sgA_b (b := b) GG (μ 0 7).toNat (by omega)
  unfold wdt
  omega
theorem widv_b {μ : pm_T} (GG : GM μ) {w : Int} : (-2147483648) ≤ widv μ w ∧ widv μ w ≤ 2147483647 := by
  unfold widv
  by_cases c : 0 ≤ w ∧ w < mbr μ (μ 0 7).toNat
  · rw [dif_t c]
    have := wdt_b GG (b := w.toNat)
    omega
  · rw [dif_f c]; decide
theorem t_MD_width {G : cx_T} {s : Nat} {h : ah_T} {μ : pm_T} {w : Int} (hb0 : hb s h) (H : MV μ h) : con G 4 0 0 m_MD_width [av_R (some 170), av_I w] h (fun r h' => r = some (av_I (widv μ w)) ∧ hb s h' ∧ fr JWs h h') := by
  have GG := H.2.1
  have b7 := GG.1.1
  have mb := mbr_b GG (μ 0 7).toNat (by omega)
  by_cases c : 0 ≤ w ∧ w < mbr μ (μ 0 7).toNat
  · obtain ⟨b, rfl⟩ : ∃ b : Nat, w = b := ⟨w.toNat, by omega⟩
    unfold widv
    rw [dif_t c, tn_c]
    exact t_MD_widthB hb0 H c.2 (by omega)
  · unfold widv
    rw [dif_f c]
    refine c_MD_width (X21 := fun _ _ _ _ => False) (fun _ _ _ _ _ x => x.elim) hb0 (fun _ => ?_)
    unfold B_MD_width_0 B_MD_width_12
    refine ⟨fun q => ⟨rfl, hb0, fr_0⟩, fun q => ?_⟩
    refine con_mono (t_MD_pageBars hb0 H.1) ?_
    rintro r h1 ⟨hb1', rfl, rfl⟩
    exact ⟨_, rfl, hb1', fun q2 => absurd ⟨by omega, q2⟩ c, fun _ => ⟨rfl, hb1', fr_0⟩⟩
theorem e_PM_width {G : cx_T} {s : Nat} {h : ah_T} {μ : pm_T} {w : Int} (hx : xi s h) (hm : mi h) (C : CKn μ (97 - s) h) (R : SRq μ h) : con G 5 0 0 m_PM_width [av_R (some 0), av_I w] h (fun r h' => ∃ z, r = some (av_I z) ∧ ((-2147483648) ≤ z ∧ z ≤ 2147483647) ∧ kF FC s h h' ∧ z = widv μ w ∧ SRq μ h') := by
  have hb0 := hb_xm hx hm
  have V := CV_of hx C R
  refine con_mono (con_conj (h2 := h) (s_PM_width hx) (t_PM_width hb0 V)) ?_
  rintro r h' ⟨⟨z, rfl, q2, kc⟩, r2, h2, ⟨rfl, hb2, -⟩, er, S⟩
  exact ⟨z, rfl, q2, kc, cv_eq (cv_I er rfl) q2 (widv_b V.2.2.1), SR_c R kc⟩
theorem e_MD_width {G : cx_T} {s : Nat} {h : ah_T} {μ : pm_T} {w : Int} (hx : xi s h) (hm : mi h) (hKS : KS h) (hKO : KO h) (GG : GM μ) (R : SRq μ h) : con G 4 0 0 m_MD_width [av_R (some 170), av_I w] h (fun r h' => ∃ z, r = some (av_I z) ∧ ((-2147483648) ≤ z ∧ z ≤ 2147483647) ∧ kM (pm [65, 66] []) h h' ∧ z = widv μ w) := by
  have hb0 := hb_xm hx hm
  refine con_mono (con_conj (h2 := h) (s_MD_width hm hKS hKO) (t_MD_width hb0 (MV_of GG R))) ?_
  rintro r h' ⟨⟨z, rfl, q2, kn⟩, r2, h2, ⟨rfl, hb2, -⟩, er, S⟩
  exact ⟨z, rfl, q2, kn, cv_eq (cv_I er rfl) q2 (widv_b GG)⟩
