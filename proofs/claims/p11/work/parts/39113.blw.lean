/-! ===== beam of both ===== -/
theorem cntS_k {μ : pm_T} {n f : Nat} : ∀ k, cntS μ n f k ≤ k
  | 0 => Nat.le_refl _
  | k + 1 => by
    have := cntS_k (μ := μ) (n := n) (f := f) k
    rw [cntS]
    by_cases c : Shr μ n (f + k)
    · rw [dif_t c]; omega
    · rw [dif_f c]; omega
theorem bmC_b {μ : pm_T} (GG : GM μ) {n b : Nat} (hn : (n : Int) < μ 0 7) : -4 ≤ bmC μ n b ∧ bmC μ n b ≤ 900 := by
  have m := (GG.2.2 n hn).1
  have e1 := brE_b GG (b := b + 1) hn
  have em := brE_m GG (b := b) hn
  unfold bmC
  by_cases c : 14 < cntS μ n (brE μ n b) (brE μ n (b + 1) - brE μ n b)
  · rw [dif_t c]; decide
  · rw [dif_f c]
    obtain ⟨⟨i1, i2⟩, i3, i4, i5, i6⟩ := csC_b (f := brE μ n b) GG hn (brE μ n (b + 1) - brE μ n b) (by omega)
    obtain ⟨⟨x1, x2⟩, x3⟩ := cut_b (f := brE μ n b) GG hn (z := brE μ n (b + 1)) (q := csC μ n (brE μ n b) (brE μ n (b + 1) - brE μ n b)) e1 (by omega) (fun e q1 q2 => i3 e q1 (by omega))
    rw [show brE μ n b + (brE μ n (b + 1) - brE μ n b) = brE μ n (b + 1) by omega] at i6
    omega
theorem bmv_b {μ : pm_T} (GG : GM μ) {v w : Int} : (-2147483648) ≤ bmv μ v w ∧ bmv μ v w ≤ 2147483647 := by
  unfold bmv
  by_cases c : (0 ≤ v ∧ v < μ 0 7) ∧ (0 ≤ w ∧ w < μ (10 + v.toNat) 1)
  · rw [dif_t c]
    have := bmC_b GG (n := v.toNat) (b := w.toNat) (by omega)
    omega
  · rw [dif_f c]; decide
theorem t_MD_beam {G : cx_T} {s : Nat} {h : ah_T} {μ : pm_T} {v w : Int} (hb0 : hb s h) (H : MV μ h) : con G 5 0 0 m_MD_beam [av_R (some 170), av_I v, av_I w] h (fun r h' => r = some (av_I (bmv μ v w)) ∧ hb s h' ∧ fr JWr h h') := by
  by_cases c : (0 ≤ v ∧ v < μ 0 7) ∧ (0 ≤ w ∧ w < μ (10 + v.toNat) 1)
  · obtain ⟨n, rfl⟩ : ∃ n : Nat, v = n := ⟨v.toNat, by omega⟩
    obtain ⟨b, rfl⟩ : ∃ b : Nat, w = b := ⟨w.toNat, by omega⟩
    rw [tn_c] at c
    refine con_mono (t_MD_bar hb0 H c.1.2 c.2.2) ?_
    rintro r h' ⟨rfl, hb', f, -⟩
    unfold bmv
    rw [tn_c, tn_c, dif_t c]
    exact ⟨rfl, hb', f⟩
  · have e : bmv μ v w = -1 := by unfold bmv; rw [dif_f c]
    rw [e]
    refine c_MD_beam (X47 := fun _ _ _ _ _ => False) (fun _ _ _ _ _ _ x => x.elim) hb0 (fun _ _ => ?_)
    unfold B_MD_beam_0 B_MD_beam_22
    refine con_mono (t_MD_isVoice hb0 H.1) ?_
    rintro r h2 ⟨hb2, rfl, rfl⟩
    refine ⟨_, rfl, hb2, fun q => ⟨rfl, hb2, fr_0⟩, fun q => ⟨fun q2 => ⟨rfl, hb2, fr_0⟩, fun q2 => ?_⟩⟩
    have qv : 0 ≤ v ∧ v < μ 0 7 := by
      split at q
      · assumption
      · exact absurd rfl q
    have b4 := H.2.1.1.1
    refine ⟨by omega, fun x5 e5 _ _ => ?_⟩
    have ex := e5.trans (MV_n H (n := v.toNat) (by omega)).2.1
    subst ex
    exact ⟨fun q3 => absurd ⟨qv, by omega, q3⟩ c, fun q3 => ⟨rfl, hb2, fr_0⟩⟩
theorem e_PM_beam {G : cx_T} {s : Nat} {h : ah_T} {μ : pm_T} {v w : Int} (hx : xi s h) (hm : mi h) (C : CKn μ (97 - s) h) (R : SRq μ h) : con G 5 0 0 m_PM_beam [av_R (some 0), av_I v, av_I w] h (fun r h' => ∃ z, r = some (av_I z) ∧ ((-2147483648) ≤ z ∧ z ≤ 2147483647) ∧ kF FC s h h' ∧ z = bmv μ v w ∧ SRq μ h') := by
  have hb0 := hb_xm hx hm
  have V := CV_of hx C R
  refine con_mono (con_conj (h2 := h) (s_PM_beam hx) (t_PM_beam hb0 V)) ?_
  rintro r h' ⟨⟨z, rfl, q2, kc⟩, r2, h2, ⟨rfl, hb2, -⟩, er, S⟩
  exact ⟨z, rfl, q2, kc, cv_eq (cv_I er rfl) q2 (bmv_b V.2.2.1), SR_c R kc⟩
theorem e_MD_beam {G : cx_T} {s : Nat} {h : ah_T} {μ : pm_T} {v w : Int} (hx : xi s h) (hm : mi h) (hKS : KS h) (GG : GM μ) (R : SRq μ h) : con G 5 0 0 m_MD_beam [av_R (some 170), av_I v, av_I w] h (fun r h' => ∃ z, r = some (av_I z) ∧ ((-2147483648) ≤ z ∧ z ≤ 2147483647) ∧ kM (pm [65, 66, 85] [225, 226, 227]) h h' ∧ z = bmv μ v w) := by
  have hb0 := hb_xm hx hm
  refine con_mono (con_conj (h2 := h) (s_MD_beam hm hKS) (t_MD_beam hb0 (MV_of GG R))) ?_
  rintro r h' ⟨⟨z, rfl, q2, kn⟩, r2, h2, ⟨rfl, hb2, -⟩, er, S⟩
  exact ⟨z, rfl, q2, kn, cv_eq (cv_I er rfl) q2 (bmv_b GG)⟩
