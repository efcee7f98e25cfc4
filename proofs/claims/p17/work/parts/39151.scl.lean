/-! ===== second voices, the class: lines ===== -/
/-- the line's keys are small -/
def LNg (μ : pm_T) : Prop := ∀ j : Nat, (j : Int) < μ 0 3 → -2 ≤ μ 1 j ∧ μ 1 j ≤ 109
def spn (low high : Int) : Nat := (high - low + 1).toNat
/-- all rows, and the way through them -/
noncomputable def lnT2 (μ : pm_T) (low high R : Int) : List (Option Nat) := tvF low (spn low high) (fP R (μ 1) (μ 0 3).toNat) ((μ 0 3).toNat - 1) []
noncomputable def lnR (μ : pm_T) (low high R : Int) : List Nat := rws (lnT2 μ low high R)
def okl (low high R : Int) : Prop := (0 ≤ low ∧ high ≤ 120 ∧ low ≤ high) ∧ 0 ≤ R ∧ R ≤ 511
noncomputable def linv (μ : pm_T) (low high R : Int) : Int := dif (okl low high R) (dif (μ 0 3 = 0) (-2) (dif (100000 < spn low high ^ (μ 0 3).toNat) (-4) ((lnR μ low high R).length : Int))) (-1)
theorem lnR_e {μ : pm_T} {low high R : Int} (h : 1 ≤ μ 0 3) : lnR μ low high R = rwF low (spn low high) (fP R (μ 1) (μ 0 3).toNat) (μ 0 3).toNat [] := by
  obtain ⟨k, hk⟩ : ∃ k, (μ 0 3).toNat = k + 1 := ⟨(μ 0 3).toNat - 1, by omega⟩
  unfold lnR lnT2
  rw [hk]
  rfl
abbrev JWS : Nat → Nat → Prop := fun a k => (a = 158 ∧ 1 ≤ k) ∨ (159 ≤ a ∧ a ≤ 161)
theorem JWe_S {h h' : ah_T} (f : fr JWe h h') : fr JWS h h' := fr_w f (fun a k w => by rcases w with w | w | w <;> omega)
theorem tb64_0 {k : Nat} : tb64 0 k = false := by
  have e : (Int64.ofInt 0).toBitVec = 0#64 := by decide
  unfold tb64
  rw [e]
  exact BitVec.getLsbD_zero
section
variable {G : cx_T} {s c : Nat} {h : ah_T} {μ : pm_T} {low high R : Int}
theorem t_Seconds_find (hb0 : hb s h) (hc : isS c) (C : CKn μ c h) (L : LNg μ) (hn : 1 ≤ μ 0 3) (ok : 0 ≤ low ∧ high ≤ 120 ∧ low ≤ high) : con G 13 0 0 m_Seconds_find [av_R (some 158), av_R (some c), av_I low, av_I high, av_I R] h (fun r h' => hb s h' ∧ fr JWS h h' ∧ ((100000 < spn low high ^ (μ 0 3).toNat ∧ r = some (av_I (-4)) ∧ h' = h) ∨ (¬ 100000 < spn low high ^ (μ 0 3).toNat ∧ r = some (av_I ((lnR μ low high R).length : Int)) ∧ PRc low (spn low high) (μ 0 3).toNat R (μ 1) h' ∧ BLs (lnR μ low high R) h'))) := by
  obtain ⟨⟨c7, c1, c2, c3, -⟩, ⟨b3, -⟩, cl, -⟩ := C
  have hc2 : c = 17 ∨ c = 80 := hc
  rw [lnR_e hn]
  obtain ⟨sp, esp⟩ : ∃ q, q = spn low high := ⟨_, rfl⟩
  obtain ⟨n, en⟩ : ∃ q, q = (μ 0 3).toNat := ⟨_, rfl⟩
  have e3 : μ 0 3 = (n : Int) := by omega
  have spI : high - low + 1 = (sp : Int) := by rw [esp]; unfold spn; omega
  rw [← esp, ← en]
  have hg : PRg low sp n (μ 1) := ⟨⟨by omega, by omega⟩, by omega, ⟨by omega, by omega⟩, fun j hj => L j (by omega)⟩
  have l110 : ¬ 100000 < sp ^ n → ∀ (v7 : Int) (hh : ah_T), hb s hh → (fr JWS h hh ∧ PRc low sp n R (μ 1) hh ∧ ∃ k : Nat, v7 = (k : Int) ∧ k ≤ 1563 ∧ ∀ i, i < k → hh.2.2.1 159 i = 0) → aw G (rm_R 13 0 0) m_Seconds_find 0 0 110 [some (av_R (some 158)), none, none, none, none, none, none, some (av_I v7)] [] hh (fun r h' => hb s h' ∧ fr JWS h h' ∧ ((100000 < sp ^ n ∧ r = some (av_I (-4)) ∧ h' = h) ∨ (¬ 100000 < sp ^ n ∧ r = some (av_I ((rwF low sp (fP R (μ 1) n) n []).length : Int)) ∧ PRc low sp n R (μ 1) h' ∧ BLs (rwF low sp (fP R (μ 1) n) n []) h'))) := fun hN => by
    refine lp_Seconds_find_110 (a1 := c) (a2 := low) (a3 := high) (a4 := R) hc _ (fun v7 _ => (2000 - v7).toNat) ?_
    rintro v7 hh hb1 ⟨f, H, k, rfl, hk, Z⟩
    unfold B_Seconds_find_110
    refine ⟨fun q h2 e2 => ?_, fun q => ⟨by omega, fun h10 e10 => ⟨⟨by omega, by omega⟩, ⟨fr_l f e10 (by omega), ?_, k + 1, by omega, by omega, fun i hi => ?_⟩, by omega⟩⟩⟩
    · have k0 : k = 1563 := by omega
      subst k0
      have f2 : fr JWS h h2 := fr_i f e2 (by omega)
      have H2 : PRc low sp n R (μ 1) h2 := PRc_f H (fr_i (W := fun a k => a = 158 ∧ k = 1) fr_0 e2 ⟨rfl, rfl⟩) (fun a k w => by omega)
      have B2 : BLs [] h2 := by
        refine ⟨mv_i e2, fun r hr => ?_⟩
        rw [mm_io e2, Z _ (by omega), tb64_0]
        exact ⟨fun w => (by cases w), fun w => (by cases w)⟩
      have je := j_ext (G := G) (R := R) hg (by omega) 8 n (h := h2) (p := []) (l := []) rfl (by show 0 + n = n; omega) (hb_i hb1 e2) H2 trivial (fun x hx => by cases hx) B2 (by show 0 + sp ^ n ≤ 100000; omega)
      refine con_mono je ?_
      rintro r h4 ⟨rfl, hb4, f4, -, B4⟩
      refine ⟨rfl, hb4, fun x7 e7 _ _ => ⟨hb4, fr_t f2 (JWe_S f4) (fun _ _ w => w), Or.inr ⟨hN, ?_, PRc_f H2 f4 JWe_p, B4⟩⟩⟩
      rw [e7, B4.1]
      rfl
    · exact PRc_f H (fr_l (W := fun a _ => a = 159) fr_0 e10 rfl) (fun a k w => by omega)
    · rw [tn_c] at e10
      by_cases ci : i = k
      · subst ci; exact mv_l e10
      · rw [mm_l e10 (by omega)]; exact Z i (by omega)
  have l78 : ¬ 100000 < sp ^ n → ∀ (v7 : Int) (hh : ah_T), hb s hh → (fr JWS h hh ∧ (hh.2.1 158 2 = low ∧ hh.2.1 158 3 = (sp : Int) ∧ hh.2.1 158 4 = (n : Int) ∧ hh.2.1 158 5 = R) ∧ ∃ k : Nat, v7 = (k : Int) ∧ k ≤ n ∧ ∀ i, i < k → hh.2.1 160 i = μ 1 i) → aw G (rm_R 13 0 0) m_Seconds_find 0 0 78 [some (av_R (some 158)), some (av_R (some c)), none, none, none, none, none, some (av_I v7)] [] hh (fun r h' => hb s h' ∧ fr JWS h h' ∧ ((100000 < sp ^ n ∧ r = some (av_I (-4)) ∧ h' = h) ∨ (¬ 100000 < sp ^ n ∧ r = some (av_I ((rwF low sp (fP R (μ 1) n) n []).length : Int)) ∧ PRc low sp n R (μ 1) h' ∧ BLs (rwF low sp (fP R (μ 1) n) n []) h'))) := fun hN => by
    refine lp_Seconds_find_78 (a1 := c) (a2 := low) (a3 := high) (a4 := R) hc (l110 hN) _ (fun v7 _ => (20 - v7).toNat) ?_
    rintro v7 hh hb1 ⟨f, H, k, rfl, hk, Z⟩
    unfold B_Seconds_find_78
    intro x1 e1 _ _
    have ex := e1.trans H.2.2.1
    subst ex
    refine ⟨fun q => ⟨f, ⟨H, fun j hj => Z j (by omega)⟩, 0, rfl, Nat.zero_le _, fun i hi => by omega⟩, fun q => ⟨by omega, fun x4 e4 _ _ h6 e6 => ⟨⟨by omega, by omega⟩, ⟨fr_i f e6 (by omega), ?_, k + 1, by omega, by omega, fun i hi => ?_⟩, by omega⟩⟩⟩
    · rw [mm_i e6 (by omega), mm_i e6 (by omega), mm_i e6 (by omega), mm_i e6 (by omega)]
      exact H
    · rw [tn_c] at e4 e6
      by_cases ci : i = k
      · subst ci
        rw [mv_i e6, e4, fr_g f (by omega)]
        exact cl i (by omega)
      · rw [mm_i e6 (by omega)]; exact Z i (by omega)
  refine c_Seconds_find (X13 := fun v5 v6 v7 hh => hh = h ∧ v5 = (sp : Int) ∧ ∃ i : Nat, v7 = (i : Int) ∧ i ≤ n ∧ v6 = ((sp ^ i : Nat) : Int) ∧ sp ^ i ≤ 100000) hc ?_ hb0 (fun _ _ _ => ?_)
  · refine lp_Seconds_find_13 (a3 := high) (X78 := fun v7 hh => ¬ 100000 < sp ^ n ∧ fr JWS h hh ∧ (hh.2.1 158 2 = low ∧ hh.2.1 158 3 = (sp : Int) ∧ hh.2.1 158 4 = (n : Int) ∧ hh.2.1 158 5 = R) ∧ ∃ k : Nat, v7 = (k : Int) ∧ k ≤ n ∧ ∀ i, i < k → hh.2.1 160 i = μ 1 i) hc (fun v7 hh hb' x => l78 x.1 v7 hh hb' x.2) _ (fun _ _ v7 _ => (20 - v7).toNat) ?_
    rintro v5 v6 v7 hh hb1 ⟨rfl, rfl, i, rfl, hi, rfl, hs⟩
    unfold B_Seconds_find_13
    intro x1 e1 _ _
    have ex : x1 = (n : Int) := e1.trans (c3.trans e3)
    subst ex
    refine ⟨fun q h2 e2 h4 e4 h6 e6 x8 e8 _ _ x9 e9 _ _ h10 e10 => ?_, fun q x12 e12 => ?_⟩
    · have : i = n := by omega
      subst this
      have f6 : fr JWS hh h6 := fr_i (fr_i (fr_i fr_0 e2 (by omega)) e4 (by omega)) e6 (by omega)
      have ex : x8 = (i : Int) := by
        rw [e8, fr_g f6 (by omega)]
        exact c3.trans e3
      subst ex
      have ex : x9 = (i : Int) := by
        rw [e9]
        split <;> omega
      subst ex
      refine ⟨by omega, fr_i f6 e10 (by omega), ⟨?_, ?_, mv_i e10, ?_⟩, 0, rfl, Nat.zero_le _, fun j hj => by omega⟩
      · rw [mm_i e10 (by omega), mm_i e6 (by omega), mm_i e4 (by omega), mv_i e2]
      · rw [mm_i e10 (by omega), mm_i e6 (by omega), mv_i e4]
      · rw [mm_i e10 (by omega), mv_i e6]
    · have ep : sp ^ (i + 1) = sp ^ i * sp := Nat.pow_succ ..
      have ex : x12 = ((sp ^ (i + 1) : Nat) : Int) := by rw [e12, ep, Int.natCast_mul]
      have bd : sp ^ i * sp ≤ 100000 * sp := Nat.mul_le_mul_right _ hs
      subst ex
      refine ⟨⟨by omega, by omega⟩, fun q2 => ⟨⟨by omega, by omega⟩, ⟨rfl, rfl, i + 1, by omega, by omega, rfl, by omega⟩, by omega⟩, fun q2 => ?_⟩
      have pw : sp ^ (i + 1) ≤ sp ^ n := Nat.pow_le_pow_right (by omega) (by omega)
      exact ⟨hb1, fr_0, Or.inl ⟨by omega, rfl, rfl⟩⟩
  · unfold B_Seconds_find_0
    rw [spI]
    exact ⟨⟨by omega, by omega⟩, ⟨by omega, by omega⟩, rfl, rfl, 0, rfl, Nat.zero_le _, rfl, by show 1 ≤ 100000; decide⟩
theorem t_PM_lines {s : Nat} {h : ah_T} (hb0 : hb s h) (hc : isS (97 - s)) (C : CKn μ (97 - s) h) (L : LNg μ) : con G 14 0 0 m_PM_lines [av_R (some 0), av_I low, av_I high, av_I R] h (fun r h' => r = some (av_I (linv μ low high R)) ∧ hb s h' ∧ fr JWS h h' ∧ (linv μ low high R < 0 → h' = h) ∧ (0 ≤ linv μ low high R → PRc low (spn low high) (μ 0 3).toNat R (μ 1) h' ∧ BLs (lnR μ low high R) h')) := by
  have b3 := C.2.1.1
  have no : ∀ {v : Int}, v < 0 → linv μ low high R = v → some (av_I v) = some (av_I (linv μ low high R)) ∧ hb s h ∧ fr JWS h h ∧ (linv μ low high R < 0 → h = h) ∧ (0 ≤ linv μ low high R → PRc low (spn low high) (μ 0 3).toNat R (μ 1) h ∧ BLs (lnR μ low high R) h) := fun q e => by
    rw [e]
    exact ⟨rfl, hb0, fr_0, fun _ => rfl, fun x => by omega⟩
  have bad : ¬ okl low high R → linv μ low high R = -1 := fun q => by unfold linv; rw [dif_f q]
  refine c_PM_lines hb0 (fun _ _ _ => ?_)
  unfold B_PM_lines_0 B_PM_lines_26
  refine ⟨fun q => no (by decide) (bad (fun w => by have := w.1; omega)), fun q1 => ⟨fun q => no (by decide) (bad (fun w => by have := w.1; omega)), fun q2 => ⟨fun q => no (by decide) (bad (fun w => by have := w.1; omega)), fun q3 => ⟨fun q => no (by decide) (bad (fun w => by have := w.2; omega)), fun q4 => ⟨fun q5 x2 e2 _ _ => ?_, fun q => no (by decide) (bad (fun w => by have := w.2; omega))⟩⟩⟩⟩⟩
  have ok : okl low high R := ⟨⟨by omega, by omega, by omega⟩, by omega, by omega⟩
  have ex := e2.trans C.1.2.2.2.1
  subst ex
  refine ⟨fun q => no (by decide) (by unfold linv; rw [dif_t ok, dif_t q]), fun q => ?_⟩
  have e0 : linv μ low high R = dif (100000 < spn low high ^ (μ 0 3).toNat) (-4) ((lnR μ low high R).length : Int) := by unfold linv; rw [dif_t ok, dif_f q]
  refine con_mono (t_Seconds_find hb0 hc C L (by omega) ok.1) ?_
  rintro r h5 ⟨hb5, f5, ⟨w1, rfl, rfl⟩ | ⟨w1, rfl, P5, B5⟩⟩
  · exact ⟨_, rfl, hb5, no (by decide) (by rw [e0, dif_t w1])⟩
  · have e1 : linv μ low high R = ((lnR μ low high R).length : Int) := by rw [e0, dif_f w1]
    rw [e1]
    exact ⟨_, rfl, hb5, rfl, hb5, f5, fun x => by omega, fun _ => ⟨P5, B5⟩⟩
end
