/-! ===== the reference: a sound ===== -/
/-- a sound is being read: its part is counted already -/
def RSm (π : pm_T) (h : ah_T) : Prop := h.2.1 170 43 = π 0 0 + 1 ∧ RPx π h ∧ PW π ∧ PS π ∧ h.2.1 201 (sz π) = 0 ∧ ESm π (sz π) h
/-- what reading a sound writes -/
abbrev WSm : Nat → Nat → Prop := fun a k => (a = 170 ∧ ((3 ≤ k ∧ k ≤ 12) ∨ k = 43 ∨ k = 64)) ∨ (201 ≤ a ∧ a ≤ 209)
theorem WK_S : ∀ a k, WK a k → WSm a k := fun a k q => Or.inl ⟨q.1, Or.inl q.2⟩
theorem WM_S : ∀ a k, WM a k → WSm a k := fun a k q => WK_S a k (WM_K a k q)
abbrev WPp (p : Nat) : Nat → Nat → Prop := fun a k => (a = 170 ∧ ((3 ≤ k ∧ k ≤ 10) ∨ k = 64)) ∨ ((a = 204 ∨ a = 207) ∧ k = p) ∨ ((a = 205 ∨ a = 206) ∧ 4 * p ≤ k ∧ k < 4 * p + 4)
theorem t_MD_pitchOf {G : cx_T} {s : Nat} {h : ah_T} {X : tx_T} {i : Nat} {μ π : pm_T} (hb0 : hb s h) (hA : XA X) (H : RMs X i μ h) (R : RSm π h) (hk : tK X.2.2.1 i = 258) (h5 : π 5 (sz π) < 4) (hp : sz π < 2100) :
    con G 3 0 0 m_MD_pitchOf [av_R (some 170), av_I (sz π : Int)] h (fun r h' => ∃ z, r = some (av_I z) ∧ hb s h' ∧ fr WSm h h' ∧ ((π 0 2 < 300 ∧ z = 1 ∧ RMs X (i + 1) μ h' ∧ RSm (pch X.2.2.1 i (sgt X.2.2.1 i) (adm π)) h') ∨ (¬ π 0 2 < 300 ∧ z = 0 ∧ h'.2.1 170 11 = 3 ∧ h'.2.1 170 12 = tP X.2.2.1 i))) := by
  have hT : TG X.2.2.1 X.2.2.2.1 := XA_g hA
  have hkb := hT.2.2 i H.1.2.1 hk
  have hsg := sg_mk hA H.1.2.1 hk
  have h8 := H.1.2.2.2.2.2.2.2.1 hk
  obtain ⟨R1, R2, P, S, R3, R4⟩ := R
  obtain ⟨⟨s1, s2, s3, s4⟩, s5, s6⟩ := S
  obtain ⟨P0, -, -⟩ := id P
  obtain ⟨e, en⟩ : ∃ e : Nat, π 5 (sz π) = (e : Int) := ⟨(π 5 (sz π)).toNat, by omega⟩
  refine c_MD_pitchOf hb0 (fun _ => ?_)
  unfold B_MD_pitchOf_0
  intro x1 e1 _ _
  have ex1 : x1 = π 0 2 := e1.trans R2.1.2
  refine ⟨fun c y ey _ _ => ?_, fun c => ⟨⟨by omega, by omega⟩, fun h4 e4 => ⟨⟨by omega, by omega⟩, ⟨by omega, by omega⟩, ?_⟩⟩⟩
  · refine con_mono (t_MD_wrongk hb0 H.2.2) ?_
    rintro r h' ⟨z, rfl, hb1, f1, rfl, q1, q2⟩
    exact ⟨0, rfl, hb1, Or.inl rfl, 0, rfl, hb1, fr_w f1 WK_S, Or.inr ⟨by omega, rfl, q1, by rw [q2, ey]; exact H.1.2.2.1⟩⟩
  rw [tn_c]
  intro x8 e8 _ _
  have ex8 : x8 = (e : Int) := by rw [e8, mm_i e4 (by omega), R4.1, en]
  subst ex8
  refine ⟨⟨by omega, by omega⟩, fun x12 e12 _ _ => ⟨⟨by omega, by omega⟩, ?_⟩⟩
  have ek : (4 * (sz π : Int) + (e : Int)).toNat = 4 * sz π + e := by omega
  rw [ek]
  intro h14 e14 x17 e17 _ _ h18 e18 x21 e21 _ _ x22 e22 _ _
  have g12 : x12 = tV' X.2.2.1 i := by rw [e12, mm_i e4 (by omega)]; exact h8.1
  have g17 : x17 = tS X.2.2.1 i := by rw [e17, mm_i e14 (by omega), mm_i e4 (by omega)]; exact h8.2.1
  have g21 : x21 = π 17 (sz π) := by rw [e21, mm_i e18 (by omega), mm_i e14 (by omega), mm_i e4 (by omega)]; exact R4.2.1
  have g22 : x22 = sgt X.2.2.1 i := by rw [e22, mm_i e18 (by omega), mm_i e14 (by omega), mm_i e4 (by omega), hsg]; exact h8.2.2
  have hm := mk_2 (T := X.1) (n := X.2.1) (p := X.2.2.2.2.1 i)
  have b17 : 0 ≤ π 17 (sz π) ∧ π 17 (sz π) ≤ 100000 := by
    rw [s4]
    have : ∀ k : Nat, k ≤ 4 → (k : Int) ≤ π 5 (sz π) → 0 ≤ sgs π (sz π) k ∧ sgs π (sz π) k ≤ 2000 * k := by
      intro k
      induction k with
      | zero => intro _ _; exact ⟨Int.le_refl _, Int.le_refl _⟩
      | succ k ih =>
        intro h1 h2
        have i1 := ih (by omega) (by omega)
        obtain ⟨⟨w1, w2⟩, w3, w4⟩ := s3 k (by omega)
        have w5 : 0 ≤ sgk (π (6 + k) (sz π)) (π (10 + k) (sz π)) ∧ sgk (π (6 + k) (sz π)) (π (10 + k) (sz π)) ≤ 2000 := by
          unfold sgk
          have := wh_b (b := (π (10 + k) (sz π) % 7 + 2) % 7 + 65)
          split <;> omega
        rw [sgs]; omega
    have := this (π 5 (sz π)).toNat (by omega) (by omega)
    omega
  refine ⟨⟨by omega, by omega⟩, fun h24 e24 => ⟨⟨by omega, by omega⟩, fun h29 e29 => ?_⟩⟩
  have f29 : fr (WPp (sz π)) h h29 := fr_i (fr_i (fr_i (fr_i (fr_i fr_0 e4 (by omega)) e14 (by omega)) e18 (by omega)) e24 (by omega)) e29 (by omega)
  have H29 := RMs_V H (fr_i (fr_i (fr_i (fr_i (fr_i (W := fun a k => (a = 170 ∧ k = 64) ∨ 201 ≤ a) fr_0 e4 (by omega)) e14 (by omega)) e18 (by omega)) e24 (by omega)) e29 (by omega)) (fun a k w => by omega)
  refine con_mono (t_MD_step (hb_i (hb_i (hb_i (hb_i (hb_i hb0 e4) e14) e18) e24) e29) hA H29 ⟨by omega, by omega⟩) ?_
  rintro r h' ⟨z, rfl, hb1, f1, H1, rfl⟩
  have f : fr (WPp (sz π)) h h' := fr_t f29 f1 (fun a k w => by omega)
  have c3 : π 0 2 < 300 := by omega
  refine ⟨1, rfl, hb1, Or.inr rfl, 1, rfl, hb1, fr_w f (fun a k w => by omega), Or.inl ⟨c3, rfl, H1, ?_⟩⟩
  obtain ⟨p1, p2⟩ := PW_adm P ⟨⟨s1, s2, s3, s4⟩, s5, s6⟩ c3
  have a5 : adm π 5 (sz (adm π)) = π 5 (sz π) := by rw [sz_adm, adm_o (by omega)]
  have en' : adm π 5 (sz (adm π)) = (e : Int) := a5.trans en
  obtain ⟨q1, q2⟩ := PW_pch (t := X.2.2.1) (i := i) p1 p2 (by rw [a5]; exact h5) (by rw [a5, adm_o (by omega), adm_2]; omega) (by rw [adm_o (by omega), adm_2]; omega) hkb
  have po : ∀ a k, ¬ (a = 0 ∧ (k = 4 ∨ k = 2)) → (k ≠ sz π ∨ (a ≠ 5 ∧ a ≠ 17 ∧ a ≠ 6 + e ∧ a ≠ 10 + e)) → pch X.2.2.1 i (sgt X.2.2.1 i) (adm π) a k = π a k := fun a k q r => by
    rw [pch_o en' (by omega) (by rw [sz_adm]; omega), adm_o (by omega)]
  have es : sz (pch X.2.2.1 i (sgt X.2.2.1 i) (adm π)) = sz π := by rw [sz_pch, sz_adm]
  have m64 : h'.2.1 170 64 = π 0 2 + 1 := by rw [fr_g f1 (by omega), mm_i e29 (by omega), mm_i e24 (by omega), mm_i e18 (by omega), mm_i e14 (by omega), mv_i e4, ex1]
  have v5 : pch X.2.2.1 i (sgt X.2.2.1 i) (adm π) 5 (sz π) = π 5 (sz π) + 1 := by
    have := pch_5 (t := X.2.2.1) (i := i) (g := sgt X.2.2.1 i) (π := adm π)
    rw [sz_adm] at this
    rw [this, adm_o (by omega)]
  have v17 : pch X.2.2.1 i (sgt X.2.2.1 i) (adm π) 17 (sz π) = π 17 (sz π) + sgt X.2.2.1 i := by
    have := pch_17 (t := X.2.2.1) (i := i) (g := sgt X.2.2.1 i) (π := adm π)
    rw [sz_adm] at this
    rw [this, adm_o (by omega)]
  have vk := pch_k (t := X.2.2.1) (i := i) (g := sgt X.2.2.1 i) en' (by omega)
  rw [sz_adm] at vk
  refine ⟨?_, RPx_s R2 P f (fun a k w => by omega) (fun a k q => po a k (by omega) (by omega)) ⟨po _ _ (by omega) (by omega), po _ _ (by omega) (by omega)⟩ ?_, q1, q2, ?_, ?_⟩
  · rw [po 0 0 (by omega) (by omega), fr_g f (by omega)]; exact R1
  · rw [m64, pch_o en' (by omega) (by omega), adm_2]
  · rw [es, fr_g f (by omega)]; exact R3
  · rw [es]
    refine ⟨?_, ?_, fun p hp => ?_⟩
    · rw [v5, fr_g f1 (by omega), mv_i e29, en]
    · rw [v17, fr_g f1 (by omega), mm_i e29 (by omega), mv_i e24, g21, g22]
    · rw [v5] at hp
      by_cases hc : p = e
      · subst hc
        rw [vk.1, vk.2, fr_g f1 (by omega), fr_g f1 (by omega), mm_i e29 (by omega), mm_i e24 (by omega), mm_i e18 (by omega), mv_i e14, mm_i e29 (by omega), mm_i e24 (by omega), mv_i e18]
        exact ⟨g12, g17⟩
      · rw [po _ _ (by omega) (by omega), po _ _ (by omega) (by omega), fr_g f1 (by omega), fr_g f1 (by omega), mm_i e29 (by omega), mm_i e24 (by omega), mm_i e18 (by omega), mm_i e14 (by omega), mm_i e4 (by omega), mm_i e29 (by omega), mm_i e24 (by omega), mm_i e18 (by omega), mm_i e14 (by omega), mm_i e4 (by omega)]
        exact R4.2.2 p (by omega)
