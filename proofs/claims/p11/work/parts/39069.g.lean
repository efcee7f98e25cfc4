/-! ===== the reference: what is read is kept, whole ===== -/
theorem t_MD_keep {G : cx_T} {s : Nat} {h : ah_T} {μ : pm_T} (hb0 : hb s h) (H : RSn μ h) (HV : RVw μ h) : con G 1 0 0 m_MD_keep [av_R (some 170)] h (fun r h' => r = none ∧ hb s h' ∧ fr WKk h h' ∧ KSn μ h' ∧ h'.2.1 173 0 = μ 0 1 ∧ h'.2.1 174 0 = μ 0 2) := by
  obtain ⟨⟨a1, a2, a3, a4, a5, a6, a7⟩, ⟨b3, b4, b5, b6, b7⟩, l, ru, ro, na⟩ := H
  obtain ⟨nv, hnv⟩ : ∃ n : Nat, μ 0 7 = (n : Int) := ⟨(μ 0 7).toNat, by omega⟩
  let D0 : ah_T → Prop := fun hh => hh.2.1 172 0 = μ 0 7 ∧ hh.2.1 173 0 = μ 0 1 ∧ hh.2.1 174 0 = μ 0 2 ∧ hh.2.1 175 0 = μ 0 3
  let D1 : Nat → ah_T → Prop := fun v hh => ∀ j : Nat, (j : Int) < μ 0 3 → j < v → hh.2.1 176 j = μ 1 j
  let D2 : Nat → ah_T → Prop := fun v hh => ∀ j : Nat, (j : Int) < μ 0 4 → j < v → hh.2.1 178 j = μ 2 j ∧ hh.2.1 179 j = μ 3 j ∧ hh.2.1 180 j = nz (μ 4 j)
  let D3 : Nat → ah_T → Prop := fun v hh => ∀ j : Nat, (j : Int) < μ 0 5 → j < v → hh.2.1 182 j = μ 5 j
  let A1 : ah_T → Prop := fun hh => fr WKk h hh ∧ D0 hh
  let A2 : ah_T → Prop := fun hh => A1 hh ∧ D1 8 hh ∧ hh.2.1 177 0 = μ 0 4
  let A3 : ah_T → Prop := fun hh => A2 hh ∧ D2 24 hh ∧ hh.2.1 181 0 = μ 0 5
  let A4 : ah_T → Prop := fun hh => A3 hh ∧ D3 12 hh
  let I4 : Int → ah_T → Prop := fun v1 hh => ∃ v : Nat, v1 = (v : Int) ∧ v ≤ nv ∧ A4 hh ∧ ∀ w, w < v → RVm μ w w hh
  -- what the voices' loop writes
  have keepA : ∀ (hh h' : ah_T) (v : Nat), v < nv → A4 hh → (∀ w, w < v → RVm μ w w hh) → fr (vcel v) hh h' → A4 h' ∧ ∀ w, w < v → RVm μ w w h' := by
    rintro hh h' v hv ⟨⟨⟨⟨f, e1, e2, e3, e4⟩, d1, q4⟩, d2, q5⟩, d3⟩ hw fv
    have g : ∀ a k, a ≤ 184 → h'.2.1 a k = hh.2.1 a k := fun a k q => fr_g fv (fun w => by unfold vcel at w; omega)
    refine ⟨⟨⟨⟨⟨fr_t f fv (fun a k w => ?_), ?_, ?_, ?_, ?_⟩, fun j hj hj2 => ?_, ?_⟩, fun j hj hj2 => ?_, ?_⟩, fun j hj hj2 => ?_⟩, fun w hww => ?_⟩
    · rcases w with ⟨w1, w2⟩ | ⟨w1, w2, w3⟩ | ⟨w1, w2, w3⟩ | ⟨w1, w2, w3⟩
      · exact Or.inr (Or.inr (Or.inr (Or.inr (Or.inl ⟨w1, by omega⟩))))
      · exact Or.inr (Or.inr (Or.inr (Or.inr (Or.inr (Or.inl ⟨w1, by omega⟩)))))
      · exact Or.inr (Or.inr (Or.inr (Or.inr (Or.inr (Or.inr (Or.inl ⟨w1, by omega⟩))))))
      · exact Or.inr (Or.inr (Or.inr (Or.inr (Or.inr (Or.inr (Or.inr ⟨w1, by omega⟩))))))
    · rw [g _ _ (by decide)]; exact e1
    · rw [g _ _ (by decide)]; exact e2
    · rw [g _ _ (by decide)]; exact e3
    · rw [g _ _ (by decide)]; exact e4
    · rw [g _ _ (by decide)]; exact d1 j hj hj2
    · rw [g _ _ (by decide)]; exact q4
    · rw [g _ _ (by decide), g _ _ (by decide), g _ _ (by decide)]; exact d2 j hj hj2
    · rw [g _ _ (by decide)]; exact q5
    · rw [g _ _ (by decide)]; exact d3 j hj hj2
    · refine RVm_g (hw w hww) (fun a k q => ?_)
      have n : ¬ vcel v a k := by
        intro p
        rcases q with ⟨q1, q2⟩ | ⟨q1, q2, q3⟩ | ⟨q1, q2, q3⟩ | ⟨q1, q2, q3⟩ <;> (rcases p with ⟨p1, p2⟩ | ⟨p1, p2, p3⟩ | ⟨p1, p2, p3⟩ | ⟨p1, p2, p3⟩ <;> omega)
      exact ⟨fr_g fv n, fr_gl fv n⟩
  -- the cells that are read stay
  have srcG : ∀ (hh : ah_T) (v a k : Nat), fr WKk h hh → vcel (4 + v) a k → hh.2.1 a k = h.2.1 a k ∧ hh.2.2.1 a k = h.2.2.1 a k := by
    intro hh v a k f q
    have n : ¬ WKk a k := by
      intro p
      rcases q with ⟨q1, q2⟩ | ⟨q1, q2, q3⟩ | ⟨q1, q2, q3⟩ | ⟨q1, q2, q3⟩ <;> (rcases p with ⟨p1, p2⟩ | ⟨p1, p2⟩ | ⟨p1, p2⟩ | ⟨p1, p2⟩ | ⟨p1, p2⟩ | ⟨p1, p2⟩ | ⟨p1, p2⟩ | ⟨p1, p2⟩ <;> omega)
    exact ⟨fr_g f n, fr_gl f n⟩
  have srcV : ∀ (hh : ah_T) (v : Nat), v < nv → fr WKk h hh → RVm μ v (4 + v) hh := fun hh v hv f => RVm_g (HV v (by omega)) (fun a k q => srcG hh v a k f q)
  have h203 : ∀ (n : Nat) (v1 : Int) (hh : ah_T), hb s hh → (I4 v1 hh ∧ (nv - v1).toNat = n) → aw G (rm_R 1 0 0) m_MD_keep 0 0 203 [some (av_R (some 170)), some (av_I v1), none] [] hh (fun r h' => r = none ∧ hb s h' ∧ fr WKk h h' ∧ KSn μ h' ∧ h'.2.1 173 0 = μ 0 1 ∧ h'.2.1 174 0 = μ 0 2) := by
    intro n
    induction n using Nat.strongRecOn with
    | ind n ih =>
      have h305 := lp_MD_keep_305 (G := G) (s := s) (Q := fun r h' => r = none ∧ hb s h' ∧ fr WKk h h' ∧ KSn μ h' ∧ h'.2.1 173 0 = μ 0 1 ∧ h'.2.1 174 0 = μ 0 2) (X203 := fun v1 hh => I4 v1 hh ∧ (nv - v1).toNat < n) (fun v1 hh hb1 q => ih _ q.2 v1 hh hb1 ⟨q.1, rfl⟩)
        (fun v1 v2 hh => ∃ v e : Nat, v1 = (v : Int) ∧ v2 = (e : Int) ∧ v < nv ∧ (nv - v1).toNat = n ∧ A4 hh ∧ (∀ w, w < v → RVm μ w w hh) ∧ VCp μ v 102 e hh ∧ (e : Int) ≤ μ (10 + v) 0) (fun _ v2 _ => (301 - v2).toNat) (by
        rintro v1 v2 hh hb1 ⟨v, e, rfl, rfl, hv, hn, hA, hw, hC, he⟩
        have f := hA.1.1.1.1
        have S := srcV hh v hv f
        have Sb := S.2.1
        unfold B_MD_keep_305
        rw [tn_c]
        refine ⟨⟨by omega, by omega⟩, fun x2 e2 _ _ => ?_⟩
        have ex2 : x2 = μ (10 + v) 0 := e2.trans hC.1.1
        refine ⟨fun c => ⟨⟨by omega, by omega⟩, ⟨⟨v + 1, by omega, by omega, hA, fun w hww => ?_⟩, by omega⟩⟩, fun c => ⟨⟨by omega, by omega⟩, ⟨by omega, by omega⟩, ⟨by omega, by omega⟩, ⟨by omega, by omega⟩, ⟨by omega, by omega⟩, ?_⟩⟩
        · by_cases cw : w = v
          · subst cw
            refine VCp_end ?_ S.2.1
            have : (μ (10 + w) 0).toNat = e := by omega
            rw [this]; exact hC
          · exact hw w (by omega)
        · have ea : (300 * (v : Int) + (e : Int)) = ((300 * v + e : Nat) : Int) := by omega
          have eb : (300 * (v : Int) + (e : Int) + 1200) = ((300 * v + e + 1200 : Nat) : Int) := by omega
          rw [ea, show ((300 * v + e : Nat) : Int) + 1200 = ((300 * v + e + 1200 : Nat) : Int) by omega]
          refine con_mono (t_MD_keepEvent (a := 300 * v + e) (b := 300 * v + e + 1200) hb1 (by omega) rfl) ?_
          rintro r h10 ⟨rfl, hb10, f10, c1, c2, c3⟩
          refine ⟨rfl, hb10, ⟨by omega, by omega⟩, ?_⟩
          have fv : fr (vcel v) hh h10 := fr_w f10 (fun a k w => by
            rcases w with ⟨w1, w2⟩ | ⟨w1, w2, w3⟩
            · exact Or.inr (Or.inl ⟨w1, by omega, by omega⟩)
            · exact Or.inr (Or.inr (Or.inl ⟨w1, by omega, by omega⟩)))
          obtain ⟨hA', hw'⟩ := keepA hh h10 v hv hA hw fv
          refine ⟨⟨v, e + 1, rfl, by omega, hv, hn, hA', hw', ⟨?_, fun x hx => ?_, fun b hb hb2 => ?_, fun q => ?_⟩, by omega⟩, by omega⟩
          · rw [fr_g f10 (by omega), fr_g f10 (by omega)]; exact hC.1
          · by_cases cx : x = e
            · subst cx
              have Sx := S.2.2.1 x (by omega)
              have eq : 300 * (4 + v) + x = 300 * v + x + 1200 := by omega
              rw [eq] at Sx
              obtain ⟨y1, y2, y3, y4⟩ := Sx
              unfold RVd
              rw [c1.1, c1.2.1, c1.2.2.1, c1.2.2.2, c2.1, c2.2.1, c2.2.2.1, c2.2.2.2.1, c2.2.2.2.2.1, c2.2.2.2.2.2]
              refine ⟨y1, y2, y3, fun p hp => ?_⟩
              rw [(c3 p (by omega)).1, (c3 p (by omega)).2]
              exact y4 p hp
            · exact RVd_g (hC.2.1 x (by omega)) (fun a q1 q2 => ⟨fr_g f10 (by omega), fr_gl f10 (by omega)⟩) (fun a k q1 q2 q3 => fr_g f10 (by omega))
          · rw [fr_gl f10 (by omega), fr_gl f10 (by omega)]; exact hC.2.2.1 b hb hb2
          · rw [fr_gl f10 (by omega), fr_gl f10 (by omega)]; exact hC.2.2.2 q)
      have h243 := lp_MD_keep_243 (G := G) (s := s) (X305 := fun v1 v2 hh => ∃ v e : Nat, v1 = (v : Int) ∧ v2 = (e : Int) ∧ v < nv ∧ (nv - v1).toNat = n ∧ A4 hh ∧ (∀ w, w < v → RVm μ w w hh) ∧ VCp μ v 102 e hh ∧ (e : Int) ≤ μ (10 + v) 0) h305
        (fun v1 v2 hh => ∃ v e : Nat, v1 = (v : Int) ∧ v2 = (e : Int) ∧ e ≤ 102 ∧ v < nv ∧ (nv - v1).toNat = n ∧ A4 hh ∧ (∀ w, w < v → RVm μ w w hh) ∧ VCp μ v e 0 hh) (fun _ v2 _ => (103 - v2).toNat) (by
        rintro v1 v2 hh hb1 ⟨v, e, rfl, rfl, he, hv, hn, hA, hw, hC⟩
        have f := hA.1.1.1.1
        have S := srcV hh v hv f
        have Sb := S.2.1
        unfold B_MD_keep_243
        refine ⟨fun c => ?_, fun c => ⟨⟨by omega, by omega⟩, ⟨by omega, by omega⟩, ⟨by omega, by omega⟩, ⟨by omega, by omega⟩, ⟨by omega, by omega⟩, ⟨by omega, by omega⟩, ?_⟩⟩
        · have e102 : e = 102 := by omega
          subst e102
          exact ⟨v, 0, rfl, rfl, hv, hn, hA, hw, hC, S.2.1.1.1⟩
        · have ek : (102 * (v : Int) + (e : Int) + 408).toNat = 102 * (4 + v) + e := by omega
          have ek2 : (102 * (v : Int) + (e : Int)).toNat = 102 * v + e := by omega
          rw [ek, ek2]
          intro x8 e8 _ _
          refine ⟨⟨by omega, by omega⟩, fun h11 e11 x15 e15 _ _ h16 e16 => ⟨⟨by omega, by omega⟩, ?_⟩⟩
          have f16 : fr (fun a k => (a = 199 ∨ a = 200) ∧ k = 102 * v + e) hh h16 := fr_l (fr_l fr_0 e11 ⟨Or.inl rfl, rfl⟩) e16 ⟨Or.inr rfl, rfl⟩
          have fv : fr (vcel v) hh h16 := fr_w f16 (fun a k w => Or.inr (Or.inr (Or.inr ⟨w.1, by omega, by omega⟩)))
          obtain ⟨hA', hw'⟩ := keepA hh h16 v hv hA hw fv
          have m1 : h16.2.2.1 199 (102 * v + e) = hh.2.2.1 199 (102 * (4 + v) + e) := by rw [mm_l e16 (by omega), mv_l e11, e8]
          have m2 : h16.2.2.1 200 (102 * v + e) = hh.2.2.1 200 (102 * (4 + v) + e) := by rw [mv_l e16, e15, mm_l e11 (by omega)]
          refine ⟨⟨v, e + 1, rfl, by omega, by omega, hv, hn, hA', hw', ⟨?_, fun x hx => absurd hx (Nat.not_lt_zero x), fun b hb hb2 => ?_, fun q => ?_⟩⟩, by omega⟩
          · rw [fr_g f16 (by omega), fr_g f16 (by omega)]; exact hC.1
          · by_cases cb : b = e
            · subst cb; rw [m1, m2]; exact S.2.2.2.1 b hb
            · rw [fr_gl f16 (by omega), fr_gl f16 (by omega)]; exact hC.2.2.1 b hb (by omega)
          · by_cases cb : (μ (10 + v) 1).toNat = e
            · rw [cb, m1, m2]
              have := S.2.2.2.2
              rw [cb] at this; exact this
            · rw [fr_gl f16 (by omega), fr_gl f16 (by omega)]; exact hC.2.2.2 (by omega))
      intro v1 hh hb1 hI
      refine lp_MD_keep_203 (G := G) (s := s) (X243 := fun v1 v2 hh => ∃ v e : Nat, v1 = (v : Int) ∧ v2 = (e : Int) ∧ e ≤ 102 ∧ v < nv ∧ (nv - v1).toNat = n ∧ A4 hh ∧ (∀ w, w < v → RVm μ w w hh) ∧ VCp μ v e 0 hh) h243 (fun v1 hh => I4 v1 hh ∧ (nv - v1).toNat = n) (fun _ _ => 0) ?_ v1 hh hb1 hI
      rintro v1 hh hb1 ⟨⟨v, rfl, hv, hA, hw⟩, hn⟩
      have f := hA.1.1.1.1
      obtain ⟨e1, e2, e3, e4⟩ := hA.1.1.1.2
      unfold B_MD_keep_203
      intro x2 y2 _ _
      have ex2 : x2 = (nv : Int) := by rw [y2, e1, hnv]
      subst ex2
      refine ⟨fun c => ⟨rfl, hb1, f, ⟨⟨e1, e4, hA.1.1.2.2, hA.1.2.2⟩, ⟨b3, b4, b5, b7⟩, fun j hj => hA.1.1.2.1 j hj (by omega), fun j hj => hA.1.2.1 j hj (by omega), fun j hj => hA.2 j hj (by omega), fun m hm => hw m (by omega)⟩, e2, e3⟩, fun c => ?_⟩
      have hv' : v < nv := by omega
      have S := srcV hh v hv' f
      refine ⟨⟨by omega, by omega⟩, ⟨by omega, by omega⟩, ?_⟩
      have ek : ((v : Int) + 4).toNat = 4 + v := by omega
      rw [ek, tn_c]
      intro x6 e6 _ _
      refine ⟨⟨by omega, by omega⟩, fun h9 e9 x13 e13 _ _ h14 e14 => ?_⟩
      have f14 : fr (fun a k => (a = 185 ∨ a = 186) ∧ k = v) hh h14 := fr_i (fr_i fr_0 e9 ⟨Or.inl rfl, rfl⟩) e14 ⟨Or.inr rfl, rfl⟩
      obtain ⟨hA', hw'⟩ := keepA hh h14 v hv' hA hw (fr_w f14 (fun a k w => Or.inl w))
      exact ⟨v, 0, rfl, rfl, by decide, hv', hn, hA', hw', ⟨by rw [mm_i e14 (by omega), mv_i e9, e6]; exact S.1.1, by rw [mv_i e14, e13, mm_i e9 (by omega)]; exact S.1.2⟩, fun x hx => absurd hx (Nat.not_lt_zero x), fun b _ hb2 => absurd hb2 (Nat.not_lt_zero b), fun q => absurd q (Nat.not_lt_zero _)⟩
  have h162 := lp_MD_keep_162 (G := G) (s := s) (Q := fun r h' => r = none ∧ hb s h' ∧ fr WKk h h' ∧ KSn μ h' ∧ h'.2.1 173 0 = μ 0 1 ∧ h'.2.1 174 0 = μ 0 2) (X203 := I4) (fun v1 hh hb1 q => h203 _ v1 hh hb1 ⟨q, rfl⟩) (fun v1 hh => ∃ v : Nat, v1 = (v : Int) ∧ v ≤ 12 ∧ A3 hh ∧ D3 v hh) (fun v1 _ => (13 - v1).toNat) (by
    rintro v1 hh hb1 ⟨v, rfl, hv, hA, hD⟩
    obtain ⟨⟨⟨f, e1, e2, e3, e4⟩, d1, q4⟩, d2, q5⟩ := hA
    have w0 : ∀ a, (a = 172 ∨ a = 173 ∨ a = 174 ∨ a = 175 ∨ a = 177 ∨ a = 181 ∨ a = 183) → WKk a 0 := fun a q => Or.inl ⟨q, rfl⟩
    unfold B_MD_keep_162
    refine ⟨fun c x3 y3 _ _ h4 y4 => ⟨0, rfl, Nat.zero_le _, ?_, fun w hw => absurd hw (Nat.not_lt_zero w)⟩, fun c => ⟨⟨by omega, by omega⟩, ⟨by omega, by omega⟩, ?_⟩⟩
    · have ev : v = 12 := by omega
      subst ev
      have g : ∀ a k, a ≠ 183 → h4.2.1 a k = hh.2.1 a k := fun a k q => mm_i y4 (by omega)
      exact ⟨⟨⟨⟨fr_i f y4 (w0 _ (by omega)), by rw [g _ _ (by decide)]; exact e1, by rw [g _ _ (by decide)]; exact e2, by rw [g _ _ (by decide)]; exact e3, by rw [g _ _ (by decide)]; exact e4⟩, fun j hj hj2 => by rw [g _ _ (by decide)]; exact d1 j hj hj2, by rw [g _ _ (by decide)]; exact q4⟩, fun j hj hj2 => by rw [g _ _ (by decide), g _ _ (by decide), g _ _ (by decide)]; exact d2 j hj hj2, by rw [g _ _ (by decide)]; exact q5⟩, fun j hj hj2 => by rw [g _ _ (by decide)]; exact hD j hj hj2⟩
    · have ek : ((v : Int) + 12).toNat = 12 + v := by omega
      rw [ek, tn_c]
      intro x9 y9 _ _
      refine ⟨⟨by omega, by omega⟩, fun h12 y12 => ⟨⟨by omega, by omega⟩, ⟨v + 1, by omega, by omega, ?_, fun j hj hj2 => ?_⟩, by omega⟩⟩
      · have g : ∀ a k, a ≠ 182 → h12.2.1 a k = hh.2.1 a k := fun a k q => mm_i y12 (by omega)
        exact ⟨⟨⟨fr_i f y12 (Or.inr (Or.inr (Or.inr (Or.inl ⟨rfl, by omega⟩)))), by rw [g _ _ (by decide)]; exact e1, by rw [g _ _ (by decide)]; exact e2, by rw [g _ _ (by decide)]; exact e3, by rw [g _ _ (by decide)]; exact e4⟩, fun j hj hj2 => by rw [g _ _ (by decide)]; exact d1 j hj hj2, by rw [g _ _ (by decide)]; exact q4⟩, fun j hj hj2 => by rw [g _ _ (by decide), g _ _ (by decide), g _ _ (by decide)]; exact d2 j hj hj2, by rw [g _ _ (by decide)]; exact q5⟩
      · by_cases cj : j = v
        · subst cj
          rw [mv_i y12, y9, fr_g f (by omega)]; exact ro j hj
        · rw [mm_i y12 (by omega)]; exact hD j hj (by omega))
  have h91 := lp_MD_keep_91 (G := G) (s := s) (X162 := fun v1 hh => ∃ v : Nat, v1 = (v : Int) ∧ v ≤ 12 ∧ A3 hh ∧ D3 v hh) h162 (fun v1 hh => ∃ v : Nat, v1 = (v : Int) ∧ v ≤ 24 ∧ A2 hh ∧ D2 v hh) (fun v1 _ => (25 - v1).toNat) (by
    rintro v1 hh hb1 ⟨v, rfl, hv, hA, hD⟩
    obtain ⟨⟨f, e1, e2, e3, e4⟩, d1, q4⟩ := hA
    have w0 : ∀ a, (a = 172 ∨ a = 173 ∨ a = 174 ∨ a = 175 ∨ a = 177 ∨ a = 181 ∨ a = 183) → WKk a 0 := fun a q => Or.inl ⟨q, rfl⟩
    have w1 : ∀ a, (178 ≤ a ∧ a ≤ 180) → v < 24 → WKk a v := fun a q q2 => Or.inr (Or.inr (Or.inl ⟨q, q2⟩))
    unfold B_MD_keep_91
    refine ⟨fun c x3 y3 _ _ h4 y4 => ⟨0, rfl, by decide, ?_, fun j _ hj2 => absurd hj2 (Nat.not_lt_zero j)⟩, fun c => ⟨⟨by omega, by omega⟩, ⟨by omega, by omega⟩, ?_⟩⟩
    · have ev : v = 24 := by omega
      subst ev
      have g : ∀ a k, a ≠ 181 → h4.2.1 a k = hh.2.1 a k := fun a k q => mm_i y4 (by omega)
      exact ⟨⟨⟨fr_i f y4 (w0 _ (by omega)), by rw [g _ _ (by decide)]; exact e1, by rw [g _ _ (by decide)]; exact e2, by rw [g _ _ (by decide)]; exact e3, by rw [g _ _ (by decide)]; exact e4⟩, fun j hj hj2 => by rw [g _ _ (by decide)]; exact d1 j hj hj2, by rw [g _ _ (by decide)]; exact q4⟩, fun j hj hj2 => by rw [g _ _ (by decide), g _ _ (by decide), g _ _ (by decide)]; exact hD j hj hj2, by rw [mv_i y4, y3, fr_g f (by omega)]; exact a5⟩
    · have ek : ((v : Int) + 24).toNat = 24 + v := by omega
      rw [ek, tn_c]
      intro x9 y9 _ _
      refine ⟨⟨by omega, by omega⟩, fun h12 y12 x16 y16 _ _ h17 y17 x21 y21 _ _ h22 y22 => ⟨⟨by omega, by omega⟩, ⟨v + 1, by omega, by omega, ?_, fun j hj hj2 => ?_⟩, by omega⟩⟩
      · have f3 : fr (fun a k => (178 ≤ a ∧ a ≤ 180) ∧ k = v) hh h22 := fr_i (fr_i (fr_i fr_0 y12 (by omega)) y17 (by omega)) y22 (by omega)
        have g : ∀ a k, ¬ (178 ≤ a ∧ a ≤ 180) → h22.2.1 a k = hh.2.1 a k := fun a k q => fr_g f3 (by omega)
        exact ⟨⟨fr_t f f3 (fun a k w => by rw [w.2]; exact w1 a w.1 (by omega)), by rw [g _ _ (by decide)]; exact e1, by rw [g _ _ (by decide)]; exact e2, by rw [g _ _ (by decide)]; exact e3, by rw [g _ _ (by decide)]; exact e4⟩, fun j hj hj2 => by rw [g _ _ (by decide)]; exact d1 j hj hj2, by rw [g _ _ (by decide)]; exact q4⟩
      · by_cases cj : j = v
        · subst cj
          rw [mm_i y22 (by omega), mm_i y17 (by omega), mv_i y12, mm_i y22 (by omega), mv_i y17, mv_i y22, y9, y16, y21, mm_i y17 (by omega), mm_i y12 (by omega), mm_i y12 (by omega), fr_g f (by omega), fr_g f (by omega), fr_g f (by omega)]; exact ru j hj
        · rw [mm_i y22 (by omega), mm_i y17 (by omega), mm_i y12 (by omega), mm_i y22 (by omega), mm_i y17 (by omega), mm_i y12 (by omega), mm_i y22 (by omega), mm_i y17 (by omega), mm_i y12 (by omega)]; exact hD j hj (by omega))
  have h50 := lp_MD_keep_50 (G := G) (s := s) (X91 := fun v1 hh => ∃ v : Nat, v1 = (v : Int) ∧ v ≤ 24 ∧ A2 hh ∧ D2 v hh) h91 (fun v1 hh => ∃ v : Nat, v1 = (v : Int) ∧ v ≤ 8 ∧ A1 hh ∧ D1 v hh) (fun v1 _ => (9 - v1).toNat) (by
    rintro v1 hh hb1 ⟨v, rfl, hv, hA, hD⟩
    obtain ⟨f, e1, e2, e3, e4⟩ := hA
    have w0 : ∀ a, (a = 172 ∨ a = 173 ∨ a = 174 ∨ a = 175 ∨ a = 177 ∨ a = 181 ∨ a = 183) → WKk a 0 := fun a q => Or.inl ⟨q, rfl⟩
    unfold B_MD_keep_50
    refine ⟨fun c x3 y3 _ _ h4 y4 => ⟨0, rfl, by decide, ?_, fun j _ hj2 => absurd hj2 (Nat.not_lt_zero j)⟩, fun c => ⟨⟨by omega, by omega⟩, ⟨by omega, by omega⟩, ?_⟩⟩
    · have ev : v = 8 := by omega
      subst ev
      have g : ∀ a k, a ≠ 177 → h4.2.1 a k = hh.2.1 a k := fun a k q => mm_i y4 (by omega)
      exact ⟨⟨fr_i f y4 (w0 _ (by omega)), by rw [g _ _ (by decide)]; exact e1, by rw [g _ _ (by decide)]; exact e2, by rw [g _ _ (by decide)]; exact e3, by rw [g _ _ (by decide)]; exact e4⟩, fun j hj hj2 => by rw [g _ _ (by decide)]; exact hD j hj hj2, by rw [mv_i y4, y3, fr_g f (by omega)]; exact a4⟩
    · have ek : ((v : Int) + 8).toNat = 8 + v := by omega
      rw [ek, tn_c]
      intro x9 y9 _ _
      refine ⟨⟨by omega, by omega⟩, fun h12 y12 => ⟨⟨by omega, by omega⟩, ⟨v + 1, by omega, by omega, ?_, fun j hj hj2 => ?_⟩, by omega⟩⟩
      · have g : ∀ a k, a ≠ 176 → h12.2.1 a k = hh.2.1 a k := fun a k q => mm_i y12 (by omega)
        exact ⟨fr_i f y12 (Or.inr (Or.inl ⟨rfl, by omega⟩)), by rw [g _ _ (by decide)]; exact e1, by rw [g _ _ (by decide)]; exact e2, by rw [g _ _ (by decide)]; exact e3, by rw [g _ _ (by decide)]; exact e4⟩
      · by_cases cj : j = v
        · subst cj
          rw [mv_i y12, y9, fr_g f (by omega)]; exact l j hj
        · rw [mm_i y12 (by omega)]; exact hD j hj (by omega))
  refine c_MD_keep (X50 := fun v1 hh => ∃ v : Nat, v1 = (v : Int) ∧ v ≤ 8 ∧ A1 hh ∧ D1 v hh) h50 hb0 ?_
  have w0 : ∀ a, (a = 172 ∨ a = 173 ∨ a = 174 ∨ a = 175 ∨ a = 177 ∨ a = 181 ∨ a = 183) → WKk a 0 := fun a q => Or.inl ⟨q, rfl⟩
  unfold B_MD_keep_0
  intro x3 e3 _ _ h4 e4 x8 e8 _ _ h9 e9 x13 e13 _ _ h14 e14 x18 e18 _ _ h19 e19
  refine ⟨0, rfl, by decide, ⟨fr_i (fr_i (fr_i (fr_i fr_0 e4 (w0 _ (by omega))) e9 (w0 _ (by omega))) e14 (w0 _ (by omega))) e19 (w0 _ (by omega)), ?_, ?_, ?_, ?_⟩, fun j _ hj2 => absurd hj2 (Nat.not_lt_zero j)⟩
  · rw [mm_i e19 (by omega), mm_i e14 (by omega), mm_i e9 (by omega), mv_i e4, e3]; exact a7
  · rw [mm_i e19 (by omega), mm_i e14 (by omega), mv_i e9, e8, mm_i e4 (by omega)]; exact a1
  · rw [mm_i e19 (by omega), mv_i e14, e13, mm_i e9 (by omega), mm_i e4 (by omega)]; exact a2
  · rw [mv_i e19, e18, mm_i e14 (by omega), mm_i e9 (by omega), mm_i e4 (by omega)]; exact a3

/-! ===== faults have numbers 1 to 7 ===== -/
def FN7 {β : Type} (R : F_T ⊕ β) : Prop := ∀ q, R = .inl q → 1 ≤ q.1 ∧ q.1 ≤ 7
theorem FN_r {β : Type} {x : β} : FN7 (.inr x : F_T ⊕ β) := fun q e => by cases e
theorem FN_l {β : Type} {a b : Int} (h : 1 ≤ a ∧ a ≤ 7) : FN7 (.inl (a, b) : F_T ⊕ β) := fun q e => by cases e; exact h
theorem FN_c {β : Type} {t : tk_T} {i : Nat} : FN7 (.inl (cn t i) : F_T ⊕ β) := FN_l ⟨by split <;> decide, by split <;> decide⟩
theorem FN_b {β γ : Type} {x : F_T ⊕ β} {f : β → F_T ⊕ γ} (h : FN7 x) (h2 : ∀ b, FN7 (f b)) : FN7 (bnd x f) := by
  rcases x with q | b
  · intro q' e; cases e; exact h q rfl
  · exact h2 b
theorem FN_i {β : Type} {p : Prop} [Decidable p] {x y : F_T ⊕ β} (h : FN7 x) (h2 : FN7 y) : FN7 (if p then x else y) := by split <;> assumption
theorem FN_n {t : tk_T} {i : Nat} {most : Int} {pw : Bool} : FN7 (sp_num t i most pw) := FN_i (FN_i FN_r (FN_l (by decide))) FN_c
theorem FN_t {t : tk_T} {i : Nat} {k : Int} : FN7 (sp_take t i k) := FN_i FN_r FN_c
theorem FN_a {t : tk_T} {i : Nat} {π : pm_T} : FN7 (sp_adm t i π) := FN_i FN_r (FN_l (by decide))
theorem FN_ch {t : tk_T} : ∀ (f i : Nat) (π : pm_T), FN7 (sp_chord t f i π)
  | 0, _, _ => FN_l (by decide)
  | f + 1, i, π => FN_i (FN_i (FN_l (by decide)) (FN_i (FN_l ⟨by split <;> decide, by split <;> decide⟩) (FN_b FN_a (fun _ => FN_i FN_r (FN_ch f _ _))))) FN_c
theorem FN_s {t : tk_T} {i : Nat} {π : pm_T} : FN7 (sp_sound t i π) := FN_i (FN_b FN_a (fun _ => FN_r)) (FN_i (FN_b FN_a (fun _ => FN_r)) (FN_ch _ _ _))
theorem FN_d {t : tk_T} : ∀ (f i : Nat) (d : Int), FN7 (sp_dots t f i d)
  | 0, _, _ => FN_l (by decide)
  | f + 1, i, d => FN_i (FN_i (FN_l (by decide)) (FN_d f _ _)) FN_r
theorem FN_e {t : tk_T} {i : Nat} {π : pm_T} : FN7 (sp_event t i π) := FN_b FN_s (fun _ => FN_b FN_n (fun _ => FN_b (FN_d _ _ _) (fun _ => FN_i (FN_i (FN_l (by decide)) FN_r) FN_r)))
theorem FN_x {t : tk_T} {i : Nat} {π : pm_T} : FN7 (sp_times t i π) := FN_b FN_n (fun _ => FN_b FN_t (fun _ => FN_b FN_n (fun _ => FN_b FN_t (fun _ => FN_r))))
theorem FN_p {t : tk_T} {i : Nat} {π : pm_T} : FN7 (sp_part t i π) := FN_i FN_r (FN_i (FN_i FN_e (FN_l (by decide))) (FN_i (FN_i FN_r (FN_l (by decide))) (FN_i (FN_i FN_r (FN_l (by decide))) (FN_i (FN_i FN_x (FN_l (by decide))) FN_c))))
theorem FN_pits {t : tk_T} : ∀ (f i : Nat) (μ : pm_T), FN7 (sp_pits t f i μ)
  | 0, _, _ => FN_l (by decide)
  | f + 1, i, μ => FN_i (FN_i (FN_l (by decide)) (FN_i FN_r (FN_pits f _ _))) FN_c
theorem FN_name {t : tk_T} {i : Nat} {μ : pm_T} : FN7 (sp_name t i μ) := FN_i (FN_i FN_r (FN_i (FN_l (by decide)) FN_r)) FN_c
theorem FN_rows {t : tk_T} : ∀ (f i : Nat) (μ : pm_T), FN7 (sp_rows t f i μ)
  | 0, _, _ => FN_l (by decide)
  | f + 1, i, μ => FN_i (FN_i (FN_b FN_name (fun _ => FN_i FN_r (FN_rows f _ _))) (FN_l (by decide))) FN_c
theorem FN_parts {t : tk_T} : ∀ (f i : Nat) (π : pm_T), FN7 (sp_parts t f i π)
  | 0, _, _ => FN_l (by decide)
  | f + 1, i, π => FN_i FN_r (FN_b FN_p (fun _ => FN_parts f _ _))
theorem FN_time {t : tk_T} {i : Nat} {μ : pm_T} : FN7 (sp_time t i μ) := FN_i (FN_b FN_n (fun _ => FN_b FN_t (fun _ => FN_b FN_n (fun _ => FN_b FN_t (fun _ => FN_r))))) (FN_l (by decide))
theorem FN_line {t : tk_T} {i : Nat} {μ : pm_T} : FN7 (sp_line t i μ) := FN_i (FN_pits _ _ _) (FN_l (by decide))
theorem FN_rule {t : tk_T} {i : Nat} {μ : pm_T} : FN7 (sp_rule t i μ) := FN_i (FN_b FN_name (fun _ => FN_b FN_t (fun _ => FN_b FN_name (fun _ => FN_i (FN_b FN_name (fun _ => FN_b FN_t (fun _ => FN_r))) (FN_b FN_t (fun _ => FN_r)))))) (FN_l (by decide))
theorem FN_row {t : tk_T} {i : Nat} {μ : pm_T} : FN7 (sp_row t i μ) := FN_i (FN_rows _ _ _) (FN_l (by decide))
theorem FN_voice {t : tk_T} {i : Nat} {μ : pm_T} : FN7 (sp_voice t i μ) := FN_i (FN_b (FN_parts _ _ _) (fun _ => FN_i (FN_l (by decide)) (FN_i FN_r (FN_l (by decide))))) (FN_l (by decide))
theorem FN_item {t : tk_T} {i : Nat} {μ : pm_T} : FN7 (sp_item t i μ) := FN_i FN_time (FN_i FN_voice (FN_i FN_line (FN_i FN_rule (FN_i FN_row FN_c))))
theorem FN_items {t : tk_T} : ∀ (f i : Nat) (μ : pm_T), FN7 (sp_items t f i μ)
  | 0, _, _ => FN_l (by decide)
  | f + 1, i, μ => by
    by_cases c : tK t i = 256
    · rw [sp_items, if_pos c]; exact FN_r
    · rw [sp_items_e c]; exact FN_b FN_item (fun _ => FN_items f _ _)
theorem FN_score {t : tk_T} : FN7 (sp_score t) := FN_items _ _ _
