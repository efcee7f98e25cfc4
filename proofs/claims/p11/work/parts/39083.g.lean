/-! ===== the askers of both: event ===== -/
def evv (μ : pm_T) (v e w : Int) : Int :=
  if (0 ≤ v ∧ v < μ 0 7) ∧ (0 ≤ e ∧ e < μ (10 + v.toNat) 0) then
    (if 0 ≤ w ∧ w ≤ 8 then μ (100 + 40 * v.toNat + w.toNat) e.toNat
     else if 10 ≤ w ∧ w < 10 + μ (100 + 40 * v.toNat + 4) e.toNat then μ (100 + 40 * v.toNat + w.toNat) e.toNat
     else if 20 ≤ w ∧ w < 20 + μ (100 + 40 * v.toNat + 4) e.toNat then μ (100 + 40 * v.toNat + w.toNat) e.toNat else 10000)
  else 10000
/-- an event in a voice's cells, with its ranges -/
def Evc (μ : pm_T) (R w e : Nat) (h : ah_T) : Prop := isV w ∧ e < 300 ∧ RVe μ R w e h ∧ MVe μ R e ∧ ∀ b, h.2.1 (w + 3) b ≤ 300
theorem Evc_q {μ : pm_T} {R w e : Nat} {h : ah_T} (H : Evc μ R w e h) : ∃ b q : Nat, b < 300 ∧ (q : Int) + μ (R + 4) e ≤ 300 ∧ h.2.1 (w + 7) e = b ∧ h.2.1 (w + 3) b = q ∧ h.2.1 (w + 3) (b + 1) = q + μ (R + 4) e ∧ (h.2.1 (w + 6) b = μ (R + 5) e ∧ h.2.1 (w + 4) b = μ (R + 7) e ∧ h.2.1 (w + 5) b = μ (R + 8) e) ∧ ∀ p : Nat, (p : Int) < μ (R + 4) e → h.2.1 (w + 1) (q + p) = μ (R + (10 + p)) e ∧ h.2.1 (w + 2) (q + p) = μ (R + (20 + p)) e := by
  obtain ⟨-, -, ⟨b, q, y1, y2, y3, -, ⟨u1, u2⟩, w1, k⟩, -, q3⟩ := H
  exact ⟨b, q, y1, by have := q3 (b + 1); omega, y2, u1, u2, w1, k⟩
theorem t_Voice_pitchesOf {G : cx_T} {s w e R : Nat} {h : ah_T} {μ : pm_T} (hb0 : hb s h) (H : Evc μ R w e h) : con G 0 0 0 m_Voice_pitchesOf [av_R (some w), av_I (e : Int)] h (fun r h' => hb s h' ∧ h' = h ∧ r = some (av_I (μ (R + 4) e))) := by
  obtain ⟨b, q, y1, yq, y2, u1, u2, -, -⟩ := Evc_q H
  have hM := H.2.2.2.1.1
  have he := H.2.1
  refine c_Voice_pitchesOf H.1 hb0 (fun _ => ?_)
  unfold B_Voice_pitchesOf_0
  refine ⟨by omega, ?_⟩
  rw [tn_c]
  intro x2 e2 _ _
  obtain rfl : x2 = (b : Int) := e2.trans y2
  refine ⟨⟨by omega, by omega⟩, by omega, ?_⟩
  rw [show ((b : Int) + 1).toNat = b + 1 by omega]
  intro x6 e6 _ _
  refine ⟨by omega, ?_⟩
  rw [tn_c]
  intro x9 e9 _ _
  have : x6 - x9 = μ (R + 4) e := by rw [e6, e9, u1, u2]; omega
  rw [this]
  exact ⟨⟨by omega, by omega⟩, hb0, rfl, rfl⟩
theorem t_Voice_keyOf {G : cx_T} {s w e R p : Nat} {h : ah_T} {μ : pm_T} (hb0 : hb s h) (H : Evc μ R w e h) (hp : (p : Int) < μ (R + 4) e) : con G 0 0 0 m_Voice_keyOf [av_R (some w), av_I (e : Int), av_I (p : Int)] h (fun r h' => hb s h' ∧ h' = h ∧ r = some (av_I (μ (R + (10 + p)) e))) := by
  obtain ⟨b, q, y1, yq, y2, u1, u2, -, k⟩ := Evc_q H
  have he := H.2.1
  refine c_Voice_keyOf H.1 hb0 (fun _ _ => ?_)
  unfold B_Voice_keyOf_0 B_Voice_keyOf_36 B_Voice_keyOf_37
  refine ⟨by omega, ?_⟩
  rw [tn_c]
  intro x3 e3 _ _
  obtain rfl : x3 = (b : Int) := e3.trans y2
  refine ⟨by omega, ?_⟩
  rw [tn_c]
  intro x5 e5 _ _
  obtain rfl : x5 = (q : Int) := e5.trans u1
  refine ⟨⟨by omega, by omega⟩, fun c => by omega, fun c => ⟨fun c1 => by omega, fun c1 => ⟨by omega, fun x10 e10 _ _ => ?_⟩⟩⟩
  rw [show ((q : Int) + (p : Int)).toNat = q + p by omega] at e10
  rw [e10, (k p hp).1]
  exact ⟨hb0, rfl, rfl⟩
theorem t_Voice_stepOf {G : cx_T} {s w e R p : Nat} {h : ah_T} {μ : pm_T} (hb0 : hb s h) (H : Evc μ R w e h) (hp : (p : Int) < μ (R + 4) e) : con G 0 0 0 m_Voice_stepOf [av_R (some w), av_I (e : Int), av_I (p : Int)] h (fun r h' => hb s h' ∧ h' = h ∧ r = some (av_I (μ (R + (20 + p)) e))) := by
  obtain ⟨b, q, y1, yq, y2, u1, u2, -, k⟩ := Evc_q H
  have he := H.2.1
  refine c_Voice_stepOf H.1 hb0 (fun _ _ => ?_)
  unfold B_Voice_stepOf_0 B_Voice_stepOf_36 B_Voice_stepOf_37
  refine ⟨by omega, ?_⟩
  rw [tn_c]
  intro x3 e3 _ _
  obtain rfl : x3 = (b : Int) := e3.trans y2
  refine ⟨by omega, ?_⟩
  rw [tn_c]
  intro x5 e5 _ _
  obtain rfl : x5 = (q : Int) := e5.trans u1
  refine ⟨⟨by omega, by omega⟩, fun c => by omega, fun c => ⟨fun c1 => by omega, fun c1 => ⟨by omega, fun x10 e10 _ _ => ?_⟩⟩⟩
  rw [show ((q : Int) + (p : Int)).toNat = q + p by omega] at e10
  rw [e10, (k p hp).2]
  exact ⟨hb0, rfl, rfl⟩
theorem t_Voice_numberOf {G : cx_T} {s w e R : Nat} {h : ah_T} {μ : pm_T} (hb0 : hb s h) (H : Evc μ R w e h) : con G 0 0 0 m_Voice_numberOf [av_R (some w), av_I (e : Int)] h (fun r h' => hb s h' ∧ h' = h ∧ r = some (av_I (μ (R + 7) e))) := by
  obtain ⟨b, q, y1, yq, y2, u1, u2, ⟨w1, w2, w3⟩, k⟩ := Evc_q H
  have he := H.2.1
  refine c_Voice_numberOf H.1 hb0 (fun _ => ?_)
  unfold B_Voice_numberOf_0
  refine ⟨by omega, ?_⟩
  rw [tn_c]
  intro x3 e3 _ _
  obtain rfl : x3 = (b : Int) := e3.trans y2
  refine ⟨by omega, ?_⟩
  rw [tn_c]
  intro x5 e5 _ _
  rw [e5, w2]
  exact ⟨hb0, rfl, rfl⟩
theorem t_Voice_isTied {G : cx_T} {s w e R : Nat} {h : ah_T} {μ : pm_T} (hb0 : hb s h) (H : Evc μ R w e h) : con G 0 0 0 m_Voice_isTied [av_R (some w), av_I (e : Int)] h (fun r h' => hb s h' ∧ h' = h ∧ r = some (av_I (μ (R + 5) e))) := by
  obtain ⟨b, q, y1, yq, y2, u1, u2, ⟨w1, w2, w3⟩, k⟩ := Evc_q H
  have he := H.2.1
  refine c_Voice_isTied H.1 hb0 (fun _ => ?_)
  unfold B_Voice_isTied_0
  refine ⟨by omega, ?_⟩
  rw [tn_c]
  intro x3 e3 _ _
  obtain rfl : x3 = (b : Int) := e3.trans y2
  refine ⟨by omega, ?_⟩
  rw [tn_c]
  intro x5 e5 h5
  refine ⟨h5, ?_⟩
  rw [e5, w1]
  exact ⟨hb0, rfl, rfl⟩
theorem t_Voice_timeOf {G : cx_T} {s w e R p : Nat} {h : ah_T} {μ : pm_T} (hb0 : hb s h) (H : Evc μ R w e h) (hp : p < 4) : con G 0 0 0 m_Voice_timeOf [av_R (some w), av_I (e : Int), av_I (p : Int)] h (fun r h' => hb s h' ∧ h' = h ∧ r = some (av_L (μ (R + p) e))) := by
  have he := H.2.1
  obtain ⟨b, q, y1, y2, y3, ⟨z1, z2, z3, z4⟩, -⟩ := H.2.2.1
  refine c_Voice_timeOf H.1 hb0 (fun _ _ => ?_)
  unfold B_Voice_timeOf_0
  rw [tn_c]
  refine ⟨fun c => ⟨by omega, fun x ex _ _ => ?_⟩, fun c => ⟨by omega, fun x ex _ _ => ?_⟩, fun c => ⟨by omega, fun x ex _ _ => ?_⟩, fun c => ⟨by omega, fun x ex _ _ => ?_⟩⟩
  · obtain rfl : p = 0 := by omega
    rw [ex, z1]; exact ⟨hb0, rfl, rfl⟩
  · obtain rfl : p = 1 := by omega
    rw [ex, z2]; exact ⟨hb0, rfl, rfl⟩
  · obtain rfl : p = 2 := by omega
    rw [ex, z3]; exact ⟨hb0, rfl, rfl⟩
  · obtain rfl : p = 3 := by omega
    rw [ex, z4]; exact ⟨hb0, rfl, rfl⟩
theorem t_Voice_writingOf {G : cx_T} {s w e R p : Nat} {h : ah_T} {μ : pm_T} (hb0 : hb s h) (H : Evc μ R w e h) (hp : 4 ≤ p ∧ p ≤ 8) : con G 1 0 0 m_Voice_writingOf [av_R (some w), av_I (e : Int), av_I (p : Int)] h (fun r h' => hb s h' ∧ h' = h ∧ r = some (av_I (μ (R + p) e))) := by
  have he := H.2.1
  have hM := H.2.2.2.1.2.1
  obtain ⟨b, q, y1, yq, y2, u1, u2, ⟨w1, w2, w3⟩, k⟩ := Evc_q H
  obtain ⟨-, -, -, -, y3, -⟩ := H.2.2.1
  refine c_Voice_writingOf H.1 hb0 (fun _ _ => ?_)
  unfold B_Voice_writingOf_0 B_Voice_writingOf_51
  rw [tn_c]
  refine ⟨fun c => ?_, fun c => ?_, fun c => ⟨by omega, fun x ex _ _ => ?_⟩, fun c => ?_, fun c => ⟨by omega, fun x ex _ _ => ?_⟩⟩
  · obtain rfl : p = 4 := by omega
    refine con_mono (t_Voice_pitchesOf hb0 H) ?_
    rintro r h2 ⟨hb2, rfl, rfl⟩
    exact ⟨_, rfl, hb2, hb2, rfl, rfl⟩
  · obtain rfl : p = 5 := by omega
    refine con_mono (t_Voice_isTied hb0 H) ?_
    rintro r h2 ⟨hb2, rfl, rfl⟩
    refine ⟨_, rfl, hb2, fun c => ?_, fun c => ?_⟩
    · rw [c]; exact ⟨hb2, rfl, rfl⟩
    · have : μ (R + 5) e = 1 := by omega
      rw [this]; exact ⟨hb2, rfl, rfl⟩
  · obtain rfl : p = 6 := by omega
    rw [ex, y3]; exact ⟨hb0, rfl, rfl⟩
  · obtain rfl : p = 7 := by omega
    refine con_mono (t_Voice_numberOf hb0 H) ?_
    rintro r h2 ⟨hb2, rfl, rfl⟩
    exact ⟨_, rfl, hb2, hb2, rfl, rfl⟩
  · obtain rfl : p = 8 := by omega
    obtain rfl : x = (b : Int) := ex.trans y2
    refine ⟨by omega, ?_⟩
    rw [tn_c]
    intro x17 e17 _ _
    rw [e17, w3]; exact ⟨hb0, rfl, rfl⟩

/-! ===== what a WALK gives: STARTS one behind another, BARS and their events ===== -/
theorem wk_ind {π : pm_T} {P : pm_T → Prop} (hs : ∀ α, P α → P (wk_st α)) (hl : ∀ α, P α → P (wk_ln α)) (he : ∀ j sT sB α, P α → P (wk_ev π j sT sB α)) : ∀ (f : Nat) (b : Bool) (x y : Nat) (sT sB : Int) (α : pm_T), P α → P (wk π f b x y sT sB α)
  | 0, _, _, _, _, _, _, h => by rw [wk]; exact h
  | f + 1, true, x, y, sT, sB, α, h => by
    have ih := fun b x y sT sB α h => wk_ind hs hl he f b x y sT sB α h
    rw [wk]
    split
    · exact h
    split
    · refine ih _ _ _ _ _ _ ?_
      split
      · exact ih _ _ _ _ _ _ (hs _ h)
      · exact ih _ _ _ _ _ _ (hs _ (ih _ _ _ _ _ _ (hs _ (hs _ h))))
    split
    · exact ih _ _ _ _ _ _ (ih _ _ _ _ _ _ (hs _ h))
    split
    · exact ih _ _ _ _ _ _ (hl _ (hs _ h))
    split
    · exact ih _ _ _ _ _ _ (he _ _ _ _ (hs _ h))
    · exact ih _ _ _ _ _ _ (hs _ h)
  | f + 1, false, x, y, sT, sB, α, h => by
    have ih := fun b x y sT sB α h => wk_ind hs hl he f b x y sT sB α h
    rw [wk]
    split
    · exact ih _ _ _ _ _ _ (ih _ _ _ _ _ _ (ih _ _ _ _ _ _ (hs _ h)))
    · exact h
def nxT (α : pm_T) (e : Nat) : Int := if (e : Int) + 1 < α 0 1 then α 3 (e + 1) else α 0 4
def nxB (α : pm_T) (e : Nat) : Int := if (e : Int) + 1 < α 0 1 then α 4 (e + 1) else α 0 5
def WGa (α : pm_T) : Prop := ∀ e : Nat, (e : Int) < α 0 1 → nxT α e = rdT (α 3 e * α 6 e + α 5 e * α 4 e) (α 4 e * α 6 e) ∧ nxB α e = rdB (α 3 e * α 6 e + α 5 e * α 4 e) (α 4 e * α 6 e)
def WGb (α : pm_T) : Prop := α 7 0 = 0 ∧ (∀ b : Nat, (b : Int) ≤ α 0 2 → 0 ≤ α 7 b ∧ α 7 b ≤ α 0 1) ∧ ∀ e : Nat, (e : Int) < α 0 1 → (0 ≤ α 2 e ∧ α 2 e ≤ α 0 2) ∧ ∀ b : Nat, (b : Int) ≤ α 0 2 → (α 7 b ≤ e ↔ (b : Int) ≤ α 2 e)
def WGs (α : pm_T) : Prop := (0 ≤ α 0 1 ∧ 0 ≤ α 0 2) ∧ (α 0 3 = 0 → α 0 1 ≤ 300 → WGa α ∧ (α 0 2 ≤ 100 → WGb α))
theorem WG_st {α : pm_T} (H : WGs α) : WGs (wk_st α) := by
  have e : ∀ a k, ¬ (a = 0 ∧ k = 0) → wk_st α a k = α a k := fun a k q => up2_o q
  obtain ⟨h0, h1⟩ := H
  unfold WGs WGa WGb nxT nxB
  simp only [e 0 1 (by decide), e 0 2 (by decide), e 0 3 (by decide), e 0 4 (by decide), e 0 5 (by decide), e 2 _ (fun w => absurd w.1 (by decide)), e 3 _ (fun w => absurd w.1 (by decide)), e 4 _ (fun w => absurd w.1 (by decide)), e 5 _ (fun w => absurd w.1 (by decide)), e 6 _ (fun w => absurd w.1 (by decide)), e 7 _ (fun w => absurd w.1 (by decide))]
  exact ⟨h0, h1⟩
theorem WG_ln {α : pm_T} (H : WGs α) : WGs (wk_ln α) := by
  obtain ⟨⟨h0, h2⟩, h1⟩ := H
  have e2 : wk_ln α 0 2 = α 0 2 + 1 := by unfold wk_ln; rw [up2_at]
  have e : ∀ a k, ¬ (a = 0 ∧ k = 2) → ¬ (a = 7 ∧ k = (α 0 2).toNat + 1) → wk_ln α a k = α a k := fun a k q q2 => by
    unfold wk_ln
    rw [up2_o q]
    split
    · rw [up2_o q2]
    · rfl
  have e7 : α 0 2 < 100 → wk_ln α 7 ((α 0 2).toNat + 1) = α 0 1 := fun c => by
    unfold wk_ln
    rw [up2_o (by omega), if_pos c, up2_at]
  have n7 : ∀ a k, a ≠ 7 → ¬ (a = 7 ∧ k = (α 0 2).toNat + 1) := fun a k q w => q w.1
  have r : ∀ a k, a ≠ 0 → a ≠ 7 → wk_ln α a k = α a k := fun a k q q2 => e a k (fun w => q w.1) (n7 a k q2)
  have r0 : ∀ k, k ≠ 2 → wk_ln α 0 k = α 0 k := fun k q => e 0 k (fun w => q w.2) (by omega)
  refine ⟨⟨by rw [r0 1 (by decide)]; exact h0, by omega⟩, fun c3 c1 => ?_⟩
  rw [r0 3 (by decide)] at c3
  rw [r0 1 (by decide)] at c1
  obtain ⟨ha, hb⟩ := h1 c3 c1
  refine ⟨fun k hk => ?_, fun c2 => ?_⟩
  · unfold nxT nxB
    rw [r0 1 (by decide)] at hk ⊢
    rw [r0 4 (by decide), r0 5 (by decide), r 3 _ (by decide) (by decide), r 3 _ (by decide) (by decide), r 4 _ (by decide) (by decide), r 4 _ (by decide) (by decide), r 5 _ (by decide) (by decide), r 6 _ (by decide) (by decide)]
    exact ha k hk
  · rw [e2] at c2
    obtain ⟨b0, b1, b2⟩ := hb (by omega)
    have e7' := e7 (by omega)
    have o7 : ∀ b : Nat, (b : Int) ≤ α 0 2 → wk_ln α 7 b = α 7 b := fun b q => e 7 b (by omega) (by omega)
    unfold WGb
    rw [e2, r0 1 (by decide)]
    refine ⟨by rw [o7 0 (by omega)]; exact b0, fun b q => ?_, fun k hk => ?_⟩
    · by_cases c : (b : Int) ≤ α 0 2
      · rw [o7 b c]; exact b1 b c
      · obtain rfl : b = (α 0 2).toNat + 1 := by omega
        rw [e7']; omega
    · obtain ⟨x1, x2⟩ := b2 k hk
      rw [r 2 _ (by decide) (by decide)]
      refine ⟨⟨x1.1, by omega⟩, fun b q => ?_⟩
      by_cases c : (b : Int) ≤ α 0 2
      · rw [o7 b c]; exact x2 b c
      · obtain rfl : b = (α 0 2).toNat + 1 := by omega
        rw [e7']; omega
theorem gc_e (x y : Int) : x = (Int.gcd x y : Int) * rdT x y ∧ y = (Int.gcd x y : Int) * rdB x y := by
  unfold rdT rdB
  exact ⟨(Int.mul_ediv_cancel' (Int.gcd_dvd_left x y)).symm, (Int.mul_ediv_cancel' (Int.gcd_dvd_right x y)).symm⟩
theorem WG_ev {π : pm_T} {j : Nat} {sT sB : Int} {α : pm_T} (H : WGs α) : WGs (wk_ev π j sT sB α) := by
  obtain ⟨⟨h0, h2⟩, h1⟩ := H
  unfold wk_ev
  dsimp only
  split
  · rename_i cc
    obtain ⟨ha, hb⟩ := h1 cc.1 (by omega)
    generalize rdT (lnT π j sT) (lnB π j sB) = lT
    generalize rdB (lnT π j sT) (lnB π j sB) = lB
    split
    · refine ⟨⟨?_, ?_⟩, fun c3 => ?_⟩
      · simp [up2]; omega
      · simp [up2]; omega
      · simp [up2] at c3
    · generalize hT : rdT (α 0 4 * lB + lT * α 0 5) (α 0 5 * lB) = nT at *
      generalize hB : rdB (α 0 4 * lB + lT * α 0 5) (α 0 5 * lB) = nB at *
      generalize (if isFr nT nB = true then (1 : Int) else 0) = fz
      obtain ⟨N, hN⟩ : ∃ N : Nat, α 0 1 = N := ⟨(α 0 1).toNat, by omega⟩
      have tN : (α 0 1).toNat = N := by omega
      rw [tN]
      generalize eβ : up2 (up2 (up2 (up2 (up2 (up2 (up2 (up2 (up2 (up2 α 0 1 (α 0 1 + 1)) 1 N (j : Int)) 2 N (α 0 2)) 3 N (α 0 4)) 4 N (α 0 5)) 5 N lT) 6 N lB) 0 4 nT) 0 5 nB) 0 3 fz = β
      have o : ∀ a k, a ≠ 0 → k ≠ N → β a k = α a k := fun a k q1 q2 => by
        rw [← eβ, up2_o (by omega), up2_o (by omega), up2_o (by omega), up2_o (by omega), up2_o (by omega), up2_o (by omega), up2_o (by omega), up2_o (by omega), up2_o (by omega), up2_o (by omega)]
      have v1 : β 0 1 = α 0 1 + 1 := by rw [← eβ]; simp [up2]
      have v2 : β 0 2 = α 0 2 := by rw [← eβ]; simp [up2]
      have v4 : β 0 4 = nT := by rw [← eβ]; simp [up2]
      have v5 : β 0 5 = nB := by rw [← eβ]; simp [up2]
      have n2 : β 2 N = α 0 2 := by rw [← eβ]; simp [up2]
      have n3 : β 3 N = α 0 4 := by rw [← eβ]; simp [up2]
      have n4 : β 4 N = α 0 5 := by rw [← eβ]; simp [up2]
      have n5 : β 5 N = lT := by rw [← eβ]; simp [up2]
      have n6 : β 6 N = lB := by rw [← eβ]; simp [up2]
      have o7 : ∀ k, β 7 k = α 7 k := fun k => by
        rw [← eβ, up2_o (by omega), up2_o (by omega), up2_o (by omega), up2_o (by omega), up2_o (by omega), up2_o (by omega), up2_o (by omega), up2_o (by omega), up2_o (by omega), up2_o (by omega)]
      refine ⟨⟨by omega, by omega⟩, fun _ _ => ⟨fun k hk => ?_, fun c2 => ?_⟩⟩
      · unfold nxT nxB
        rw [v1] at hk ⊢
        by_cases c : k = N
        · subst c
          rw [if_neg (by omega), if_neg (by omega), n3, n4, n5, n6, v4, v5]
          exact ⟨hT.symm, hB.symm⟩
        · obtain ⟨x1, x2⟩ := ha k (by omega)
          unfold nxT at x1
          unfold nxB at x2
          rw [if_pos (show (k : Int) + 1 < α 0 1 + 1 by omega), if_pos (show (k : Int) + 1 < α 0 1 + 1 by omega), o 3 k (by decide) c, o 6 k (by decide) c, o 5 k (by decide) c, o 4 k (by decide) c]
          by_cases c' : k + 1 = N
          · rw [if_neg (show ¬ (k : Int) + 1 < α 0 1 by omega)] at x1 x2
            rw [c', n3, n4]
            exact ⟨x1, x2⟩
          · rw [if_pos (show (k : Int) + 1 < α 0 1 by omega)] at x1 x2
            rw [o 3 (k + 1) (by decide) c', o 4 (k + 1) (by decide) c']
            exact ⟨x1, x2⟩
      · rw [v2] at c2
        obtain ⟨b0, b1, b2⟩ := hb c2
        unfold WGb
        rw [v1, v2, o7]
        refine ⟨b0, fun b q => ?_, fun k hk => ?_⟩
        · rw [o7]
          have := b1 b q
          omega
        · by_cases c : k = N
          · subst c
            rw [n2]
            refine ⟨by omega, fun b q => ?_⟩
            rw [o7]
            have := b1 b q
            omega
          · rw [o 2 k (by decide) c]
            refine ⟨(b2 k (by omega)).1, fun b q => ?_⟩
            rw [o7]
            exact (b2 k (by omega)).2 b q
  · rename_i cc
    have v1 : up2 α 0 1 (α 0 1 + 1) 0 1 = α 0 1 + 1 := up2_at
    have v : ∀ k, k ≠ 1 → up2 α 0 1 (α 0 1 + 1) 0 k = α 0 k := fun k q => up2_o (by omega)
    refine ⟨⟨by omega, by rw [v 2 (by decide)]; exact h2⟩, fun c3 c1 => ?_⟩
    rw [v 3 (by decide)] at c3
    omega
theorem WG_walk {π : pm_T} : WGs (walk π) := by
  refine wk_ind (fun α h => WG_st h) (fun α h => WG_ln h) (fun j sT sB α h => WG_ev h) _ _ _ _ _ _ _ ?_
  have v : ∀ a k, ¬ (a = 0 ∧ k = 5) → wk0 a k = 0 := fun a k q => up2_o q
  refine ⟨⟨by rw [v _ _ (by decide)]; decide, by rw [v _ _ (by decide)]; decide⟩, fun _ _ => ⟨fun e he => ?_, fun _ => ⟨v _ _ (by decide), fun b hb => ?_, fun e he => ?_⟩⟩⟩
  · rw [v _ _ (by decide)] at he; omega
  · rw [v 7 b (by omega), v 0 1 (by decide)]; decide
  · rw [v _ _ (by decide)] at he; omega

/-! ===== what a score's memory tells of its voices ===== -/
def VGo (μ : pm_T) (n : Nat) : Prop :=
  (∀ e : Nat, (e : Int) < μ (10 + n) 0 → smT μ n (e + 1) = rdT (smT μ n e * μ (100 + 40 * n + 3) e + μ (100 + 40 * n + 2) e * smB μ n e) (smB μ n e * μ (100 + 40 * n + 3) e) ∧ smB μ n (e + 1) = rdB (smT μ n e * μ (100 + 40 * n + 3) e + μ (100 + 40 * n + 2) e * smB μ n e) (smB μ n e * μ (100 + 40 * n + 3) e)) ∧
  μ (100 + 40 * n + 30) 0 = 0 ∧ (∀ b : Nat, (b : Int) < μ (10 + n) 1 → 0 ≤ μ (100 + 40 * n + 30) b ∧ μ (100 + 40 * n + 30) b ≤ μ (10 + n) 0) ∧
  ∀ e : Nat, (e : Int) < μ (10 + n) 0 → (0 ≤ μ (100 + 40 * n + 6) e ∧ μ (100 + 40 * n + 6) e < μ (10 + n) 1) ∧ ∀ b : Nat, (b : Int) < μ (10 + n) 1 → (μ (100 + 40 * n + 30) b ≤ e ↔ (b : Int) ≤ μ (100 + 40 * n + 6) e)
def VGm (μ : pm_T) : Prop := (0 ≤ μ 0 7 ∧ μ 0 7 ≤ 4) ∧ ∀ n : Nat, (n : Int) < μ 0 7 → VGo μ n
theorem VGo_c {μ μ' : pm_T} {n : Nat} (H : VGo μ n) (e : ∀ a k, vrow n a → μ' a k = μ a k) : VGo μ' n := by
  have e1 : ∀ k, μ' (10 + n) k = μ (10 + n) k := fun k => e _ k (Or.inl rfl)
  have e2 : ∀ w k, w < 40 → μ' (100 + 40 * n + w) k = μ (100 + 40 * n + w) k := fun w k hw => e _ k (Or.inr ⟨by omega, by omega⟩)
  have eT : ∀ k, smT μ' n k = smT μ n k := fun k => by
    unfold smT
    rw [e1, e2 0 _ (by decide), e2 31 _ (by decide)]
  have eB : ∀ k, smB μ' n k = smB μ n k := fun k => by
    unfold smB
    rw [e1, e2 1 _ (by decide), e2 31 _ (by decide)]
  unfold VGo
  simp only [e1, eT, eB, e2 2 _ (by decide), e2 3 _ (by decide), e2 30 _ (by decide), e2 6 _ (by decide)]
  exact H
theorem VGm_k {μ μ' : pm_T} (H : VGm μ) (k : kr μ μ') : VGm μ' := by
  refine ⟨by rw [k.1]; exact H.1, fun n hn => VGo_c (H.2 n (by rw [← k.1]; exact hn)) (fun a j w => k.2.1 a j ?_)⟩
  unfold vrow at w
  omega
theorem VGo_new {μ π : pm_T} {n : Nat} (hn : n = (μ 0 7).toNat) (h : ¬ (2000 < walk π 0 0 ∨ 300 < walk π 0 1 ∨ 100 < walk π 0 2)) (h3 : walk π 0 3 = 0) : VGo (addV μ π (walk π)) n := by
  obtain ⟨⟨w0, w2⟩, w⟩ := WG_walk (π := π)
  obtain ⟨ha, hb⟩ := w h3 (by omega)
  obtain ⟨b0, b1, b2⟩ := hb (by omega)
  clear w hb
  generalize walk π = α at *
  obtain ⟨n0, n1⟩ := addV_n (π := π) (α := α) hn
  have r : ∀ {w k : Nat}, w < 40 → addV μ π α (100 + 40 * n + w) k = _ := fun {w k} hw => addV_i (π := π) (α := α) (k := k) hn hw
  have r31 : ∀ k, addV μ π α (100 + 40 * n + 31) k = α 0 (4 + k) := fun k => (r (by decide)).trans rfl
  have r30 : ∀ k, addV μ π α (100 + 40 * n + 30) k = α 7 k := fun k => (r (by decide)).trans rfl
  have r0 : ∀ k, addV μ π α (100 + 40 * n + 0) k = α 3 k := fun k => (r (by decide)).trans rfl
  have r1 : ∀ k, addV μ π α (100 + 40 * n + 1) k = α 4 k := fun k => (r (by decide)).trans rfl
  have r2 : ∀ k, addV μ π α (100 + 40 * n + 2) k = α 5 k := fun k => (r (by decide)).trans rfl
  have r3 : ∀ k, addV μ π α (100 + 40 * n + 3) k = α 6 k := fun k => (r (by decide)).trans rfl
  have r6 : ∀ k, addV μ π α (100 + 40 * n + 6) k = α 2 k := fun k => (r (by decide)).trans rfl
  have eT : ∀ k : Nat, smT (addV μ π α) n k = if (k : Int) < α 0 1 then α 3 k else α 0 4 := fun k => by
    unfold smT
    rw [n0, r0, r31]
  have eB : ∀ k : Nat, smB (addV μ π α) n k = if (k : Int) < α 0 1 then α 4 k else α 0 5 := fun k => by
    unfold smB
    rw [n0, r1, r31]
  unfold VGo
  rw [n0, n1]
  refine ⟨fun e he => ?_, by rw [r30]; exact b0, fun b hb => by rw [r30]; exact b1 b (by omega), fun e he => ?_⟩
  · obtain ⟨x1, x2⟩ := ha e he
    rw [eT, eT, eB, eB, r2, r3, if_pos he, if_pos he, ← x1, ← x2]
    exact ⟨rfl, rfl⟩
  · obtain ⟨x1, x2⟩ := b2 e he
    rw [r6]
    exact ⟨⟨x1.1, by omega⟩, fun b hb => by rw [r30]; exact x2 b (by omega)⟩
theorem vg_items {t : tk_T} : ∀ (f i : Nat) (μ ν : pm_T), sp_items t f i μ = .inr ν → VGm μ → VGm ν
  | 0, _, _, _, h, _ => by rw [sp_items] at h; cases h
  | f + 1, i, μ, ν, h, H => by
    rw [sp_items] at h
    split at h
    · cases h; exact H
    · obtain ⟨q, eq, h⟩ := bnd_r h
      refine vg_items f _ _ _ h ?_
      split at eq
      · exact VGm_k H (time_k eq)
      · split at eq
        · unfold sp_voice at eq
          split at eq
          · rename_i c4
            obtain ⟨a, ea, eq⟩ := bnd_r eq
            split at eq
            · cases eq
            · rename_i c
              split at eq
              · rename_i c3
                obtain rfl := Sum.inr.inj eq
                have e7 : addV μ a.2 (walk a.2) 0 7 = μ 0 7 + 1 := by unfold addV; rw [if_pos ⟨rfl, rfl⟩]
                obtain ⟨h1, h2⟩ := H
                refine ⟨?_, fun n hn => ?_⟩
                · show 0 ≤ addV μ a.2 (walk a.2) 0 7 ∧ addV μ a.2 (walk a.2) 0 7 ≤ 4
                  rw [e7]; omega
                · have hn' : (n : Int) < addV μ a.2 (walk a.2) 0 7 := hn
                  rw [e7] at hn'
                  show VGo (addV μ a.2 (walk a.2)) n
                  by_cases cn : n = (μ 0 7).toNat
                  · exact VGo_new cn c c3
                  · exact VGo_c (h2 n (by omega)) (fun x k w => addV_b (n := n) (by omega) w (by omega))
              · cases eq
          · cases eq
        · split at eq
          · exact VGm_k H (line_k eq)
          · split at eq
            · exact VGm_k H (rule_k eq)
            · split at eq
              · exact VGm_k H (row_k eq)
              · cases eq
theorem VGm_of {μ : pm_T} (H : OKm μ) : VGm μ := by
  have h0 : VGm sco0 := by
    have e : sco0 0 7 = 0 := by unfold sco0; simp [up2]
    exact ⟨by rw [e]; decide, fun n hn => by rw [e] at hn; omega⟩
  rcases H with ⟨X, -, e⟩ | rfl
  · exact vg_items _ _ _ _ e h0
  · exact h0

/-! ===== the order of STARTS ===== -/
theorem fr_ll {a b c d e f : Int} (hd : 1 ≤ d) (hb : 1 ≤ b) (hf : 1 ≤ f) (h1 : a * d < c * b) (h2 : c * f ≤ e * d) : a * f < e * b := by
  have x1 : (a * d) * f < (c * b) * f := Int.mul_lt_mul_of_pos_right h1 (by omega)
  have x2 : (c * f) * b ≤ (e * d) * b := Int.mul_le_mul_of_nonneg_right h2 (by omega)
  have x3 : (a * f) * d < (e * b) * d := by
    have e1 : (a * d) * f = (a * f) * d := by rw [Int.mul_assoc, Int.mul_comm d f, ← Int.mul_assoc]
    have e2 : (c * b) * f = (c * f) * b := by rw [Int.mul_assoc, Int.mul_comm b f, ← Int.mul_assoc]
    have e3 : (e * d) * b = (e * b) * d := by rw [Int.mul_assoc, Int.mul_comm d b, ← Int.mul_assoc]
    omega
  exact Int.lt_of_mul_lt_mul_right x3 (by omega)
theorem fr_le {a b c d e f : Int} (hd : 1 ≤ d) (hb : 1 ≤ b) (hf : 1 ≤ f) (h1 : a * d ≤ c * b) (h2 : c * f < e * d) : a * f < e * b := by
  have x1 : (a * d) * f ≤ (c * b) * f := Int.mul_le_mul_of_nonneg_right h1 (by omega)
  have x2 : (c * f) * b < (e * d) * b := Int.mul_lt_mul_of_pos_right h2 (by omega)
  have x3 : (a * f) * d < (e * b) * d := by
    have e1 : (a * d) * f = (a * f) * d := by rw [Int.mul_assoc, Int.mul_comm d f, ← Int.mul_assoc]
    have e2 : (c * b) * f = (c * f) * b := by rw [Int.mul_assoc, Int.mul_comm b f, ← Int.mul_assoc]
    have e3 : (e * d) * b = (e * b) * d := by rw [Int.mul_assoc, Int.mul_comm d b, ← Int.mul_assoc]
    omega
  exact Int.lt_of_mul_lt_mul_right x3 (by omega)
theorem fr_tt {a b c d e f : Int} (hd : 1 ≤ d) (hb : 1 ≤ b) (hf : 1 ≤ f) (h1 : a * d ≤ c * b) (h2 : c * f ≤ e * d) : a * f ≤ e * b := by
  have x1 : (a * d) * f ≤ (c * b) * f := Int.mul_le_mul_of_nonneg_right h1 (by omega)
  have x2 : (c * f) * b ≤ (e * d) * b := Int.mul_le_mul_of_nonneg_right h2 (by omega)
  have x3 : (a * f) * d ≤ (e * b) * d := by
    have e1 : (a * d) * f = (a * f) * d := by rw [Int.mul_assoc, Int.mul_comm d f, ← Int.mul_assoc]
    have e2 : (c * b) * f = (c * f) * b := by rw [Int.mul_assoc, Int.mul_comm b f, ← Int.mul_assoc]
    have e3 : (e * d) * b = (e * b) * d := by rw [Int.mul_assoc, Int.mul_comm d b, ← Int.mul_assoc]
    omega
  exact Int.le_of_mul_le_mul_right x3 (by omega)
/-- START i of voice o is ahead of (not behind) START e of voice n -/
def SL (μ : pm_T) (o i n e : Nat) : Prop := smT μ o i * smB μ n e < smT μ n e * smB μ o i
def SE (μ : pm_T) (o i n e : Nat) : Prop := smT μ o i * smB μ n e ≤ smT μ n e * smB μ o i
/-- a good score's memory -/
def GM (μ : pm_T) : Prop := VGm μ ∧ TMg μ ∧ ∀ n : Nat, (n : Int) < μ 0 7 → MVo μ n
theorem GM_b {μ : pm_T} (G : GM μ) {n : Nat} (hn : (n : Int) < μ 0 7) (e : Nat) : (0 ≤ smT μ n e ∧ smT μ n e ≤ 1000 * smB μ n e) ∧ 1 ≤ smB μ n e ∧ smB μ n e ≤ 1000000 := by
  have M := G.2.2 n hn
  unfold smT smB
  split
  · rename_i c
    have := (M.2.2.2.1 e c).2.2.2.2.1
    exact ⟨⟨this.1, this.2.1⟩, this.2.2.1, this.2.2.2⟩
  · have := M.2.2.1
    exact ⟨⟨this.1, this.2.1⟩, this.2.2.1, this.2.2.2⟩
theorem GM_s {μ : pm_T} (G : GM μ) {n e : Nat} (hn : (n : Int) < μ 0 7) (he : (e : Int) < μ (10 + n) 0) : SL μ n e n (e + 1) := by
  obtain ⟨g, x1, x2⟩ : ∃ g : Int, smT μ n e * μ (100 + 40 * n + 3) e + μ (100 + 40 * n + 2) e * smB μ n e = g * smT μ n (e + 1) ∧ smB μ n e * μ (100 + 40 * n + 3) e = g * smB μ n (e + 1) := by
    obtain ⟨y1, y2⟩ := (G.1.2 n hn).1 e he
    obtain ⟨z1, z2⟩ := gc_e (smT μ n e * μ (100 + 40 * n + 3) e + μ (100 + 40 * n + 2) e * smB μ n e) (smB μ n e * μ (100 + 40 * n + 3) e)
    rw [y1, y2]
    exact ⟨_, z1, z2⟩
  have ⟨b0, b1, b2⟩ := GM_b G hn e
  have ⟨c0, c1, c2⟩ := GM_b G hn (e + 1)
  have l := ((G.2.2 n hn).2.2.2.1 e he).2.2.2.2.2.1
  unfold SL
  generalize smT μ n e = T at *
  generalize smB μ n e = B at *
  generalize smT μ n (e + 1) = T' at *
  generalize smB μ n (e + 1) = B' at *
  generalize μ (100 + 40 * n + 3) e = lB at *
  generalize μ (100 + 40 * n + 2) e = lT at *
  have hg : 1 ≤ g := by
    by_cases c : 1 ≤ g
    · exact c
    · have p : 1 ≤ B * lB := by
        have := Int.mul_le_mul b1 l.2.2.1 (by omega) (by omega)
        omega
      have : g * B' ≤ 0 := Int.mul_nonpos_of_nonpos_of_nonneg (by omega) (by omega)
      omega
  have q : T * B' * g < T' * B * g := by
    have e1 : T * B' * g = T * (B * lB) := by rw [x2, Int.mul_comm g B', ← Int.mul_assoc]
    have e2 : T' * B * g = (T * lB + lT * B) * B := by rw [x1, Int.mul_comm g T', Int.mul_assoc, Int.mul_assoc, Int.mul_comm g B]
    have e3 : (T * lB + lT * B) * B = T * (B * lB) + lT * (B * B) := by rw [Int.add_mul, Int.mul_assoc, Int.mul_comm lB B, Int.mul_assoc]
    have p : 1 ≤ lT * (B * B) := by
      have h1 := Int.mul_le_mul b1 b1 (by omega) (by omega)
      have h2 := Int.mul_le_mul l.1 h1 (by omega) (by omega)
      omega
    omega
  exact Int.lt_of_mul_lt_mul_right q (by omega)
theorem SL_n {μ : pm_T} {o i n e : Nat} : ¬ SL μ o i n e ↔ SE μ n e o i := by
  unfold SL SE; omega
theorem SE_n {μ : pm_T} {o i n e : Nat} : ¬ SE μ o i n e ↔ SL μ n e o i := by
  unfold SL SE; omega
theorem SL_e {μ : pm_T} {o i n e : Nat} (h : SL μ o i n e) : SE μ o i n e := by
  unfold SL SE at *; omega
theorem SL_le {μ : pm_T} (G : GM μ) {o i n e m f : Nat} (ho : (o : Int) < μ 0 7) (hn : (n : Int) < μ 0 7) (hm : (m : Int) < μ 0 7) (h1 : SL μ o i n e) (h2 : SE μ n e m f) : SL μ o i m f :=
  fr_ll (GM_b G hn e).2.1 (GM_b G ho i).2.1 (GM_b G hm f).2.1 h1 h2
theorem SE_lt {μ : pm_T} (G : GM μ) {o i n e m f : Nat} (ho : (o : Int) < μ 0 7) (hn : (n : Int) < μ 0 7) (hm : (m : Int) < μ 0 7) (h1 : SE μ o i n e) (h2 : SL μ n e m f) : SL μ o i m f :=
  fr_le (GM_b G hn e).2.1 (GM_b G ho i).2.1 (GM_b G hm f).2.1 h1 h2
theorem SE_le {μ : pm_T} (G : GM μ) {o i n e m f : Nat} (ho : (o : Int) < μ 0 7) (hn : (n : Int) < μ 0 7) (hm : (m : Int) < μ 0 7) (h1 : SE μ o i n e) (h2 : SE μ n e m f) : SE μ o i m f :=
  fr_tt (GM_b G hn e).2.1 (GM_b G ho i).2.1 (GM_b G hm f).2.1 h1 h2
theorem SE_r {μ : pm_T} {n e : Nat} : SE μ n e n e := Int.le_refl _
theorem GM_m {μ : pm_T} (G : GM μ) {n : Nat} (hn : (n : Int) < μ 0 7) {i : Nat} : ∀ j : Nat, i ≤ j → (j : Int) ≤ μ (10 + n) 0 → SE μ n i n j
  | 0, h, _ => by
    have : i = 0 := by omega
    subst this
    exact SE_r
  | j + 1, h, h2 => by
    by_cases c : i = j + 1
    · subst c; exact SE_r
    · exact SE_le G hn hn hn (GM_m G hn j (by omega) (by omega)) (SL_e (GM_s G hn (by omega)))
theorem GM_l {μ : pm_T} (G : GM μ) {n i j : Nat} (hn : (n : Int) < μ 0 7) (h : i < j) (h2 : (j : Int) ≤ μ (10 + n) 0) : SL μ n i n j :=
  SL_le G hn hn hn (GM_s G hn (by omega)) (GM_m G hn j (by omega) h2)
/-- the events ahead of bar b, behind the last all -/
def brE (μ : pm_T) (n b : Nat) : Nat := if (b : Int) < μ (10 + n) 1 then (μ (100 + 40 * n + 30) b).toNat else (μ (10 + n) 0).toNat
theorem brE_b {μ : pm_T} (G : GM μ) {n b : Nat} (hn : (n : Int) < μ 0 7) : (brE μ n b : Int) ≤ μ (10 + n) 0 := by
  have h := (G.1.2 n hn).2.2.1 b
  have := (G.2.2 n hn).1
  unfold brE
  split
  · rename_i c
    have := h c
    omega
  · omega
theorem brE_m {μ : pm_T} (G : GM μ) {n b : Nat} (hn : (n : Int) < μ 0 7) : brE μ n b ≤ brE μ n (b + 1) := by
  have H := G.1.2 n hn
  have M := (G.2.2 n hn).1
  have B := brE_b G (b := b) hn
  have c0 := H.2.2.1 b
  have c1 := H.2.2.1 (b + 1)
  unfold brE at *
  split
  · rename_i h
    rw [if_pos h] at B
    have c0 := c0 h
    split
    · rename_i h2
      have c1 := c1 h2
      by_cases c : μ (100 + 40 * n + 30) (b + 1) < μ (10 + n) 0
      · obtain ⟨e, he⟩ : ∃ e : Nat, μ (100 + 40 * n + 30) (b + 1) = e := ⟨(μ (100 + 40 * n + 30) (b + 1)).toNat, by omega⟩
        have x := (H.2.2.2 e (by omega)).2
        have x1 := (x (b + 1) h2).mp (by omega)
        have x2 := (x b h).mpr (by omega)
        omega
      · omega
    · omega
  · split <;> omega
