/-! ===== the askers of both: event ===== -/
def evv (μ : pm_T) (v e w : Int) : Int :=
  if (0 ≤ v ∧ v < μ 0 7) ∧ (0 ≤ e ∧ e < μ (10 + v.toNat) 0) then
    (if 0 ≤ w ∧ w ≤ 8 then μ (100 + 40 * v.toNat + w.toNat) e.toNat
     else if 10 ≤ w ∧ w < 10 + μ (100 + 40 * v.toNat + 4) e.toNat then μ (100 + 40 * v.toNat + w.toNat) e.toNat
     else if 20 ≤ w ∧ w < 20 + μ (100 + 40 * v.toNat + 4) e.toNat then μ (100 + 40 * v.toNat + w.toNat) e.toNat else 10000)
  else 10000
/-- an event in a voice's cells, with its ranges -/
def Evc (μ : pm_T) (R w e : Nat) (h : ah_T) : Prop := isV w ∧ e < 300 ∧ RVe μ R w e h ∧ MVe μ R e ∧ ∀ b, h.2.1 (w + 3) b ≤ 300
theorem Evc_q {μ : pm_T} {R w e : Nat} {h : ah_T} (H : Evc μ R w e h) : ∃ b q : Nat, b < 300 ∧ (q : Int) + μ (R + 4) e ≤ 300 ∧ h.2.1 (w + 7) e = b ∧ h.2.1 (w + 3) b = q ∧ h.2.1 (w + 3) (b + 1) = q + μ (R + 4) e ∧ (h.2.1 (w + 6) b = μ (R + 5) e ∧ h.2.1 (w + 4) b = μ (R + 7) e ∧ h.2.1 (w + 5) b = μ (R + 8) e) ∧ ∀ p : Nat, (p : Int) < μ (R + 4) e → h.2.1 (w + 1) (q + p) = μ (R + (10 + p)) e ∧ h.2.1 (w + 2) (q + p) = μ (R + (20 + p)) e := by
  obtain ⟨-, -, ⟨b, q, y1, y2, y3, -, ⟨u1, u2⟩, w1, k⟩, -, q3⟩ := H
  exact ⟨b, q, y1, by have := q3 (b + 1); omega, y2, u1, u2, w1, k⟩
theorem t_Voice_pitchesOf {G : cx_T} {s w e R : Nat} {h : ah_T} {μ : pm_T} (hb0 : hb s h) (H : Evc μ R w e h) : con G 0 0 0 m_Voice_pitchesOf [av_R (some w), av_I (e : Int)] h (fun r h' => hb s h' ∧ h' = h ∧ r = some (av_I (μ (R + 4) e))) := by
  obtain ⟨b, q, y1, yq, y2, u1, u2, -, -⟩ := Evc_q H
  have hM := H.2.2.2.1.1
  have he := H.2.1
  refine c_Voice_pitchesOf H.1 hb0 (fun _ => ?_)
  unfold B_Voice_pitchesOf_0
  refine ⟨by omega, ?_⟩
  rw [tn_c]
  intro x2 e2 _ _
  obtain rfl : x2 = (b : Int) := e2.trans y2
  refine ⟨⟨by omega, by omega⟩, by omega, ?_⟩
  rw [show ((b : Int) + 1).toNat = b + 1 by omega]
  intro x6 e6 _ _
  refine ⟨by omega, ?_⟩
  rw [tn_c]
  intro x9 e9 _ _
  have : x6 - x9 = μ (R + 4) e := by rw [e6, e9, u1, u2]; omega
  rw [this]
  exact ⟨⟨by omega, by omega⟩, hb0, rfl, rfl⟩
theorem t_Voice_keyOf {G : cx_T} {s w e R p : Nat} {h : ah_T} {μ : pm_T} (hb0 : hb s h) (H : Evc μ R w e h) (hp : (p : Int) < μ (R + 4) e) : con G 0 0 0 m_Voice_keyOf [av_R (some w), av_I (e : Int), av_I (p : Int)] h (fun r h' => hb s h' ∧ h' = h ∧ r = some (av_I (μ (R + (10 + p)) e))) := by
  obtain ⟨b, q, y1, yq, y2, u1, u2, -, k⟩ := Evc_q H
  have he := H.2.1
  refine c_Voice_keyOf H.1 hb0 (fun _ _ => ?_)
  unfold B_Voice_keyOf_0 B_Voice_keyOf_36 B_Voice_keyOf_37
  refine ⟨by omega, ?_⟩
  rw [tn_c]
  intro x3 e3 _ _
  obtain rfl : x3 = (b : Int) := e3.trans y2
  refine ⟨by omega, ?_⟩
  rw [tn_c]
  intro x5 e5 _ _
  obtain rfl : x5 = (q : Int) := e5.trans u1
  refine ⟨⟨by omega, by omega⟩, fun c => by omega, fun c => ⟨fun c1 => by omega, fun c1 => ⟨by omega, fun x10 e10 _ _ => ?_⟩⟩⟩
  rw [show ((q : Int) + (p : Int)).toNat = q + p by omega] at e10
  rw [e10, (k p hp).1]
  exact ⟨hb0, rfl, rfl⟩
theorem t_Voice_stepOf {G : cx_T} {s w e R p : Nat} {h : ah_T} {μ : pm_T} (hb0 : hb s h) (H : Evc μ R w e h) (hp : (p : Int) < μ (R + 4) e) : con G 0 0 0 m_Voice_stepOf [av_R (some w), av_I (e : Int), av_I (p : Int)] h (fun r h' => hb s h' ∧ h' = h ∧ r = some (av_I (μ (R + (20 + p)) e))) := by
  obtain ⟨b, q, y1, yq, y2, u1, u2, -, k⟩ := Evc_q H
  have he := H.2.1
  refine c_Voice_stepOf H.1 hb0 (fun _ _ => ?_)
  unfold B_Voice_stepOf_0 B_Voice_stepOf_36 B_Voice_stepOf_37
  refine ⟨by omega, ?_⟩
  rw [tn_c]
  intro x3 e3 _ _
  obtain rfl : x3 = (b : Int) := e3.trans y2
  refine ⟨by omega, ?_⟩
  rw [tn_c]
  intro x5 e5 _ _
  obtain rfl : x5 = (q : Int) := e5.trans u1
  refine ⟨⟨by omega, by omega⟩, fun c => by omega, fun c => ⟨fun c1 => by omega, fun c1 => ⟨by omega, fun x10 e10 _ _ => ?_⟩⟩⟩
  rw [show ((q : Int) + (p : Int)).toNat = q + p by omega] at e10
  rw [e10, (k p hp).2]
  exact ⟨hb0, rfl, rfl⟩
theorem t_Voice_numberOf {G : cx_T} {s w e R : Nat} {h : ah_T} {μ : pm_T} (hb0 : hb s h) (H : Evc μ R w e h) : con G 0 0 0 m_Voice_numberOf [av_R (some w), av_I (e : Int)] h (fun r h' => hb s h' ∧ h' = h ∧ r = some (av_I (μ (R + 7) e))) := by
  obtain ⟨b, q, y1, yq, y2, u1, u2, ⟨w1, w2, w3⟩, k⟩ := Evc_q H
  have he := H.2.1
  refine c_Voice_numberOf H.1 hb0 (fun _ => ?_)
  unfold B_Voice_numberOf_0
  refine ⟨by omega, ?_⟩
  rw [tn_c]
  intro x3 e3 _ _
  obtain rfl : x3 = (b : Int) := e3.trans y2
  refine ⟨by omega, ?_⟩
  rw [tn_c]
  intro x5 e5 _ _
  rw [e5, w2]
  exact ⟨hb0, rfl, rfl⟩
theorem t_Voice_isTied {G : cx_T} {s w e R : Nat} {h : ah_T} {μ : pm_T} (hb0 : hb s h) (H : Evc μ R w e h) : con G 0 0 0 m_Voice_isTied [av_R (some w), av_I (e : Int)] h (fun r h' => hb s h' ∧ h' = h ∧ r = some (av_I (μ (R + 5) e))) := by
  obtain ⟨b, q, y1, yq, y2, u1, u2, ⟨w1, w2, w3⟩, k⟩ := Evc_q H
  have he := H.2.1
  refine c_Voice_isTied H.1 hb0 (fun _ => ?_)
  unfold B_Voice_isTied_0
  refine ⟨by omega, ?_⟩
  rw [tn_c]
  intro x3 e3 _ _
  obtain rfl : x3 = (b : Int) := e3.trans y2
  refine ⟨by omega, ?_⟩
  rw [tn_c]
  intro x5 e5 h5
  refine ⟨h5, ?_⟩
  rw [e5, w1]
  exact ⟨hb0, rfl, rfl⟩
theorem t_Voice_timeOf {G : cx_T} {s w e R p : Nat} {h : ah_T} {μ : pm_T} (hb0 : hb s h) (H : Evc μ R w e h) (hp : p < 4) : con G 0 0 0 m_Voice_timeOf [av_R (some w), av_I (e : Int), av_I (p : Int)] h (fun r h' => hb s h' ∧ h' = h ∧ r = some (av_L (μ (R + p) e))) := by
  have he := H.2.1
  obtain ⟨b, q, y1, y2, y3, ⟨z1, z2, z3, z4⟩, -⟩ := H.2.2.1
  refine c_Voice_timeOf H.1 hb0 (fun _ _ => ?_)
  unfold B_Voice_timeOf_0
  rw [tn_c]
  refine ⟨fun c => ⟨by omega, fun x ex _ _ => ?_⟩, fun c => ⟨by omega, fun x ex _ _ => ?_⟩, fun c => ⟨by omega, fun x ex _ _ => ?_⟩, fun c => ⟨by omega, fun x ex _ _ => ?_⟩⟩
  · obtain rfl : p = 0 := by omega
    rw [ex, z1]; exact ⟨hb0, rfl, rfl⟩
  · obtain rfl : p = 1 := by omega
    rw [ex, z2]; exact ⟨hb0, rfl, rfl⟩
  · obtain rfl : p = 2 := by omega
    rw [ex, z3]; exact ⟨hb0, rfl, rfl⟩
  · obtain rfl : p = 3 := by omega
    rw [ex, z4]; exact ⟨hb0, rfl, rfl⟩
theorem t_Voice_writingOf {G : cx_T} {s w e R p : Nat} {h : ah_T} {μ : pm_T} (hb0 : hb s h) (H : Evc μ R w e h) (hp : 4 ≤ p ∧ p ≤ 8) : con G 1 0 0 m_Voice_writingOf [av_R (some w), av_I (e : Int), av_I (p : Int)] h (fun r h' => hb s h' ∧ h' = h ∧ r = some (av_I (μ (R + p) e))) := by
  have he := H.2.1
  have hM := H.2.2.2.1.2.1
  obtain ⟨b, q, y1, yq, y2, u1, u2, ⟨w1, w2, w3⟩, k⟩ := Evc_q H
  obtain ⟨-, -, -, -, y3, -⟩ := H.2.2.1
  refine c_Voice_writingOf H.1 hb0 (fun _ _ => ?_)
  unfold B_Voice_writingOf_0 B_Voice_writingOf_51
  rw [tn_c]
  refine ⟨fun c => ?_, fun c => ?_, fun c => ⟨by omega, fun x ex _ _ => ?_⟩, fun c => ?_, fun c => ⟨by omega, fun x ex _ _ => ?_⟩⟩
  · obtain rfl : p = 4 := by omega
    refine con_mono (t_Voice_pitchesOf hb0 H) ?_
    rintro r h2 ⟨hb2, rfl, rfl⟩
    exact ⟨_, rfl, hb2, hb2, rfl, rfl⟩
  · obtain rfl : p = 5 := by omega
    refine con_mono (t_Voice_isTied hb0 H) ?_
    rintro r h2 ⟨hb2, rfl, rfl⟩
    refine ⟨_, rfl, hb2, fun c => ?_, fun c => ?_⟩
    · rw [c]; exact ⟨hb2, rfl, rfl⟩
    · have : μ (R + 5) e = 1 := by omega
      rw [this]; exact ⟨hb2, rfl, rfl⟩
  · obtain rfl : p = 6 := by omega
    rw [ex, y3]; exact ⟨hb0, rfl, rfl⟩
  · obtain rfl : p = 7 := by omega
    refine con_mono (t_Voice_numberOf hb0 H) ?_
    rintro r h2 ⟨hb2, rfl, rfl⟩
    exact ⟨_, rfl, hb2, hb2, rfl, rfl⟩
  · obtain rfl : p = 8 := by omega
    obtain rfl : x = (b : Int) := ex.trans y2
    refine ⟨by omega, ?_⟩
    rw [tn_c]
    intro x17 e17 _ _
    rw [e17, w3]; exact ⟨hb0, rfl, rfl⟩
