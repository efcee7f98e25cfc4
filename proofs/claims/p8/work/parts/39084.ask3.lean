/-! ===== event of both ===== -/
theorem evv_n {μ : pm_T} {n e : Nat} {w : Int} (hn : (n : Int) < μ 0 7) (he : (e : Int) < μ (10 + n) 0) : evv μ n e w = (if 0 ≤ w ∧ w ≤ 8 then μ (100 + 40 * n + w.toNat) e
     else if 10 ≤ w ∧ w < 10 + μ (100 + 40 * n + 4) e then μ (100 + 40 * n + w.toNat) e
     else if 20 ≤ w ∧ w < 20 + μ (100 + 40 * n + 4) e then μ (100 + 40 * n + w.toNat) e else 10000) := by
  unfold evv
  rw [tn_c, tn_c, if_pos ⟨⟨by omega, hn⟩, by omega, he⟩]
theorem evv_o {μ : pm_T} {v e w : Int} (h : ¬ ((0 ≤ v ∧ v < μ 0 7) ∧ (0 ≤ e ∧ e < μ (10 + v.toNat) 0))) : evv μ v e w = 10000 := by
  unfold evv
  rw [if_neg h]
theorem e_PM_event {G : cx_T} {s : Nat} {h : ah_T} {μ : pm_T} {v e w : Int} (hx : xi s h) (hm : mi h) (H : CKn μ (97 - s) h) : con G 2 0 0 m_PM_event [av_R (some 0), av_I v, av_I e, av_I w] h (fun r h' => ∃ z, r = some (av_L z) ∧ h = h' ∧ z = evv μ v e w) := by
  have hb0 := hb_xm hx hm
  have hs := hx.2.1
  have hc : isS (97 - s) := by unfold isS at *; omega
  have V := H.2.2.2.2.2
  have b4 := H.2.1.2.2.2
  refine c_PM_event hb0 (fun _ _ _ => ?_)
  unfold B_PM_event_0 B_PM_event_28 B_PM_event_49 B_PM_event_69 B_PM_event_106 B_PM_event_143
  refine con_mono (t_Score_voiceAt hb0 hc H) ?_
  rintro r h2 ⟨hb2, rfl, ⟨q1, q2, rfl⟩ | ⟨q1, rfl⟩⟩
  · obtain ⟨n, rfl⟩ : ∃ n : Nat, v = n := ⟨v.toNat, by omega⟩
    rw [tn_c]
    have hv := vS (n := n) hc (by omega)
    refine ⟨_, rfl, hb2, Or.inr ⟨_, rfl, hv, fun c => ⟨_, rfl, rfl, (evv_o (by omega)).symm⟩, fun c x5 e5 _ _ => ?_⟩⟩
    have ex5 : x5 = μ (10 + n) 0 := e5.trans (V n q2).1.1.1
    subst ex5
    refine ⟨fun c5 => ?_, fun c5 => ⟨_, rfl, rfl, (evv_o (by rw [tn_c]; omega)).symm⟩⟩
    obtain ⟨k, rfl⟩ : ∃ k : Nat, e = k := ⟨e.toNat, by omega⟩
    have hk := (V n q2).2.1
    have Ev : Evc μ (100 + 40 * n) (97 - s + 7 + 14 * n) k h2 := ⟨hv, by omega, (V n q2).1.2.2.1 k c5, (V n q2).2.2.2.2.1 k c5, fun b => by
      have hl : 97 - s + 7 + 14 * n + 3 < 170 := by unfold isV at hv; omega
      have := (hx.2.2.2.2.2.2.1 (97 - s + 7 + 14 * n + 3) b hl).2
      rw [rgV hv] at this
      exact this⟩
    have hM := Ev.2.2.2.1.1
    rw [evv_n q2 c5]
    have out : ∀ {x : Int}, ¬ (0 ≤ w ∧ w ≤ 8) → ¬ (10 ≤ w ∧ w < 10 + μ (100 + 40 * n + 4) k) → ¬ (20 ≤ w ∧ w < 20 + μ (100 + 40 * n + 4) k) → x = 10000 → x = (if 0 ≤ w ∧ w ≤ 8 then μ (100 + 40 * n + w.toNat) k else if 10 ≤ w ∧ w < 10 + μ (100 + 40 * n + 4) k then μ (100 + 40 * n + w.toNat) k else if 20 ≤ w ∧ w < 20 + μ (100 + 40 * n + 4) k then μ (100 + 40 * n + w.toNat) k else 10000) := fun g1 g2 g3 g4 => by rw [if_neg g1, if_neg g2, if_neg g3, g4]
    by_cases w0 : w < 0
    · exact ⟨fun _ => ⟨fun _ => ⟨fun _ => ⟨fun _ => ⟨_, rfl, rfl, out (by omega) (by omega) (by omega) rfl⟩, fun c => by omega⟩, fun c => by omega⟩, fun c => by omega⟩, fun c => by omega⟩
    obtain ⟨p, rfl⟩ : ∃ p : Nat, w = p := ⟨w.toNat, by omega⟩
    rw [tn_c]
    rw [tn_c] at out
    have F69 : ¬ (p : Int) ≤ 8 → B_PM_event_69 G s n k p (97 - s + 7 + 14 * n) h2 (fun r h' => ∃ z, r = some (av_L z) ∧ h2 = h' ∧ z = (if 0 ≤ (p : Int) ∧ (p : Int) ≤ 8 then μ (100 + 40 * n + p) k else if 10 ≤ (p : Int) ∧ (p : Int) < 10 + μ (100 + 40 * n + 4) k then μ (100 + 40 * n + p) k else if 20 ≤ (p : Int) ∧ (p : Int) < 20 + μ (100 + 40 * n + 4) k then μ (100 + 40 * n + p) k else 10000)) := by
      intro c8
      unfold B_PM_event_69 B_PM_event_106 B_PM_event_143
      have F106 : ¬ (10 ≤ (p : Int) ∧ (p : Int) < 10 + μ (100 + 40 * n + 4) k) → _ := fun c10 => (show B_PM_event_106 G s n k p (97 - s + 7 + 14 * n) h2 (fun r h' => ∃ z, r = some (av_L z) ∧ h2 = h' ∧ z = (if 0 ≤ (p : Int) ∧ (p : Int) ≤ 8 then μ (100 + 40 * n + p) k else if 10 ≤ (p : Int) ∧ (p : Int) < 10 + μ (100 + 40 * n + 4) k then μ (100 + 40 * n + p) k else if 20 ≤ (p : Int) ∧ (p : Int) < 20 + μ (100 + 40 * n + 4) k then μ (100 + 40 * n + p) k else 10000)) by
        unfold B_PM_event_106 B_PM_event_143
        refine ⟨fun c => ⟨_, rfl, rfl, out (by omega) c10 (by omega) rfl⟩, fun c => ⟨fun c1 => ⟨_, rfl, rfl, out (by omega) c10 (by omega) rfl⟩, fun c1 => ⟨⟨by omega, by omega⟩, ?_⟩⟩⟩
        refine con_mono (t_Voice_pitchesOf hb2 Ev) ?_
        rintro r h3 ⟨hb3, rfl, rfl⟩
        refine ⟨_, rfl, hb3, fun c2 => ⟨_, rfl, rfl, out (by omega) c10 (by omega) rfl⟩, fun c2 => ?_⟩
        obtain ⟨g, rfl⟩ : ∃ g : Nat, p = 20 + g := ⟨p - 20, by omega⟩
        rw [show ((20 + g : Nat) : Int) - 20 = (g : Int) by omega]
        refine con_mono (t_Voice_stepOf hb3 Ev (p := g) (by omega)) ?_
        rintro r h4 ⟨hb4, rfl, rfl⟩
        exact ⟨_, rfl, hb4, _, rfl, rfl, by rw [if_neg (by omega), if_neg c10, if_pos (by omega)]⟩)
      unfold B_PM_event_106 B_PM_event_143 at F106
      refine ⟨fun c => F106 (by omega), fun c => ⟨fun c1 => F106 (by omega), fun c1 => ⟨⟨by omega, by omega⟩, ?_⟩⟩⟩
      refine con_mono (t_Voice_pitchesOf hb2 Ev) ?_
      rintro r h3 ⟨hb3, rfl, rfl⟩
      refine ⟨_, rfl, hb3, fun c2 => F106 (by omega), fun c2 => ?_⟩
      obtain ⟨g, rfl⟩ : ∃ g : Nat, p = 10 + g := ⟨p - 10, by omega⟩
      rw [show ((10 + g : Nat) : Int) - 10 = (g : Int) by omega]
      refine con_mono (t_Voice_keyOf hb3 Ev (p := g) (by omega)) ?_
      rintro r h4 ⟨hb4, rfl, rfl⟩
      exact ⟨_, rfl, hb4, _, rfl, rfl, by rw [if_neg (by omega), if_pos (by omega)]⟩
    unfold B_PM_event_69 B_PM_event_106 B_PM_event_143 at F69
    refine ⟨fun c => by omega, fun _ => ⟨fun c3 => ⟨fun c => by omega, fun _ => ⟨fun c8 => F69 (by omega), fun c8 => ?_⟩⟩, fun c3 => ?_⟩⟩
    · refine con_mono (t_Voice_writingOf hb2 Ev (p := p) (by omega)) ?_
      rintro r h3 ⟨hb3, rfl, rfl⟩
      exact ⟨_, rfl, hb3, _, rfl, rfl, by rw [if_pos (by omega)]⟩
    · refine con_mono (t_Voice_timeOf hb2 Ev (p := p) (by omega)) ?_
      rintro r h3 ⟨hb3, rfl, rfl⟩
      exact ⟨_, rfl, hb3, _, rfl, rfl, by rw [if_pos (by omega)]⟩
  · exact ⟨_, rfl, hb2, Or.inl ⟨rfl, _, rfl, rfl, (evv_o (fun c => q1 c.1)).symm⟩⟩
theorem e_MD_event_IIIJ {G : cx_T} {s : Nat} {h : ah_T} {μ : pm_T} {v e w : Int} (hx : xi s h) (hm : mi h) (H : SRq μ h) : con G 1 0 0 m_MD_event_IIIJ [av_R (some 170), av_I v, av_I e, av_I w] h (fun r h' => ∃ z, r = some (av_L z) ∧ h = h' ∧ z = evv μ v e w) := by
  have hb0 := hb_xm hx hm
  obtain ⟨K, -⟩ := H
  have V := K.2.2.2.2.2
  have b4 := K.2.1.2.2.2
  refine c_MD_event_IIIJ hb0 (fun _ _ _ => ?_)
  unfold B_MD_event_IIIJ_0 B_MD_event_IIIJ_22 B_MD_event_IIIJ_144
  refine con_mono (t_MD_isVoice hb0 K) ?_
  rintro r h2 ⟨hb2, rfl, rfl⟩
  refine ⟨_, rfl, hb2, fun c => ⟨_, rfl, rfl, (evv_o (fun q => ?_)).symm⟩, fun c => ?_⟩
  · rw [if_pos q.1] at c
    exact absurd c (by decide)
  have q : 0 ≤ v ∧ v < μ 0 7 := by
    split at c
    · assumption
    · exact absurd rfl c
  obtain ⟨n, rfl⟩ : ∃ n : Nat, v = n := ⟨v.toNat, by omega⟩
  refine ⟨fun c => ⟨_, rfl, rfl, (evv_o (by omega)).symm⟩, fun c => ⟨by omega, ?_⟩⟩
  rw [tn_c]
  intro x5 e5 _ _
  have ex5 : x5 = μ (10 + n) 0 := e5.trans (V n q.2).1.1
  subst ex5
  refine ⟨fun c5 => ⟨⟨by omega, by omega⟩, ⟨?_, ?_⟩, ?_⟩, fun c5 => ⟨_, rfl, rfl, (evv_o (by rw [tn_c]; omega)).symm⟩⟩
  all_goals obtain ⟨k, rfl⟩ : ∃ k : Nat, e = k := ⟨e.toNat, by omega⟩
  all_goals have hk := (V n q.2).2.1.1
  · omega
  · omega
  obtain ⟨⟨y4, y5, y6, y7, y8, y9⟩, ⟨z0, z1, z2, z3⟩, hM, P⟩ := (V n q.2).2.2.1 k c5
  rw [evv_n q.2 c5, show ((300 * (n : Int) + (k : Int))).toNat = 300 * n + k by omega]
  have go : ∀ {x : Int} (p : Nat), w = p → p ≤ 8 → x = μ (100 + 40 * n + p) k → x = (if 0 ≤ w ∧ w ≤ 8 then μ (100 + 40 * n + w.toNat) k else if 10 ≤ w ∧ w < 10 + μ (100 + 40 * n + 4) k then μ (100 + 40 * n + w.toNat) k else if 20 ≤ w ∧ w < 20 + μ (100 + 40 * n + 4) k then μ (100 + 40 * n + w.toNat) k else 10000) := fun p g1 g2 g3 => by
    subst g1
    rw [if_pos (by omega), tn_c, g3]
  have out : ∀ {x : Int}, ¬ (0 ≤ w ∧ w ≤ 8) → ¬ (10 ≤ w ∧ w < 10 + μ (100 + 40 * n + 4) k) → ¬ (20 ≤ w ∧ w < 20 + μ (100 + 40 * n + 4) k) → x = 10000 → x = (if 0 ≤ w ∧ w ≤ 8 then μ (100 + 40 * n + w.toNat) k else if 10 ≤ w ∧ w < 10 + μ (100 + 40 * n + 4) k then μ (100 + 40 * n + w.toNat) k else if 20 ≤ w ∧ w < 20 + μ (100 + 40 * n + 4) k then μ (100 + 40 * n + w.toNat) k else 10000) := fun g1 g2 g3 g4 => by rw [if_neg g1, if_neg g2, if_neg g3, g4]
  have F208 : ¬ (0 ≤ w ∧ w ≤ 8) → ¬ (10 ≤ w ∧ w < 10 + μ (100 + 40 * n + 4) k) → B_MD_event_IIIJ_208 G s n k w (300 * (n : Int) + (k : Int)) h2 (fun r h' => ∃ z, r = some (av_L z) ∧ h2 = h' ∧ z = (if 0 ≤ w ∧ w ≤ 8 then μ (100 + 40 * n + w.toNat) k else if 10 ≤ w ∧ w < 10 + μ (100 + 40 * n + 4) k then μ (100 + 40 * n + w.toNat) k else if 20 ≤ w ∧ w < 20 + μ (100 + 40 * n + 4) k then μ (100 + 40 * n + w.toNat) k else 10000)) := by
    intro c8 c10
    unfold B_MD_event_IIIJ_208 B_MD_event_IIIJ_246 B_MD_event_IIIJ_249
    refine ⟨fun c => ⟨_, rfl, rfl, out c8 c10 (by omega) rfl⟩, fun c => ⟨by omega, ?_⟩⟩
    rw [show ((300 * (n : Int) + (k : Int))).toNat = 300 * n + k by omega]
    intro x2 e2 _ _
    obtain rfl : x2 = μ (100 + 40 * n + 4) k := e2.trans y4
    refine ⟨⟨by omega, by omega⟩, fun c1 => ⟨_, rfl, rfl, out c8 c10 (by omega) rfl⟩, fun c1 => ?_⟩
    obtain ⟨g, rfl⟩ : ∃ g : Nat, w = ((20 + g : Nat) : Int) := ⟨(w - 20).toNat, by omega⟩
    refine ⟨⟨by omega, by omega⟩, ⟨by omega, by omega⟩, ⟨by omega, by omega⟩, by omega, ?_⟩
    rw [show (4 * (300 * (n : Int) + (k : Int)) + ((20 + g : Nat) : Int) - 20).toNat = 4 * (300 * n + k) + g by omega]
    intro x9 e9 _ _
    refine ⟨_, rfl, rfl, ?_⟩
    rw [e9, (P g (by omega)).2, if_neg (by omega), if_neg (by omega), if_pos (by omega), tn_c]
  refine ⟨fun c => ⟨by omega, fun x ex _ _ => ⟨_, rfl, rfl, go 0 c (by decide) (ex.trans z0)⟩⟩, fun c => ⟨by omega, fun x ex _ _ => ⟨_, rfl, rfl, go 1 c (by decide) (ex.trans z1)⟩⟩, fun c => ⟨by omega, fun x ex _ _ => ⟨_, rfl, rfl, go 2 c (by decide) (ex.trans z2)⟩⟩, fun c => ⟨by omega, fun x ex _ _ => ⟨_, rfl, rfl, go 3 c (by decide) (ex.trans z3)⟩⟩, fun c => ⟨by omega, fun x ex _ _ => ⟨_, rfl, rfl, go 4 c (by decide) (ex.trans y4)⟩⟩, fun c => ⟨by omega, fun x ex ex01 => ⟨fun c1 => ⟨_, rfl, rfl, go 5 c (by decide) (by rw [← y5, ← ex, c1])⟩, fun c1 => ⟨_, rfl, rfl, go 5 c (by decide) (by rw [← y5, ← ex]; omega)⟩⟩⟩, fun c => ⟨by omega, fun x ex _ _ => ⟨_, rfl, rfl, go 6 c (by decide) (ex.trans y6)⟩⟩, fun c => ⟨by omega, fun x ex _ _ => ⟨_, rfl, rfl, go 7 c (by decide) (ex.trans y7)⟩⟩, fun c => ⟨by omega, fun x ex _ _ => ⟨_, rfl, rfl, go 8 c (by decide) (ex.trans y8)⟩⟩, fun c => ⟨fun c1 => F208 (by omega) (by omega), fun c1 => ⟨by omega, fun x37 e37 _ _ => ?_⟩⟩⟩
  obtain rfl : x37 = μ (100 + 40 * n + 4) k := e37.trans y4
  refine ⟨⟨by omega, by omega⟩, fun c2 => F208 (by omega) (by omega), fun c2 => ?_⟩
  obtain ⟨g, rfl⟩ : ∃ g : Nat, w = ((10 + g : Nat) : Int) := ⟨(w - 10).toNat, by omega⟩
  refine ⟨⟨by omega, by omega⟩, ⟨by omega, by omega⟩, ⟨by omega, by omega⟩, by omega, ?_⟩
  rw [show (1200 * (n : Int) + 4 * (k : Int) + ((10 + g : Nat) : Int) - 10).toNat = 4 * (300 * n + k) + g by omega]
  intro x44 e44 _ _
  refine ⟨_, rfl, rfl, ?_⟩
  rw [e44, (P g (by omega)).1, if_neg (by omega), if_pos (by omega), tn_c]
