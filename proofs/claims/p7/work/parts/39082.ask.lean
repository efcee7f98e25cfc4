/-! ===== the askers of both: place, told, count ===== -/
theorem e_PM_place {G : cx_T} {s : Nat} {h : ah_T} (hx : xi s h) (hm : mi h) (_ : EX s h) : con G 0 0 0 m_PM_place [av_R (some 0)] h (fun r h' => ∃ z, r = some (av_I z) ∧ h = h' ∧ z = h.2.1 0 4) := by
  refine c_PM_place (hb_xm hx hm) ?_
  unfold B_PM_place_0
  exact fun x1 e1 _ _ => ⟨x1, rfl, rfl, e1⟩
theorem e_MD_place {G : cx_T} {s : Nat} {h : ah_T} (hx : xi s h) (hm : mi h) (E : EX s h) : con G 0 0 0 m_MD_place [av_R (some 170)] h (fun r h' => ∃ z, r = some (av_I z) ∧ h = h' ∧ z = h.2.1 0 4) := by
  refine c_MD_place (hb_xm hx hm) ?_
  unfold B_MD_place_0
  exact fun x1 e1 _ _ => ⟨x1, rfl, rfl, e1.trans E.2.1.symm⟩
/-- the most bars of the first n voices -/
def mbr (μ : pm_T) : Nat → Int
  | 0 => 0
  | n + 1 => if mbr μ n < μ (10 + n) 1 then μ (10 + n) 1 else mbr μ n
theorem mbr_0 {μ : pm_T} : ∀ n, 0 ≤ mbr μ n
  | 0 => Int.le_refl _
  | n + 1 => by
    have := mbr_0 (μ := μ) n
    rw [mbr]
    split <;> omega
def toldv (μ : pm_T) (a : Int) : Int := if a = 0 then μ 0 7 else if a = 1 then μ 0 3 else if a = 2 then μ 0 4 else if a = 3 then μ 0 5 else if a = 4 then mbr μ (μ 0 7).toNat else if a = 5 then μ 0 1 else if a = 6 then μ 0 2 else -1
theorem t_Score_mostBars {G : cx_T} {s c : Nat} {h : ah_T} {μ : pm_T} (hb0 : hb s h) (hc : isS c) (H : CKn μ c h) : con G 1 0 0 m_Score_mostBars [av_R (some c)] h (fun r h' => hb s h' ∧ h' = h ∧ r = some (av_I (mbr μ (μ 0 7).toNat))) := by
  have h1 := H.1.1
  have b := H.2.1.2.2.2
  have V := H.2.2.2.2.2
  refine c_Score_mostBars hc (X4 := fun v1 v2 hh => hh = h ∧ ∃ n : Nat, v2 = (n : Int) ∧ (n : Int) ≤ μ 0 7 ∧ v1 = mbr μ n) ?_ hb0 ?_
  · refine lp_Score_mostBars_4 hc _ (fun _ v2 _ => (5 - v2).toNat) ?_
    rintro v1 v2 hh hb1 ⟨rfl, n, rfl, hn, rfl⟩
    unfold B_Score_mostBars_4
    intro x1 e1 _ _
    have ex1 : x1 = μ 0 7 := e1.trans h1
    subst ex1
    refine ⟨fun q => ⟨hb1, rfl, ?_⟩, fun q => ?_⟩
    · have : (μ 0 7).toNat = n := by omega
      rw [this]
    · refine con_mono (t_Score_voiceAt hb1 hc H) ?_
      rintro r h2 ⟨hb2, rfl, ⟨q1, q2, rfl⟩ | ⟨q1, -⟩⟩
      · rw [tn_c]
        refine ⟨_, rfl, hb2, Or.inr ⟨_, rfl, ?_, fun x5 e5 _ _ => ?_⟩⟩
        · unfold isV; unfold isS at hc; omega
        · have ex5 : x5 = μ (10 + n) 1 := e5.trans (V n q2).1.1.2
          unfold B_Score_mostBars_31
          intro x6 e6 _ _
          exact ⟨⟨by omega, by omega⟩, ⟨rfl, n + 1, by omega, by omega, by rw [mbr, e6, ex5]⟩, by omega⟩
      · omega
  · unfold B_Score_mostBars_0
    exact ⟨rfl, 0, rfl, b.1, rfl⟩
theorem e_PM_told {G : cx_T} {s : Nat} {h : ah_T} {μ : pm_T} {a : Int} (hx : xi s h) (hm : mi h) (H : CKn μ (97 - s) h) : con G 2 0 0 m_PM_told [av_R (some 0), av_I a] h (fun r h' => ∃ z, r = some (av_I z) ∧ h = h' ∧ z = toldv μ a) := by
  have hb0 := hb_xm hx hm
  have hs := hx.2.1
  have hc : isS (97 - s) := by unfold isS at *; omega
  have H' := H
  obtain ⟨⟨a7, a1, a2, a3, a4, a5⟩, -⟩ := H'
  refine c_PM_told hb0 (fun _ => ?_)
  unfold B_PM_told_0 toldv
  refine ⟨fun c x e _ _ => ⟨_, rfl, rfl, ?_⟩, fun c x e _ _ => ⟨_, rfl, rfl, ?_⟩, fun c x e _ _ => ⟨_, rfl, rfl, ?_⟩, fun c x e _ _ => ⟨_, rfl, rfl, ?_⟩, fun c => ?_, fun c x e _ _ => ⟨_, rfl, rfl, ?_⟩, fun c x e _ _ => ⟨_, rfl, rfl, ?_⟩, fun c => ⟨_, rfl, rfl, ?_⟩⟩
  · rw [if_pos c]; exact e.trans a7
  · rw [if_neg (by omega), if_pos c]; exact e.trans a3
  · rw [if_neg (by omega), if_neg (by omega), if_pos c]; exact e.trans a4
  · rw [if_neg (by omega), if_neg (by omega), if_neg (by omega), if_pos c]; exact e.trans a5
  · refine con_mono (t_Score_mostBars hb0 hc H) ?_
    rintro r h2 ⟨hb2, rfl, rfl⟩
    refine ⟨_, rfl, hb2, _, rfl, rfl, ?_⟩
    rw [if_neg (by omega), if_neg (by omega), if_neg (by omega), if_neg (by omega), if_pos c]
  · rw [if_neg (by omega), if_neg (by omega), if_neg (by omega), if_neg (by omega), if_neg (by omega), if_pos c]; exact e.trans a1
  · rw [if_neg (by omega), if_neg (by omega), if_neg (by omega), if_neg (by omega), if_neg (by omega), if_neg (by omega), if_pos c]; exact e.trans a2
  · rw [if_neg (by omega), if_neg (by omega), if_neg (by omega), if_neg (by omega), if_neg (by omega), if_neg (by omega), if_neg (by omega)]
theorem t_MD_pageBars {G : cx_T} {s : Nat} {h : ah_T} {μ : pm_T} (hb0 : hb s h) (H : KSn μ h) : con G 0 0 0 m_MD_pageBars [av_R (some 170)] h (fun r h' => hb s h' ∧ h' = h ∧ r = some (av_I (mbr μ (μ 0 7).toNat))) := by
  have h1 := H.1.1
  have b := H.2.1.2.2.2
  have V := H.2.2.2.2.2
  refine c_MD_pageBars (X4 := fun v1 v2 hh => hh = h ∧ ∃ n : Nat, v2 = (n : Int) ∧ (n : Int) ≤ μ 0 7 ∧ v1 = mbr μ n) ?_ hb0 ?_
  · refine lp_MD_pageBars_4 _ (fun _ v2 _ => (5 - v2).toNat) ?_
    rintro v1 v2 hh hb1 ⟨rfl, n, rfl, hn, rfl⟩
    unfold B_MD_pageBars_4 B_MD_pageBars_34
    intro x2 e2 _ _
    have ex2 : x2 = μ 0 7 := e2.trans h1
    subst ex2
    refine ⟨fun q => ⟨hb1, rfl, ?_⟩, fun q => ⟨by omega, ?_⟩⟩
    · have : (μ 0 7).toNat = n := by omega
      rw [this]
    · rw [tn_c]
      intro x4 e4 _ _
      have ex4 : x4 = μ (10 + n) 1 := e4.trans (V n (by omega)).1.2
      refine ⟨fun c => ⟨⟨by omega, by omega⟩, ⟨rfl, n + 1, by omega, by omega, ?_⟩, by omega⟩, fun c => ⟨⟨by omega, by omega⟩, ⟨rfl, n + 1, by omega, by omega, ?_⟩, by omega⟩⟩
      · rw [mbr, if_neg (by omega)]
      · rw [mbr, if_pos (by omega)]; exact ex4
  · unfold B_MD_pageBars_0
    exact ⟨rfl, 0, rfl, b.1, rfl⟩
theorem e_MD_told {G : cx_T} {s : Nat} {h : ah_T} {μ : pm_T} {a : Int} (hx : xi s h) (hm : mi h) (H : SRq μ h) : con G 1 0 0 m_MD_told [av_R (some 170), av_I a] h (fun r h' => ∃ z, r = some (av_I z) ∧ h = h' ∧ z = toldv μ a) := by
  have hb0 := hb_xm hx hm
  obtain ⟨K, t1, t2, -⟩ := H
  have K' := K
  obtain ⟨⟨a7, a3, a4, a5⟩, -⟩ := K'
  refine c_MD_told hb0 (fun _ => ?_)
  unfold B_MD_told_0 B_MD_told_96 B_MD_told_116 toldv
  refine ⟨fun c x e _ _ => ⟨_, rfl, rfl, ?_⟩, fun c x e _ _ => ⟨_, rfl, rfl, ?_⟩, fun c x e _ _ => ⟨_, rfl, rfl, ?_⟩, fun c x e _ _ => ⟨_, rfl, rfl, ?_⟩, fun c => ?_, fun c x e _ _ => ⟨fun c0 => ⟨_, rfl, rfl, ?_⟩, fun c0 => ⟨_, rfl, rfl, ?_⟩⟩, fun c x e _ _ => ⟨fun c0 => ⟨_, rfl, rfl, ?_⟩, fun c0 => ⟨_, rfl, rfl, ?_⟩⟩, fun c => ⟨_, rfl, rfl, ?_⟩⟩
  · rw [if_pos c]; exact e.trans a7
  · rw [if_neg (by omega), if_pos c]; exact e.trans a3
  · rw [if_neg (by omega), if_neg (by omega), if_pos c]; exact e.trans a4
  · rw [if_neg (by omega), if_neg (by omega), if_neg (by omega), if_pos c]; exact e.trans a5
  · refine con_mono (t_MD_pageBars hb0 K) ?_
    rintro r h2 ⟨hb2, rfl, rfl⟩
    refine ⟨_, rfl, hb2, _, rfl, rfl, ?_⟩
    rw [if_neg (by omega), if_neg (by omega), if_neg (by omega), if_neg (by omega), if_pos c]
  · rw [if_neg (by omega), if_neg (by omega), if_neg (by omega), if_neg (by omega), if_neg (by omega), if_pos c, ← t1, ← e]; unfold tmo; rw [if_pos c0]
  · rw [if_neg (by omega), if_neg (by omega), if_neg (by omega), if_neg (by omega), if_neg (by omega), if_pos c, ← t1, ← e]; unfold tmo; rw [if_neg c0]
  · rw [if_neg (by omega), if_neg (by omega), if_neg (by omega), if_neg (by omega), if_neg (by omega), if_neg (by omega), if_pos c, ← t2, ← e]; unfold tmo; rw [if_pos c0]
  · rw [if_neg (by omega), if_neg (by omega), if_neg (by omega), if_neg (by omega), if_neg (by omega), if_neg (by omega), if_pos c, ← t2, ← e]; unfold tmo; rw [if_neg c0]
  · rw [if_neg (by omega), if_neg (by omega), if_neg (by omega), if_neg (by omega), if_neg (by omega), if_neg (by omega), if_neg (by omega)]
def countv (μ : pm_T) (v w : Int) : Int := if 0 ≤ v ∧ v < μ 0 7 then (if w = 0 then μ (10 + v.toNat) 0 else if w = 1 then μ (10 + v.toNat) 1 else -1) else -1
theorem e_PM_count {G : cx_T} {s : Nat} {h : ah_T} {μ : pm_T} {v w : Int} (hx : xi s h) (hm : mi h) (H : CKn μ (97 - s) h) : con G 1 0 0 m_PM_count [av_R (some 0), av_I v, av_I w] h (fun r h' => ∃ z, r = some (av_I z) ∧ h = h' ∧ z = countv μ v w) := by
  have hb0 := hb_xm hx hm
  have hs := hx.2.1
  have hc : isS (97 - s) := by unfold isS at *; omega
  have V := H.2.2.2.2.2
  have b := H.2.1.2.2.2
  refine c_PM_count hb0 (fun _ _ => ?_)
  unfold B_PM_count_0 B_PM_count_37 countv
  refine con_mono (t_Score_voiceAt hb0 hc H) ?_
  rintro r h2 ⟨hb2, rfl, ⟨q1, q2, rfl⟩ | ⟨q1, rfl⟩⟩
  · have hv : ((v.toNat : Nat) : Int) < μ 0 7 := by omega
    refine ⟨_, rfl, hb2, Or.inr ⟨_, rfl, vS hc (by omega), fun c x e _ _ => ⟨_, rfl, rfl, ?_⟩, fun c => ⟨fun c1 x e _ _ => ⟨_, rfl, rfl, ?_⟩, fun c1 => ⟨_, rfl, rfl, ?_⟩⟩⟩⟩
    · rw [if_pos ⟨q1, q2⟩, if_pos c]; exact e.trans (V _ hv).1.1.1
    · rw [if_pos ⟨q1, q2⟩, if_neg c, if_pos c1]; exact e.trans (V _ hv).1.1.2
    · rw [if_pos ⟨q1, q2⟩, if_neg c, if_neg c1]
  · exact ⟨_, rfl, hb2, Or.inl ⟨rfl, _, rfl, rfl, by rw [if_neg q1]⟩⟩
theorem t_MD_isVoice {G : cx_T} {s : Nat} {h : ah_T} {μ : pm_T} {v : Int} (hb0 : hb s h) (H : KSn μ h) : con G 0 0 0 m_MD_isVoice [av_R (some 170), av_I v] h (fun r h' => hb s h' ∧ h' = h ∧ r = some (av_I (if 0 ≤ v ∧ v < μ 0 7 then 1 else 0))) := by
  refine c_MD_isVoice hb0 (fun _ => ?_)
  unfold B_MD_isVoice_0 B_MD_isVoice_18 B_MD_isVoice_19
  refine ⟨fun c => ⟨Or.inl rfl, hb0, rfl, by rw [if_neg (by omega)]⟩, fun c x e _ _ => ?_⟩
  have ex : x = μ 0 7 := e.trans H.1.1
  exact ⟨fun c1 => ⟨Or.inl rfl, hb0, rfl, by rw [if_neg (by omega)]⟩, fun c1 => ⟨Or.inr rfl, hb0, rfl, by rw [if_pos (by omega)]⟩⟩
theorem e_MD_count {G : cx_T} {s : Nat} {h : ah_T} {μ : pm_T} {v w : Int} (hx : xi s h) (hm : mi h) (H : SRq μ h) : con G 1 0 0 m_MD_count [av_R (some 170), av_I v, av_I w] h (fun r h' => ∃ z, r = some (av_I z) ∧ h = h' ∧ z = countv μ v w) := by
  have hb0 := hb_xm hx hm
  obtain ⟨K, -⟩ := H
  have V := K.2.2.2.2.2
  have b := K.2.1.2.2.2
  refine c_MD_count hb0 (fun _ _ => ?_)
  unfold B_MD_count_0 B_MD_count_17 B_MD_count_38 countv
  refine con_mono (t_MD_isVoice hb0 K) ?_
  rintro r h2 ⟨hb2, rfl, rfl⟩
  refine ⟨_, rfl, hb2, fun c => ⟨_, rfl, rfl, ?_⟩, fun c => ?_⟩
  · split at c
    · exact absurd c (by decide)
    · rename_i q
      rw [if_neg q]
  · have q : 0 ≤ v ∧ v < μ 0 7 := by
      split at c
      · assumption
      · exact absurd rfl c
    have hv : ((v.toNat : Nat) : Int) < μ 0 7 := by omega
    rw [if_pos q]
    refine ⟨fun c1 => ⟨_, rfl, rfl, ?_⟩, fun c1 => ⟨fun c2 => ⟨fun c3 => ⟨by omega, fun x e _ _ => ⟨_, rfl, rfl, ?_⟩⟩, fun c3 => ⟨by omega, fun x e _ _ => ⟨_, rfl, rfl, ?_⟩⟩⟩, fun c2 => ⟨_, rfl, rfl, ?_⟩⟩⟩
    · rw [if_neg (by omega), if_neg (by omega)]
    · rw [if_pos c3]; exact e.trans (V _ hv).1.1
    · rw [if_neg c3, if_pos (by omega)]; exact e.trans (V _ hv).1.2
    · rw [if_neg (by omega), if_neg (by omega)]
