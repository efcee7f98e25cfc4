/-! ===== judge, the class: what is heard of one event ===== -/
abbrev pt (μ : pm_T) (n e : Nat) : Int := μ (100 + 40 * n + 4) e
abbrev ky (μ : pm_T) (n e p : Nat) : Int := μ (100 + 40 * n + (10 + p)) e
/-- the score in use, with what is known of it -/
def CV (μ : pm_T) (c : Nat) (h : ah_T) : Prop := isS c ∧ CKn μ c h ∧ GM μ ∧ ∀ v, isV v → ∀ b, h.2.1 (v + 3) b ≤ 300
theorem isV_l {v : Nat} (hv : isV v) : v + 13 < 143 := by unfold isV at hv; omega
theorem CV_f {μ : pm_T} {c : Nat} {h h' : ah_T} {W : Nat → Nat → Prop} (H : CV μ c h) (f : fr W h h') (hW : ∀ a k, W a k → 143 ≤ a) : CV μ c h' := by
  obtain ⟨hc, C, G, q⟩ := H
  refine ⟨hc, CKn_f C f (fun a k w => ?_), G, fun v hv b => ?_⟩
  · have := hW a k w
    unfold isS at hc
    omega
  · have := isV_l hv
    rw [fr_g f (fun w => by have := hW _ _ w; omega)]
    exact q v hv b
theorem CV_e {μ : pm_T} {c n e : Nat} {h : ah_T} (H : CV μ c h) (hn : (n : Int) < μ 0 7) (he : (e : Int) < μ (10 + n) 0) : Evc μ (100 + 40 * n) (c + 7 + 14 * n) e h := by
  obtain ⟨hc, C, G, q⟩ := H
  have b4 := G.1.1.2
  have hv : isV (c + 7 + 14 * n) := vS hc (by omega)
  have M := (G.2.2 n hn)
  exact ⟨hv, by have := M.1; omega, (C.2.2.2.2.2 n hn).1.2.2.1 e he, M.2.2.2.1 e he, q _ hv⟩
theorem CV_v {μ : pm_T} {c n : Nat} {h : ah_T} (H : CV μ c h) (hn : (n : Int) < μ 0 7) : isV (c + 7 + 14 * n) ∧ h.2.1 (c + 7 + 14 * n) 14 = μ (10 + n) 0 ∧ h.2.1 (c + 7 + 14 * n) 16 = μ (10 + n) 1 ∧ (0 ≤ μ (10 + n) 0 ∧ μ (10 + n) 0 ≤ 300) ∧ (1 ≤ μ (10 + n) 1 ∧ μ (10 + n) 1 ≤ 101) ∧ n < 4 := by
  obtain ⟨hc, C, G, q⟩ := H
  have b4 := G.1.1.2
  have V := (C.2.2.2.2.2 n hn).1
  have M := G.2.2 n hn
  exact ⟨vS hc (by omega), V.1.1, V.1.2, M.1, M.2.1, by omega⟩
/-- STARTS in the cells; behind the last event the end -/
theorem CV_t {μ : pm_T} {c n e : Nat} {h : ah_T} (H : CV μ c h) (hn : (n : Int) < μ 0 7) (he : (e : Int) ≤ μ (10 + n) 0) : h.2.2.1 (c + 7 + 14 * n + 9) e = smT μ n e ∧ h.2.2.1 (c + 7 + 14 * n + 10) e = smB μ n e := by
  obtain ⟨hc, C, G, q⟩ := H
  have V := (C.2.2.2.2.2 n hn).1
  unfold smT smB
  by_cases x : (e : Int) < μ (10 + n) 0
  · rw [if_pos x, if_pos x]
    obtain ⟨b, q, y1, y2, y3, ⟨z1, z2, z3, z4⟩, -⟩ := V.2.2.1 e x
    exact ⟨z1, z2⟩
  · rw [if_neg x, if_neg x]
    have := V.2.1
    rw [show (μ (10 + n) 0).toNat = e by omega] at this
    exact this
theorem CV_b {μ : pm_T} {c n b : Nat} {h : ah_T} (H : CV μ c h) (hn : (n : Int) < μ 0 7) (hb : (b : Int) ≤ μ (10 + n) 1) : h.2.1 (c + 7 + 14 * n + 13) b = (brE μ n b : Int) := by
  obtain ⟨hc, C, G, q⟩ := H
  have V := (C.2.2.2.2.2 n hn).1
  have M := G.2.2 n hn
  unfold brE
  split
  · rename_i x
    rw [V.2.2.2.1 b x]
    have := M.2.2.2.2 b x
    omega
  · have := V.2.2.2.2
    rw [show (μ (10 + n) 1).toNat = b by omega] at this
    rw [this]
    have := M.1
    omega
section
variable {G : cx_T} {s c n e : Nat} {h : ah_T} {μ : pm_T}
theorem j_isRest (hb0 : hb s h) (H : CV μ c h) (hn : (n : Int) < μ 0 7) (he : (e : Int) < μ (10 + n) 0) : con G 1 0 0 m_Voice_isRest [av_R (some (c + 7 + 14 * n)), av_I (e : Int)] h (fun r h' => ∃ z : Int, r = some (av_I z) ∧ hb s h' ∧ h' = h ∧ (z = 0 ↔ 1 ≤ pt μ n e)) := by
  have E := CV_e H hn he
  have hM := E.2.2.2.1.1
  refine c_Voice_isRest E.1 hb0 (fun _ => ?_)
  unfold B_Voice_isRest_0 B_Voice_isRest_13
  refine con_mono (t_Voice_pitchesOf hb0 E) ?_
  rintro r h2 ⟨hb2, rfl, rfl⟩
  unfold pt
  exact ⟨_, rfl, hb2, fun q => ⟨Or.inr rfl, 1, rfl, hb2, rfl, by omega⟩, fun q => ⟨Or.inl rfl, 0, rfl, hb2, rfl, by omega⟩⟩
theorem j_lowest (hb0 : hb s h) (H : CV μ c h) (hn : (n : Int) < μ 0 7) (he : (e : Int) < μ (10 + n) 0) (hp : 1 ≤ pt μ n e) : con G 1 0 0 m_Voice_lowestKey [av_R (some (c + 7 + 14 * n)), av_I (e : Int)] h (fun r h' => ∃ z : Int, r = some (av_I z) ∧ hb s h' ∧ h' = h ∧ z = ky μ n e 0) := by
  have E := CV_e H hn he
  refine c_Voice_lowestKey E.1 hb0 (fun _ => ?_)
  unfold B_Voice_lowestKey_0
  unfold pt at hp
  refine con_mono (t_Voice_keyOf hb0 E (p := 0) (by omega)) ?_
  rintro r h2 ⟨hb2, rfl, rfl⟩
  exact ⟨_, rfl, hb2, _, rfl, hb2, rfl, rfl⟩
theorem j_highest (hb0 : hb s h) (H : CV μ c h) (hn : (n : Int) < μ 0 7) (he : (e : Int) < μ (10 + n) 0) (hp : 1 ≤ pt μ n e) : con G 1 0 0 m_Voice_highestKey [av_R (some (c + 7 + 14 * n)), av_I (e : Int)] h (fun r h' => ∃ z : Int, r = some (av_I z) ∧ hb s h' ∧ h' = h ∧ z = ky μ n e (pt μ n e - 1).toNat) := by
  have E := CV_e H hn he
  have hM := E.2.2.2.1.1
  refine c_Voice_highestKey E.1 hb0 (fun _ => ?_)
  unfold B_Voice_highestKey_0
  unfold pt at hp ⊢
  refine con_mono (t_Voice_pitchesOf hb0 E) ?_
  rintro r h2 ⟨hb2, rfl, rfl⟩
  refine ⟨_, rfl, hb2, ⟨by omega, by omega⟩, ?_⟩
  have hc : ((μ (100 + 40 * n + 4) e - 1).toNat : Int) = μ (100 + 40 * n + 4) e - 1 := by omega
  rw [← hc]
  refine con_mono (t_Voice_keyOf hb2 E (p := (μ (100 + 40 * n + 4) e - 1).toNat) (by omega)) ?_
  rintro r h3 ⟨hb3, rfl, rfl⟩
  exact ⟨_, rfl, hb3, _, rfl, hb3, rfl, by rw [hc]⟩
/-- an event has this KEY -/
def Hky (μ : pm_T) (n e : Nat) (key : Int) : Prop := ∃ k : Nat, (k : Int) < pt μ n e ∧ ky μ n e k = key
theorem j_hasKey {key : Int} (hb0 : hb s h) (H : CV μ c h) (hn : (n : Int) < μ 0 7) (he : (e : Int) < μ (10 + n) 0) : con G 1 0 0 m_Voice_hasKey [av_R (some (c + 7 + 14 * n)), av_I (e : Int), av_I key] h (fun r h' => ∃ z : Int, r = some (av_I z) ∧ hb s h' ∧ h' = h ∧ ((z = 0 ∧ ¬ Hky μ n e key) ∨ (z = 1 ∧ Hky μ n e key))) := by
  have E := CV_e H hn he
  have hM := E.2.2.2.1.1
  refine c_Voice_hasKey E.1 (X2 := fun v3 hh => hh = h ∧ ∃ k : Nat, v3 = (k : Int) ∧ (k : Int) ≤ pt μ n e ∧ ∀ j, j < k → ky μ n e j ≠ key) ?_ hb0 (fun _ _ => ?_)
  · refine lp_Voice_hasKey_2 E.1 _ (fun v3 _ => (5 - v3).toNat) ?_
    rintro v3 hh hb1 ⟨rfl, k, rfl, hk, no⟩
    unfold B_Voice_hasKey_2
    refine con_mono (t_Voice_pitchesOf hb1 E) ?_
    rintro r h2 ⟨hb2, rfl, rfl⟩
    unfold pt at hk
    refine ⟨_, rfl, hb2, fun q => ⟨0, rfl, hb2, rfl, Or.inl ⟨rfl, ?_⟩⟩, fun q => ?_⟩
    · rintro ⟨j, j1, j2⟩
      unfold pt at j1
      exact no j (by omega) j2
    · refine con_mono (t_Voice_keyOf hb2 E (p := k) (by omega)) ?_
      rintro r h3 ⟨hb3, rfl, rfl⟩
      refine ⟨_, rfl, hb3, fun q2 => ⟨1, rfl, hb3, rfl, Or.inr ⟨rfl, k, by unfold pt; omega, q2⟩⟩, fun q2 => ⟨⟨by omega, by omega⟩, ⟨rfl, k + 1, by omega, by unfold pt; omega, fun j hj => ?_⟩, by omega⟩⟩
      by_cases cj : j = k
      · subst cj; exact q2
      · exact no j (by omega)
  · unfold B_Voice_hasKey_0
    exact ⟨rfl, 0, rfl, by unfold pt; omega, fun j hj => by omega⟩
/-- a tie that is held -/
def Hld (μ : pm_T) (n e : Nat) : Prop := (e : Int) + 1 < μ (10 + n) 0 ∧ ∀ k : Nat, (k : Int) < pt μ n e → Hky μ n (e + 1) (ky μ n e k)
theorem j_isHeld (hb0 : hb s h) (H : CV μ c h) (hn : (n : Int) < μ 0 7) (he : (e : Int) < μ (10 + n) 0) : con G 2 0 0 m_Judge_isHeld [av_R (some (c + 7 + 14 * n)), av_I (e : Int)] h (fun r h' => ∃ z : Int, r = some (av_I z) ∧ hb s h' ∧ h' = h ∧ ((z = 0 ∧ ¬ Hld μ n e) ∨ (z = 1 ∧ Hld μ n e))) := by
  have E := CV_e H hn he
  have hM := E.2.2.2.1.1
  obtain ⟨hv, h14, -, hE, -⟩ := CV_v H hn
  refine c_Judge_isHeld hv (X14 := fun v2 hh => hh = h ∧ (e : Int) + 1 < μ (10 + n) 0 ∧ ∃ k : Nat, v2 = (k : Int) ∧ (k : Int) ≤ pt μ n e ∧ ∀ j, j < k → Hky μ n (e + 1) (ky μ n e j)) ?_ hb0 (fun _ => ?_)
  · refine lp_Judge_isHeld_14 hv _ (fun v2 _ => (5 - v2).toNat) ?_
    rintro v2 hh hb1 ⟨rfl, hl, k, rfl, hk, al⟩
    unfold B_Judge_isHeld_14
    refine con_mono (t_Voice_pitchesOf hb1 E) ?_
    rintro r h2 ⟨hb2, rfl, rfl⟩
    unfold pt at hk
    refine ⟨_, rfl, hb2, fun q => ⟨1, rfl, hb2, rfl, Or.inr ⟨rfl, hl, fun j hj => al j (by unfold pt at hj; omega)⟩⟩, fun q => ⟨⟨by omega, by omega⟩, ?_⟩⟩
    refine con_mono (t_Voice_keyOf hb2 E (p := k) (by omega)) ?_
    rintro r h3 ⟨hb3, rfl, rfl⟩
    refine ⟨_, rfl, hb3, ?_⟩
    refine con_mono (j_hasKey (e := e + 1) hb3 H hn hl) ?_
    rintro r h4 ⟨z, rfl, hb4, rfl, x⟩
    refine ⟨_, rfl, hb4, fun q2 => ⟨0, rfl, hb4, rfl, Or.inl ⟨rfl, fun q3 => ?_⟩⟩, fun q2 => ⟨⟨by omega, by omega⟩, ⟨rfl, hl, k + 1, by omega, by unfold pt; omega, fun j hj => ?_⟩, by omega⟩⟩
    · rcases x with ⟨-, x⟩ | ⟨x, -⟩
      · exact x (q3.2 k (by unfold pt; omega))
      · omega
    · by_cases cj : j = k
      · subst cj
        rcases x with ⟨x, -⟩ | ⟨-, x⟩
        · exact absurd x q2
        · exact x
      · exact al j (by omega)
  · unfold B_Judge_isHeld_0
    refine ⟨⟨by omega, by omega⟩, fun x2 e2 _ _ => ?_⟩
    have ex : x2 = μ (10 + n) 0 := e2.trans h14
    subst ex
    exact ⟨fun q => ⟨rfl, q, 0, rfl, by unfold pt; omega, fun j hj => by omega⟩, fun q => ⟨0, rfl, hb0, rfl, Or.inl ⟨rfl, fun w => q w.1⟩⟩⟩
end
