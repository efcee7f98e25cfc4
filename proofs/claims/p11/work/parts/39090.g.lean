/-! ===== judge, the class: what is heard of one event ===== -/
abbrev pt (μ : pm_T) (n e : Nat) : Int := μ (100 + 40 * n + 4) e
abbrev ky (μ : pm_T) (n e p : Nat) : Int := μ (100 + 40 * n + (10 + p)) e
/-- the score in use, with what is known of it -/
def CV (μ : pm_T) (c : Nat) (h : ah_T) : Prop := isS c ∧ CKn μ c h ∧ GM μ ∧ ∀ v, isV v → ∀ b, h.2.1 (v + 3) b ≤ 300
theorem isV_l {v : Nat} (hv : isV v) : v + 13 < 143 := by unfold isV at hv; omega
theorem CV_f {μ : pm_T} {c : Nat} {h h' : ah_T} {W : Nat → Nat → Prop} (H : CV μ c h) (f : fr W h h') (hW : ∀ a k, W a k → 143 ≤ a) : CV μ c h' := by
  obtain ⟨hc, C, G, q⟩ := H
  refine ⟨hc, CKn_f C f (fun a k w => ?_), G, fun v hv b => ?_⟩
  · have := hW a k w
    unfold isS at hc
    omega
  · have := isV_l hv
    rw [fr_g f (fun w => by have := hW _ _ w; omega)]
    exact q v hv b
theorem CV_e {μ : pm_T} {c n e : Nat} {h : ah_T} (H : CV μ c h) (hn : (n : Int) < μ 0 7) (he : (e : Int) < μ (10 + n) 0) : Evc μ (100 + 40 * n) (c + 7 + 14 * n) e h := by
  obtain ⟨hc, C, G, q⟩ := H
  have b4 := G.1.1.2
  have hv : isV (c + 7 + 14 * n) := vS hc (by omega)
  have M := (G.2.2 n hn)
  exact ⟨hv, by have := M.1; omega, (C.2.2.2.2.2 n hn).1.2.2.1 e he, M.2.2.2.1 e he, q _ hv⟩
theorem CV_v {μ : pm_T} {c n : Nat} {h : ah_T} (H : CV μ c h) (hn : (n : Int) < μ 0 7) : isV (c + 7 + 14 * n) ∧ h.2.1 (c + 7 + 14 * n) 14 = μ (10 + n) 0 ∧ h.2.1 (c + 7 + 14 * n) 16 = μ (10 + n) 1 ∧ (0 ≤ μ (10 + n) 0 ∧ μ (10 + n) 0 ≤ 300) ∧ (1 ≤ μ (10 + n) 1 ∧ μ (10 + n) 1 ≤ 101) ∧ n < 4 := by
  obtain ⟨hc, C, G, q⟩ := H
  have b4 := G.1.1.2
  have V := (C.2.2.2.2.2 n hn).1
  have M := G.2.2 n hn
  exact ⟨vS hc (by omega), V.1.1, V.1.2, M.1, M.2.1, by omega⟩
/-- STARTS in the cells; behind the last event the end -/
theorem CV_t {μ : pm_T} {c n e : Nat} {h : ah_T} (H : CV μ c h) (hn : (n : Int) < μ 0 7) (he : (e : Int) ≤ μ (10 + n) 0) : h.2.2.1 (c + 7 + 14 * n + 9) e = smT μ n e ∧ h.2.2.1 (c + 7 + 14 * n + 10) e = smB μ n e := by
  obtain ⟨hc, C, G, q⟩ := H
  have V := (C.2.2.2.2.2 n hn).1
  unfold smT smB
  by_cases x : (e : Int) < μ (10 + n) 0
  · rw [if_pos x, if_pos x]
    obtain ⟨b, q, y1, y2, y3, ⟨z1, z2, z3, z4⟩, -⟩ := V.2.2.1 e x
    exact ⟨z1, z2⟩
  · rw [if_neg x, if_neg x]
    have := V.2.1
    rw [show (μ (10 + n) 0).toNat = e by omega] at this
    exact this
theorem CV_b {μ : pm_T} {c n b : Nat} {h : ah_T} (H : CV μ c h) (hn : (n : Int) < μ 0 7) (hb : (b : Int) ≤ μ (10 + n) 1) : h.2.1 (c + 7 + 14 * n + 13) b = (brE μ n b : Int) := by
  obtain ⟨hc, C, G, q⟩ := H
  have V := (C.2.2.2.2.2 n hn).1
  have M := G.2.2 n hn
  unfold brE
  split
  · rename_i x
    rw [V.2.2.2.1 b x]
    have := M.2.2.2.2 b x
    omega
  · have := V.2.2.2.2
    rw [show (μ (10 + n) 1).toNat = b by omega] at this
    rw [this]
    have := M.1
    omega
section
variable {G : cx_T} {s c n e : Nat} {h : ah_T} {μ : pm_T}
theorem j_isRest (hb0 : hb s h) (H : CV μ c h) (hn : (n : Int) < μ 0 7) (he : (e : Int) < μ (10 + n) 0) : con G 1 0 0 m_Voice_isRest [av_R (some (c + 7 + 14 * n)), av_I (e : Int)] h (fun r h' => ∃ z : Int, r = some (av_I z) ∧ hb s h' ∧ h' = h ∧ (z = 0 ↔ 1 ≤ pt μ n e)) := by
  have E := CV_e H hn he
  have hM := E.2.2.2.1.1
  refine c_Voice_isRest E.1 hb0 (fun _ => ?_)
  unfold B_Voice_isRest_0 B_Voice_isRest_13
  refine con_mono (t_Voice_pitchesOf hb0 E) ?_
  rintro r h2 ⟨hb2, rfl, rfl⟩
  unfold pt
  exact ⟨_, rfl, hb2, fun q => ⟨Or.inr rfl, 1, rfl, hb2, rfl, by omega⟩, fun q => ⟨Or.inl rfl, 0, rfl, hb2, rfl, by omega⟩⟩
theorem j_lowest (hb0 : hb s h) (H : CV μ c h) (hn : (n : Int) < μ 0 7) (he : (e : Int) < μ (10 + n) 0) (hp : 1 ≤ pt μ n e) : con G 1 0 0 m_Voice_lowestKey [av_R (some (c + 7 + 14 * n)), av_I (e : Int)] h (fun r h' => ∃ z : Int, r = some (av_I z) ∧ hb s h' ∧ h' = h ∧ z = ky μ n e 0) := by
  have E := CV_e H hn he
  refine c_Voice_lowestKey E.1 hb0 (fun _ => ?_)
  unfold B_Voice_lowestKey_0
  unfold pt at hp
  refine con_mono (t_Voice_keyOf hb0 E (p := 0) (by omega)) ?_
  rintro r h2 ⟨hb2, rfl, rfl⟩
  exact ⟨_, rfl, hb2, _, rfl, hb2, rfl, rfl⟩
theorem j_highest (hb0 : hb s h) (H : CV μ c h) (hn : (n : Int) < μ 0 7) (he : (e : Int) < μ (10 + n) 0) (hp : 1 ≤ pt μ n e) : con G 1 0 0 m_Voice_highestKey [av_R (some (c + 7 + 14 * n)), av_I (e : Int)] h (fun r h' => ∃ z : Int, r = some (av_I z) ∧ hb s h' ∧ h' = h ∧ z = ky μ n e (pt μ n e - 1).toNat) := by
  have E := CV_e H hn he
  have hM := E.2.2.2.1.1
  refine c_Voice_highestKey E.1 hb0 (fun _ => ?_)
  unfold B_Voice_highestKey_0
  unfold pt at hp ⊢
  refine con_mono (t_Voice_pitchesOf hb0 E) ?_
  rintro r h2 ⟨hb2, rfl, rfl⟩
  refine ⟨_, rfl, hb2, ⟨by omega, by omega⟩, ?_⟩
  have hc : ((μ (100 + 40 * n + 4) e - 1).toNat : Int) = μ (100 + 40 * n + 4) e - 1 := by omega
  rw [← hc]
  refine con_mono (t_Voice_keyOf hb2 E (p := (μ (100 + 40 * n + 4) e - 1).toNat) (by omega)) ?_
  rintro r h3 ⟨hb3, rfl, rfl⟩
  exact ⟨_, rfl, hb3, _, rfl, hb3, rfl, by rw [hc]⟩
/-- an event has this KEY -/
def Hky (μ : pm_T) (n e : Nat) (key : Int) : Prop := ∃ k : Nat, (k : Int) < pt μ n e ∧ ky μ n e k = key
theorem j_hasKey {key : Int} (hb0 : hb s h) (H : CV μ c h) (hn : (n : Int) < μ 0 7) (he : (e : Int) < μ (10 + n) 0) : con G 1 0 0 m_Voice_hasKey [av_R (some (c + 7 + 14 * n)), av_I (e : Int), av_I key] h (fun r h' => ∃ z : Int, r = some (av_I z) ∧ hb s h' ∧ h' = h ∧ ((z = 0 ∧ ¬ Hky μ n e key) ∨ (z = 1 ∧ Hky μ n e key))) := by
  have E := CV_e H hn he
  have hM := E.2.2.2.1.1
  refine c_Voice_hasKey E.1 (X2 := fun v3 hh => hh = h ∧ ∃ k : Nat, v3 = (k : Int) ∧ (k : Int) ≤ pt μ n e ∧ ∀ j, j < k → ky μ n e j ≠ key) ?_ hb0 (fun _ _ => ?_)
  · refine lp_Voice_hasKey_2 E.1 _ (fun v3 _ => (5 - v3).toNat) ?_
    rintro v3 hh hb1 ⟨rfl, k, rfl, hk, no⟩
    unfold B_Voice_hasKey_2
    refine con_mono (t_Voice_pitchesOf hb1 E) ?_
    rintro r h2 ⟨hb2, rfl, rfl⟩
    unfold pt at hk
    refine ⟨_, rfl, hb2, fun q => ⟨0, rfl, hb2, rfl, Or.inl ⟨rfl, ?_⟩⟩, fun q => ?_⟩
    · rintro ⟨j, j1, j2⟩
      unfold pt at j1
      exact no j (by omega) j2
    · refine con_mono (t_Voice_keyOf hb2 E (p := k) (by omega)) ?_
      rintro r h3 ⟨hb3, rfl, rfl⟩
      refine ⟨_, rfl, hb3, fun q2 => ⟨1, rfl, hb3, rfl, Or.inr ⟨rfl, k, by unfold pt; omega, q2⟩⟩, fun q2 => ⟨⟨by omega, by omega⟩, ⟨rfl, k + 1, by omega, by unfold pt; omega, fun j hj => ?_⟩, by omega⟩⟩
      by_cases cj : j = k
      · subst cj; exact q2
      · exact no j (by omega)
  · unfold B_Voice_hasKey_0
    exact ⟨rfl, 0, rfl, by unfold pt; omega, fun j hj => by omega⟩
/-- a tie that is held -/
def Hld (μ : pm_T) (n e : Nat) : Prop := (e : Int) + 1 < μ (10 + n) 0 ∧ ∀ k : Nat, (k : Int) < pt μ n e → Hky μ n (e + 1) (ky μ n e k)
theorem j_isHeld (hb0 : hb s h) (H : CV μ c h) (hn : (n : Int) < μ 0 7) (he : (e : Int) < μ (10 + n) 0) : con G 2 0 0 m_Judge_isHeld [av_R (some (c + 7 + 14 * n)), av_I (e : Int)] h (fun r h' => ∃ z : Int, r = some (av_I z) ∧ hb s h' ∧ h' = h ∧ ((z = 0 ∧ ¬ Hld μ n e) ∨ (z = 1 ∧ Hld μ n e))) := by
  have E := CV_e H hn he
  have hM := E.2.2.2.1.1
  obtain ⟨hv, h14, -, hE, -⟩ := CV_v H hn
  refine c_Judge_isHeld hv (X14 := fun v2 hh => hh = h ∧ (e : Int) + 1 < μ (10 + n) 0 ∧ ∃ k : Nat, v2 = (k : Int) ∧ (k : Int) ≤ pt μ n e ∧ ∀ j, j < k → Hky μ n (e + 1) (ky μ n e j)) ?_ hb0 (fun _ => ?_)
  · refine lp_Judge_isHeld_14 hv _ (fun v2 _ => (5 - v2).toNat) ?_
    rintro v2 hh hb1 ⟨rfl, hl, k, rfl, hk, al⟩
    unfold B_Judge_isHeld_14
    refine con_mono (t_Voice_pitchesOf hb1 E) ?_
    rintro r h2 ⟨hb2, rfl, rfl⟩
    unfold pt at hk
    refine ⟨_, rfl, hb2, fun q => ⟨1, rfl, hb2, rfl, Or.inr ⟨rfl, hl, fun j hj => al j (by unfold pt at hj; omega)⟩⟩, fun q => ⟨⟨by omega, by omega⟩, ?_⟩⟩
    refine con_mono (t_Voice_keyOf hb2 E (p := k) (by omega)) ?_
    rintro r h3 ⟨hb3, rfl, rfl⟩
    refine ⟨_, rfl, hb3, ?_⟩
    refine con_mono (j_hasKey (e := e + 1) hb3 H hn hl) ?_
    rintro r h4 ⟨z, rfl, hb4, rfl, x⟩
    refine ⟨_, rfl, hb4, fun q2 => ⟨0, rfl, hb4, rfl, Or.inl ⟨rfl, fun q3 => ?_⟩⟩, fun q2 => ⟨⟨by omega, by omega⟩, ⟨rfl, hl, k + 1, by omega, by unfold pt; omega, fun j hj => ?_⟩, by omega⟩⟩
    · rcases x with ⟨-, x⟩ | ⟨x, -⟩
      · exact x (q3.2 k (by unfold pt; omega))
      · omega
    · by_cases cj : j = k
      · subst cj
        rcases x with ⟨x, -⟩ | ⟨-, x⟩
        · exact absurd x q2
        · exact x
      · exact al j (by omega)
  · unfold B_Judge_isHeld_0
    refine ⟨⟨by omega, by omega⟩, fun x2 e2 _ _ => ?_⟩
    have ex : x2 = μ (10 + n) 0 := e2.trans h14
    subst ex
    exact ⟨fun q => ⟨rfl, q, 0, rfl, by unfold pt; omega, fun j hj => by omega⟩, fun q => ⟨0, rfl, hb0, rfl, Or.inl ⟨rfl, fun w => q w.1⟩⟩⟩
end

/-! ===== judge, the class: two voices; a BAR ===== -/
theorem pr_b {a b d : Int} (h : 0 ≤ a ∧ a ≤ 1000 * b) (hb : 1 ≤ b ∧ b ≤ 1000000) (hd : 1 ≤ d ∧ d ≤ 1000000) : 0 ≤ a * d ∧ a * d ≤ 1000000000000000 := by
  have h1 : 0 ≤ a * d := Int.mul_nonneg h.1 (by omega)
  have h2 : a * d ≤ 1000000000 * 1000000 := Int.mul_le_mul (by omega) hd.2 (by omega) (by omega)
  omega
/-- an event of this voice sounds lower than this one does at its highest, while both last -/
def CRo (μ : pm_T) (o n e j : Nat) : Prop := (j : Int) < μ (10 + o) 0 ∧ 1 ≤ pt μ o j ∧ SL μ n e o (j + 1) ∧ SL μ o j n (e + 1) ∧ ky μ o j 0 < ky μ n e (pt μ n e - 1).toNat
def CRs (μ : pm_T) (o n e : Nat) : Prop := 1 ≤ pt μ n e ∧ ∃ j, CRo μ o n e j
/-- the first event of the other voice that has not ended -/
def SNe (μ : pm_T) (o n e i : Nat) : Prop := (i : Int) ≤ μ (10 + o) 0 ∧ (∀ j, j < i → SE μ o (j + 1) n e) ∧ ((i : Int) < μ (10 + o) 0 → SL μ n e o (i + 1))
section
variable {G : cx_T} {s c n e : Nat} {h : ah_T} {μ : pm_T}
theorem j_compare {o i : Nat} (hb0 : hb s h) (H : CV μ c h) (ho : (o : Int) < μ 0 7) (hi : (i : Int) ≤ μ (10 + o) 0) (hn : (n : Int) < μ 0 7) (he : (e : Int) ≤ μ (10 + n) 0) : con G 1 0 0 m_Judge_compareStarts [av_R (some (c + 7 + 14 * o)), av_I (i : Int), av_R (some (c + 7 + 14 * n)), av_I (e : Int)] h (fun r h' => ∃ z : Int, r = some (av_I z) ∧ hb s h' ∧ h' = h ∧ (z < 0 ↔ SL μ o i n e) ∧ (0 < z ↔ SL μ n e o i)) := by
  obtain ⟨hv, -, -, hE, -⟩ := CV_v H hn
  obtain ⟨hvo, -, -, hO, -⟩ := CV_v H ho
  obtain ⟨t1, t2⟩ := CV_t H ho hi
  obtain ⟨t3, t4⟩ := CV_t H hn he
  have b1 := GM_b H.2.2.1 ho i
  have b2 := GM_b H.2.2.1 hn e
  refine c_Judge_compareStarts hvo hv hb0 (fun _ _ => ?_)
  unfold B_Judge_compareStarts_0
  refine ⟨by omega, ?_⟩
  rw [tn_c, tn_c]
  intro x2 e2 _ _
  obtain rfl := e2.trans t1
  refine ⟨by omega, fun x5 e5 _ _ x7 e7 => ?_⟩
  obtain rfl := e5.trans t4
  have p1 := pr_b b1.1 b1.2 b2.2
  refine ⟨by omega, fun x10 e10 _ _ x12 e12 _ _ x13 e13 => ?_⟩
  obtain rfl := e10.trans t3
  obtain rfl := e12.trans t2
  have p2 := pr_b b2.1 b2.2 b1.2
  refine ⟨by omega, ?_⟩
  refine con_mono s_JLong_compare ?_
  rintro r h2 ⟨z, rfl, z1, ⟨q1, q2, q3⟩, rfl⟩
  refine ⟨z, rfl, hb0, z, rfl, hb0, rfl, ?_⟩
  unfold SL
  omega
theorem j_first {o i : Nat} (hb0 : hb s h) (H : CV μ c h) (ho : (o : Int) < μ 0 7) (hi : (i : Int) ≤ μ (10 + o) 0) (hn : (n : Int) < μ 0 7) (he : (e : Int) < μ (10 + n) 0) (hs : ∀ j, j < i → SE μ o (j + 1) n e) : con G 2 0 0 m_Judge_firstNotEnded [av_R (some (c + 7 + 14 * o)), av_I (i : Int), av_R (some (c + 7 + 14 * n)), av_I (e : Int)] h (fun r h' => ∃ k : Nat, r = some (av_I (k : Int)) ∧ hb s h' ∧ h' = h ∧ SNe μ o n e k) := by
  obtain ⟨hv, -, -, hE, -⟩ := CV_v H hn
  obtain ⟨hvo, h14, -, hO, -⟩ := CV_v H ho
  refine c_Judge_firstNotEnded hvo hv (X3 := fun v4 hh => hh = h ∧ ∃ k : Nat, v4 = (k : Int) ∧ (k : Int) ≤ μ (10 + o) 0 ∧ ∀ j, j < k → SE μ o (j + 1) n e) ?_ hb0 (fun _ _ => ?_)
  · refine lp_Judge_firstNotEnded_3 (a1 := (i : Int)) hvo hv _ (fun v4 _ => (301 - v4).toNat) ?_
    rintro v4 hh hb1 ⟨rfl, k, rfl, hk, al⟩
    unfold B_Judge_firstNotEnded_3 B_Judge_firstNotEnded_31
    intro x1 e1 _ _
    have ex := e1.trans h14
    subst ex
    refine ⟨fun q => ⟨k, rfl, hb1, rfl, hk, al, fun q2 => by omega⟩, fun q => ⟨⟨by omega, by omega⟩, ?_⟩⟩
    rw [show (k : Int) + 1 = ((k + 1 : Nat) : Int) by omega]
    refine con_mono (j_compare hb1 H ho (i := k + 1) (by omega) hn (Int.le_of_lt he)) ?_
    rintro r h2 ⟨z, rfl, hb2, rfl, z1, z2⟩
    refine ⟨z, rfl, hb2, fun q2 => ⟨k, rfl, hb2, rfl, hk, al, fun _ => z2.mp q2⟩, fun q2 => ⟨⟨rfl, k + 1, rfl, by omega, fun j hj => ?_⟩, by omega⟩⟩
    by_cases cj : j = k
    · subst cj
      exact SL_n.mp (fun w => q2 (z2.mpr w))
    · exact al j (by omega)
  · unfold B_Judge_firstNotEnded_0
    exact ⟨rfl, i, rfl, hi, hs⟩
theorem j_crossed {o i : Nat} (hb0 : hb s h) (H : CV μ c h) (ho : (o : Int) < μ 0 7) (hn : (n : Int) < μ 0 7) (he : (e : Int) < μ (10 + n) 0) (hS : SNe μ o n e i) : con G 2 0 0 m_Judge_isCrossed [av_R (some (c + 7 + 14 * o)), av_I (i : Int), av_R (some (c + 7 + 14 * n)), av_I (e : Int)] h (fun r h' => ∃ z : Int, r = some (av_I z) ∧ hb s h' ∧ h' = h ∧ ((z = 0 ∧ ¬ CRs μ o n e) ∨ (z = 1 ∧ CRs μ o n e))) := by
  obtain ⟨hv, -, -, hE, -⟩ := CV_v H hn
  obtain ⟨hvo, h14, -, hO, -⟩ := CV_v H ho
  have GG := H.2.2.1
  refine c_Judge_isCrossed hvo hv (X13 := fun v4 hh => hh = h ∧ 1 ≤ pt μ n e ∧ ∃ k : Nat, v4 = (k : Int) ∧ i ≤ k ∧ (k : Int) ≤ μ (10 + o) 0 ∧ ∀ j, j < k → ¬ CRo μ o n e j) ?_ hb0 (fun _ _ => ?_)
  · refine lp_Judge_isCrossed_13 (a1 := (i : Int)) hvo hv _ (fun v4 _ => (301 - v4).toNat) ?_
    rintro v4 hh hb1 ⟨rfl, hp, k, rfl, hik, hk, al⟩
    unfold B_Judge_isCrossed_13 B_Judge_isCrossed_66 B_Judge_isCrossed_60
    have step : ¬ CRo μ o n e k → ∀ j, j < k + 1 → ¬ CRo μ o n e j := fun q j hj => by
      by_cases cj : j = k
      · subst cj; exact q
      · exact al j (by omega)
    intro x1 e1 _ _
    have ex := e1.trans h14
    subst ex
    refine ⟨fun q => ⟨0, rfl, hb1, rfl, Or.inl ⟨rfl, ?_⟩⟩, fun q => ⟨⟨by omega, by omega⟩, ?_⟩⟩
    · rintro ⟨-, j, hj⟩
      exact al j (by have := hj.1; omega) hj
    have hk' : (k : Int) < μ (10 + o) 0 := by omega
    rw [show (e : Int) + 1 = ((e + 1 : Nat) : Int) by omega]
    refine con_mono (j_compare hb1 H ho (i := k) hk hn (e := e + 1) (by omega)) ?_
    rintro r h2 ⟨z, rfl, hb2, rfl, z1, z2⟩
    refine ⟨z, rfl, hb2, fun q2 => ⟨0, rfl, hb2, rfl, Or.inl ⟨rfl, ?_⟩⟩, fun q2 => ?_⟩
    · rintro ⟨-, j, hj⟩
      by_cases cj : j < k
      · exact al j cj hj
      · have a1 : SE μ n (e + 1) o k := SL_n.mp (fun w => by have := z1.mpr w; omega)
        have a2 := GM_m GG ho (i := k) j (by omega) (Int.le_of_lt hj.1)
        exact SL_n.mpr (SE_le GG hn ho ho a1 a2) hj.2.2.2.1
    have s1 : SL μ o k n (e + 1) := z1.mp (by omega)
    refine con_mono (j_isRest hb2 H ho hk') ?_
    rintro r h3 ⟨y, rfl, hb3, rfl, y1⟩
    refine ⟨y, rfl, hb3, fun q3 => ?_, fun q3 => ⟨⟨by omega, by omega⟩, ⟨rfl, hp, k + 1, by omega, by omega, by omega, step (fun w => q3 (y1.mpr w.2.1))⟩, by omega⟩⟩
    have hpo := y1.mp q3
    refine con_mono (j_lowest hb3 H ho hk' hpo) ?_
    rintro r h4 ⟨lo, rfl, hb4, rfl, l1⟩
    refine ⟨lo, rfl, hb4, ?_⟩
    refine con_mono (j_highest hb4 H hn he hp) ?_
    rintro r h5 ⟨hi, rfl, hb5, rfl, l2⟩
    refine ⟨hi, rfl, hb5, fun q4 => ⟨⟨by omega, by omega⟩, ⟨rfl, hp, k + 1, by omega, by omega, by omega, step (fun w => ?_)⟩, by omega⟩, fun q4 => ⟨1, rfl, hb5, rfl, Or.inr ⟨rfl, hp, k, hk', hpo, ?_, s1, by omega⟩⟩⟩
    · have := w.2.2.2.2
      omega
    · by_cases ck : i = k
      · subst ck
        exact hS.2.2 hk'
      · exact SL_le GG hn ho ho (hS.2.2 (by omega)) (GM_m GG ho (k + 1) (by omega) (by omega))
  · unfold B_Judge_isCrossed_0
    refine con_mono (j_isRest hb0 H hn he) ?_
    rintro r h2 ⟨z, rfl, hb2, rfl, z1⟩
    refine ⟨z, rfl, hb2, fun q => ⟨rfl, z1.mp q, i, rfl, Nat.le_refl _, hS.1, fun j hj w => ?_⟩, fun q => ⟨0, rfl, hb2, rfl, Or.inl ⟨rfl, fun w => q (z1.mpr w.1)⟩⟩⟩
    exact SL_n.mpr (hS.2.1 j hj) w.2.2.1
end

/-! ===== judge, the class: parallels; a BAR that is not whole ===== -/
def PAo (μ : pm_T) (o n e j : Nat) : Prop := (1 ≤ j ∧ (j : Int) < μ (10 + o) 0) ∧ (SE μ o j n e ∧ SE μ n e o j) ∧ (1 ≤ pt μ n e ∧ 1 ≤ pt μ n (e - 1) ∧ 1 ≤ pt μ o j ∧ 1 ≤ pt μ o (j - 1)) ∧
  (ky μ o j 0 - ky μ n e 0) % 12 = (ky μ o (j - 1) 0 - ky μ n (e - 1) 0) % 12 ∧ ((ky μ o j 0 - ky μ n e 0) % 12 = 0 ∨ (ky μ o j 0 - ky μ n e 0) % 12 = 7) ∧ ky μ n e 0 ≠ ky μ n (e - 1) 0
def PAs (μ : pm_T) (o n e : Nat) : Prop := 1 ≤ e ∧ ∃ j, PAo μ o n e j
section
variable {G : cx_T} {s c n e : Nat} {h : ah_T} {μ : pm_T}
theorem ky_b {k p : Nat} (H : GM μ) (hn : (n : Int) < μ 0 7) (he : (e : Int) < μ (10 + n) 0) (hp : (p : Int) < pt μ n e) : -2 ≤ ky μ n e p ∧ ky μ n e p ≤ 109 :=
  ((H.2.2 n hn).2.2.2.1 e he).2.2.2.2.2.2.1 p hp |>.1
theorem PA_i {o i j : Nat} (GG : GM μ) (ho : (o : Int) < μ 0 7) (hn : (n : Int) < μ 0 7) (hS : SNe μ o n e i) (P : PAo μ o n e j) : j = i := by
  obtain ⟨⟨p1, p2⟩, ⟨p3, p4⟩, -⟩ := P
  by_cases c1 : j < i
  · have a := hS.2.1 j c1
    have b := GM_s GG ho p2
    exact absurd (SE_le GG ho hn ho a p4) (SE_n.mpr b)
  · by_cases c2 : i < j
    · have a := hS.2.2 (by omega)
      have b := GM_m GG ho (i := i + 1) j (by omega) (by omega)
      exact absurd (SE_le GG ho ho hn b p3) (SE_n.mpr a)
    · omega
theorem j_parallel {o i : Nat} (hb0 : hb s h) (H : CV μ c h) (ho : (o : Int) < μ 0 7) (hn : (n : Int) < μ 0 7) (he : (e : Int) < μ (10 + n) 0) (hS : SNe μ o n e i) : con G 2 0 0 m_Judge_isParallel [av_R (some (c + 7 + 14 * o)), av_I (i : Int), av_R (some (c + 7 + 14 * n)), av_I (e : Int)] h (fun r h' => ∃ z : Int, r = some (av_I z) ∧ hb s h' ∧ h' = h ∧ ((z = 0 ∧ ¬ PAs μ o n e) ∨ (z = 1 ∧ PAs μ o n e))) := by
  obtain ⟨hv, -, -, hE, -⟩ := CV_v H hn
  obtain ⟨hvo, h14, -, hO, -⟩ := CV_v H ho
  have GG := H.2.2.1
  have uni : PAs μ o n e → 1 ≤ e ∧ PAo μ o n e i := fun ⟨a, j, b⟩ => ⟨a, by rw [PA_i GG ho hn hS b] at b; exact b⟩
  refine c_Judge_isParallel hvo hv hb0 (fun _ _ => ?_)
  unfold B_Judge_isParallel_0 B_Judge_isParallel_28 B_Judge_isParallel_66 B_Judge_isParallel_127 B_Judge_isParallel_146 B_Judge_isParallel_147
  have no : ¬ PAs μ o n e → ∃ z : Int, some (av_I 0) = some (av_I z) ∧ hb s h ∧ h = h ∧ ((z = 0 ∧ ¬ PAs μ o n e) ∨ (z = 1 ∧ PAs μ o n e)) := fun q => ⟨0, rfl, hb0, rfl, Or.inl ⟨rfl, q⟩⟩
  refine ⟨fun q => no (fun w => by have := w.1; omega), fun q => ⟨fun q2 => no (fun w => by have := (uni w).2.1.1; omega), fun q2 x1 e1 _ _ => ?_⟩⟩
  have ex := e1.trans h14
  subst ex
  refine ⟨fun q3 => no (fun w => by have := (uni w).2.1.2; omega), fun q3 => ?_⟩
  refine con_mono (j_compare hb0 H ho (i := i) (by omega) hn (e := e) (by omega)) ?_
  rintro r h2 ⟨z, rfl, hb2, rfl, z1, z2⟩
  refine ⟨z, rfl, hb2, fun q4 => ?_, fun q4 => no (fun w => ?_)⟩
  case refine_2 =>
    have w := (uni w).2.2.1
    by_cases c : z < 0
    · exact absurd w.2 (SE_n.mpr (z1.mp c))
    · exact absurd w.1 (SE_n.mpr (z2.mp (by omega)))
  have eq1 : SE μ n e o i := SL_n.mp (fun w => by have := z1.mpr w; omega)
  have eq2 : SE μ o i n e := SL_n.mp (fun w => by have := z2.mpr w; omega)
  refine con_mono (j_isRest hb2 H hn he) ?_
  rintro r h3 ⟨y, rfl, hb3, rfl, y1⟩
  refine ⟨y, rfl, hb3, fun q5 => ⟨⟨by omega, by omega⟩, ?_⟩, fun q5 => no (fun w => q5 (y1.mpr (uni w).2.2.2.1.1))⟩
  have he1 : ((e - 1 : Nat) : Int) < μ (10 + n) 0 := by omega
  have hi1 : ((i - 1 : Nat) : Int) < μ (10 + o) 0 := by omega
  have hi0 : (i : Int) < μ (10 + o) 0 := by omega
  rw [show (e : Int) - 1 = ((e - 1 : Nat) : Int) by omega]
  rw [show (i : Int) - 1 = ((i - 1 : Nat) : Int) by omega]
  refine con_mono (j_isRest hb3 H hn he1) ?_
  rintro r h4 ⟨y', rfl, hb4, rfl, y2⟩
  refine ⟨y', rfl, hb4, fun q6 => ?_, fun q6 => no (fun w => q6 (y2.mpr (uni w).2.2.2.1.2.1))⟩
  refine con_mono (j_isRest hb4 H ho hi0) ?_
  rintro r h5 ⟨y'', rfl, hb5, rfl, y3⟩
  refine ⟨y'', rfl, hb5, fun q7 => ⟨⟨by omega, by omega⟩, ?_⟩, fun q7 => no (fun w => q7 (y3.mpr (uni w).2.2.2.1.2.2.1))⟩
  refine con_mono (j_isRest hb5 H ho hi1) ?_
  rintro r h6 ⟨y''', rfl, hb6, rfl, y4⟩
  refine ⟨y''', rfl, hb6, fun q8 => ?_, fun q8 => no (fun w => q8 (y4.mpr (uni w).2.2.2.1.2.2.2))⟩
  have p1 := y1.mp q5
  have p2 := y2.mp q6
  have p3 := y3.mp q7
  have p4 := y4.mp q8
  have k1 := ky_b (k := 0) (p := 0) GG hn he (by omega)
  have k2 := ky_b (k := 0) (p := 0) GG hn he1 (by omega)
  have k3 := ky_b (k := 0) (p := 0) GG ho hi0 (by omega)
  have k4 := ky_b (k := 0) (p := 0) GG ho hi1 (by omega)
  refine con_mono (j_lowest hb6 H ho hi0 p3) ?_
  rintro r h7 ⟨a, rfl, hb7, rfl, rfl⟩
  refine ⟨_, rfl, hb7, ?_⟩
  refine con_mono (j_lowest hb7 H hn he p1) ?_
  rintro r h8 ⟨b, rfl, hb8, rfl, rfl⟩
  refine ⟨_, rfl, hb8, ⟨by omega, by omega⟩, ?_⟩
  refine con_mono (s_JMath_floorMod (by decide) (by decide)) ?_
  rintro r h9 ⟨f1, rfl, -, ⟨-, f1e⟩, rfl⟩
  refine ⟨_, rfl, hb8, ?_⟩
  refine con_mono (j_lowest hb8 H ho hi1 p4) ?_
  rintro r h10 ⟨a', rfl, hb10, rfl, rfl⟩
  refine ⟨_, rfl, hb10, ?_⟩
  refine con_mono (j_lowest hb10 H hn he1 p2) ?_
  rintro r h11 ⟨b', rfl, hb11, rfl, rfl⟩
  refine ⟨_, rfl, hb11, ⟨by omega, by omega⟩, ?_⟩
  refine con_mono (s_JMath_floorMod (by decide) (by decide)) ?_
  rintro r h12 ⟨f2, rfl, -, ⟨-, f2e⟩, rfl⟩
  have last : (f1 = 0 ∨ f1 = 7) → f1 = f2 → con G 1 0 0 m_Voice_lowestKey [av_R (some (c + 7 + 14 * n)), av_I (e : Int)] h11 (fun r h1 => ∃ z3 : Int, r = some (av_I z3) ∧ hb s h1 ∧ ((-2147483648) ≤ ((e : Int) - 1) ∧ ((e : Int) - 1) ≤ 2147483647) ∧ con G 1 0 0 m_Voice_lowestKey [av_R (some (c + 7 + 14 * n)), av_I ((e : Int) - 1)] h1 (fun r h5 => ∃ z7 : Int, r = some (av_I z7) ∧ hb s h5 ∧ ((z3 = z7 → (((0 : Int) = 0 ∨ (0 : Int) = 1) ∧ ∃ z : Int, some (av_I 0) = some (av_I z) ∧ hb s h5 ∧ h5 = h11 ∧ ((z = 0 ∧ ¬ PAs μ o n e) ∨ (z = 1 ∧ PAs μ o n e)))) ∧ (¬ z3 = z7 → (((1 : Int) = 0 ∨ (1 : Int) = 1) ∧ ∃ z : Int, some (av_I 1) = some (av_I z) ∧ hb s h5 ∧ h5 = h11 ∧ ((z = 0 ∧ ¬ PAs μ o n e) ∨ (z = 1 ∧ PAs μ o n e))))))) := by
    intro g1 g2
    refine con_mono (j_lowest hb11 H hn he p1) ?_
    rintro r h13 ⟨u, rfl, hb13, rfl, rfl⟩
    refine ⟨_, rfl, hb13, ⟨by omega, by omega⟩, ?_⟩
    rw [show (e : Int) - 1 = ((e - 1 : Nat) : Int) by omega]
    refine con_mono (j_lowest hb13 H hn he1 p2) ?_
    rintro r h14 ⟨u', rfl, hb14, rfl, rfl⟩
    refine ⟨_, rfl, hb14, fun g3 => ⟨Or.inl rfl, 0, rfl, hb14, rfl, Or.inl ⟨rfl, fun w => (uni w).2.2.2.2.2.2 g3⟩⟩, fun g3 => ⟨Or.inr rfl, 1, rfl, hb14, rfl, Or.inr ⟨rfl, by omega, i, ⟨by omega, hi0⟩, ⟨eq2, eq1⟩, ⟨p1, p2, p3, p4⟩, ?_, ?_, g3⟩⟩⟩
    · rw [← f1e, ← f2e]; exact g2
    · rw [← f1e]; exact g1
  refine ⟨_, rfl, hb11, fun g => ⟨fun g2 => ?_, fun g2 => ⟨fun g3 => ?_, fun g3 => ⟨Or.inl rfl, no (fun w => ?_)⟩⟩⟩, fun g => ⟨Or.inl rfl, no (fun w => ?_)⟩⟩
  · have := last (Or.inl g2) g
    rw [show (e : Int) - 1 = ((e - 1 : Nat) : Int) by omega] at this
    exact this
  · have := last (Or.inr g3) g
    rw [show (e : Int) - 1 = ((e - 1 : Nat) : Int) by omega] at this
    exact this
  · have w := (uni w).2.2.2.2.2.1
    rw [← f1e] at w
    omega
  · have w := (uni w).2.2.2.2.1
    rw [← f1e, ← f2e] at w
    exact g w
end
