/-! ===== judge, the class: what is heard of one event ===== -/
abbrev pt (μ : pm_T) (n e : Nat) : Int := μ (100 + 40 * n + 4) e
abbrev ky (μ : pm_T) (n e p : Nat) : Int := μ (100 + 40 * n + (10 + p)) e
/-- the score in use, with what is known of it -/
def CV (μ : pm_T) (c : Nat) (h : ah_T) : Prop := isS c ∧ CKn μ c h ∧ GM μ ∧ ∀ v, isV v → ∀ b, h.2.1 (v + 3) b ≤ 300
theorem isV_l {v : Nat} (hv : isV v) : v + 13 < 143 := by unfold isV at hv; omega
theorem CV_f {μ : pm_T} {c : Nat} {h h' : ah_T} {W : Nat → Nat → Prop} (H : CV μ c h) (f : fr W h h') (hW : ∀ a k, W a k → 143 ≤ a) : CV μ c h' := by
  obtain ⟨hc, C, G, q⟩ := H
  refine ⟨hc, CKn_f C f (fun a k w => ?_), G, fun v hv b => ?_⟩
  · have := hW a k w
    unfold isS at hc
    omega
  · have := isV_l hv
    rw [fr_g f (fun w => by have := hW _ _ w; omega)]
    exact q v hv b
theorem CV_e {μ : pm_T} {c n e : Nat} {h : ah_T} (H : CV μ c h) (hn : (n : Int) < μ 0 7) (he : (e : Int) < μ (10 + n) 0) : Evc μ (100 + 40 * n) (c + 7 + 14 * n) e h := by
  obtain ⟨hc, C, G, q⟩ := H
  have b4 := G.1.1.2
  have hv : isV (c + 7 + 14 * n) := vS hc (by omega)
  have M := (G.2.2 n hn)
  exact ⟨hv, by have := M.1; omega, (C.2.2.2.2.2 n hn).1.2.2.1 e he, M.2.2.2.1 e he, q _ hv⟩
theorem CV_v {μ : pm_T} {c n : Nat} {h : ah_T} (H : CV μ c h) (hn : (n : Int) < μ 0 7) : isV (c + 7 + 14 * n) ∧ h.2.1 (c + 7 + 14 * n) 14 = μ (10 + n) 0 ∧ h.2.1 (c + 7 + 14 * n) 16 = μ (10 + n) 1 ∧ (0 ≤ μ (10 + n) 0 ∧ μ (10 + n) 0 ≤ 300) ∧ (1 ≤ μ (10 + n) 1 ∧ μ (10 + n) 1 ≤ 101) ∧ n < 4 := by
  obtain ⟨hc, C, G, q⟩ := H
  have b4 := G.1.1.2
  have V := (C.2.2.2.2.2 n hn).1
  have M := G.2.2 n hn
  exact ⟨vS hc (by omega), V.1.1, V.1.2, M.1, M.2.1, by omega⟩
/-- STARTS in the cells; behind the last event the end -/
theorem CV_t {μ : pm_T} {c n e : Nat} {h : ah_T} (H : CV μ c h) (hn : (n : Int) < μ 0 7) (he : (e : Int) ≤ μ (10 + n) 0) : h.2.2.1 (c + 7 + 14 * n + 9) e = smT μ n e ∧ h.2.2.1 (c + 7 + 14 * n + 10) e = smB μ n e := by
  obtain ⟨hc, C, G, q⟩ := H
  have V := (C.2.2.2.2.2 n hn).1
  unfold smT smB
  by_cases x : (e : Int) < μ (10 + n) 0
  · rw [if_pos x, if_pos x]
    obtain ⟨b, q, y1, y2, y3, ⟨z1, z2, z3, z4⟩, -⟩ := V.2.2.1 e x
    exact ⟨z1, z2⟩
  · rw [if_neg x, if_neg x]
    have := V.2.1
    rw [show (μ (10 + n) 0).toNat = e by omega] at this
    exact this
theorem CV_b {μ : pm_T} {c n b : Nat} {h : ah_T} (H : CV μ c h) (hn : (n : Int) < μ 0 7) (hb : (b : Int) ≤ μ (10 + n) 1) : h.2.1 (c + 7 + 14 * n + 13) b = (brE μ n b : Int) := by
  obtain ⟨hc, C, G, q⟩ := H
  have V := (C.2.2.2.2.2 n hn).1
  have M := G.2.2 n hn
  unfold brE
  split
  · rename_i x
    rw [V.2.2.2.1 b x]
    have := M.2.2.2.2 b x
    omega
  · have := V.2.2.2.2
    rw [show (μ (10 + n) 1).toNat = b by omega] at this
    rw [this]
    have := M.1
    omega
section
variable {G : cx_T} {s c n e : Nat} {h : ah_T} {μ : pm_T}
theorem j_isRest (hb0 : hb s h) (H : CV μ c h) (hn : (n : Int) < μ 0 7) (he : (e : Int) < μ (10 + n) 0) : con G 1 0 0 m_Voice_isRest [av_R (some (c + 7 + 14 * n)), av_I (e : Int)] h (fun r h' => ∃ z : Int, r = some (av_I z) ∧ hb s h' ∧ h' = h ∧ (z = 0 ↔ 1 ≤ pt μ n e)) := by
  have E := CV_e H hn he
  have hM := E.2.2.2.1.1
  refine c_Voice_isRest E.1 hb0 (fun _ => ?_)
  unfold B_Voice_isRest_0 B_Voice_isRest_13
  refine con_mono (t_Voice_pitchesOf hb0 E) ?_
  rintro r h2 ⟨hb2, rfl, rfl⟩
  unfold pt
  exact ⟨_, rfl, hb2, fun q => ⟨Or.inr rfl, 1, rfl, hb2, rfl, by omega⟩, fun q => ⟨Or.inl rfl, 0, rfl, hb2, rfl, by omega⟩⟩
theorem j_lowest (hb0 : hb s h) (H : CV μ c h) (hn : (n : Int) < μ 0 7) (he : (e : Int) < μ (10 + n) 0) (hp : 1 ≤ pt μ n e) : con G 1 0 0 m_Voice_lowestKey [av_R (some (c + 7 + 14 * n)), av_I (e : Int)] h (fun r h' => ∃ z : Int, r = some (av_I z) ∧ hb s h' ∧ h' = h ∧ z = ky μ n e 0) := by
  have E := CV_e H hn he
  refine c_Voice_lowestKey E.1 hb0 (fun _ => ?_)
  unfold B_Voice_lowestKey_0
  unfold pt at hp
  refine con_mono (t_Voice_keyOf hb0 E (p := 0) (by omega)) ?_
  rintro r h2 ⟨hb2, rfl, rfl⟩
  exact ⟨_, rfl, hb2, _, rfl, hb2, rfl, rfl⟩
theorem j_highest (hb0 : hb s h) (H : CV μ c h) (hn : (n : Int) < μ 0 7) (he : (e : Int) < μ (10 + n) 0) (hp : 1 ≤ pt μ n e) : con G 1 0 0 m_Voice_highestKey [av_R (some (c + 7 + 14 * n)), av_I (e : Int)] h (fun r h' => ∃ z : Int, r = some (av_I z) ∧ hb s h' ∧ h' = h ∧ z = ky μ n e (pt μ n e - 1).toNat) := by
  have E := CV_e H hn he
  have hM := E.2.2.2.1.1
  refine c_Voice_highestKey E.1 hb0 (fun _ => ?_)
  unfold B_Voice_highestKey_0
  unfold pt at hp ⊢
  refine con_mono (t_Voice_pitchesOf hb0 E) ?_
  rintro r h2 ⟨hb2, rfl, rfl⟩
  refine ⟨_, rfl, hb2, ⟨by omega, by omega⟩, ?_⟩
  have hc : ((μ (100 + 40 * n + 4) e - 1).toNat : Int) = μ (100 + 40 * n + 4) e - 1 := by omega
  rw [← hc]
  refine con_mono (t_Voice_keyOf hb2 E (p := (μ (100 + 40 * n + 4) e - 1).toNat) (by omega)) ?_
  rintro r h3 ⟨hb3, rfl, rfl⟩
  exact ⟨_, rfl, hb3, _, rfl, hb3, rfl, by rw [hc]⟩
/-- an event has this KEY -/
def Hky (μ : pm_T) (n e : Nat) (key : Int) : Prop := ∃ k : Nat, (k : Int) < pt μ n e ∧ ky μ n e k = key
theorem j_hasKey {key : Int} (hb0 : hb s h) (H : CV μ c h) (hn : (n : Int) < μ 0 7) (he : (e : Int) < μ (10 + n) 0) : con G 1 0 0 m_Voice_hasKey [av_R (some (c + 7 + 14 * n)), av_I (e : Int), av_I key] h (fun r h' => ∃ z : Int, r = some (av_I z) ∧ hb s h' ∧ h' = h ∧ ((z = 0 ∧ ¬ Hky μ n e key) ∨ (z = 1 ∧ Hky μ n e key))) := by
  have E := CV_e H hn he
  have hM := E.2.2.2.1.1
  refine c_Voice_hasKey E.1 (X2 := fun v3 hh => hh = h ∧ ∃ k : Nat, v3 = (k : Int) ∧ (k : Int) ≤ pt μ n e ∧ ∀ j, j < k → ky μ n e j ≠ key) ?_ hb0 (fun _ _ => ?_)
  · refine lp_Voice_hasKey_2 E.1 _ (fun v3 _ => (5 - v3).toNat) ?_
    rintro v3 hh hb1 ⟨rfl, k, rfl, hk, no⟩
    unfold B_Voice_hasKey_2
    refine con_mono (t_Voice_pitchesOf hb1 E) ?_
    rintro r h2 ⟨hb2, rfl, rfl⟩
    unfold pt at hk
    refine ⟨_, rfl, hb2, fun q => ⟨0, rfl, hb2, rfl, Or.inl ⟨rfl, ?_⟩⟩, fun q => ?_⟩
    · rintro ⟨j, j1, j2⟩
      unfold pt at j1
      exact no j (by omega) j2
    · refine con_mono (t_Voice_keyOf hb2 E (p := k) (by omega)) ?_
      rintro r h3 ⟨hb3, rfl, rfl⟩
      refine ⟨_, rfl, hb3, fun q2 => ⟨1, rfl, hb3, rfl, Or.inr ⟨rfl, k, by unfold pt; omega, q2⟩⟩, fun q2 => ⟨⟨by omega, by omega⟩, ⟨rfl, k + 1, by omega, by unfold pt; omega, fun j hj => ?_⟩, by omega⟩⟩
      by_cases cj : j = k
      · subst cj; exact q2
      · exact no j (by omega)
  · unfold B_Voice_hasKey_0
    exact ⟨rfl, 0, rfl, by unfold pt; omega, fun j hj => by omega⟩
/-- a tie that is held -/
def Hld (μ : pm_T) (n e : Nat) : Prop := (e : Int) + 1 < μ (10 + n) 0 ∧ ∀ k : Nat, (k : Int) < pt μ n e → Hky μ n (e + 1) (ky μ n e k)
theorem j_isHeld (hb0 : hb s h) (H : CV μ c h) (hn : (n : Int) < μ 0 7) (he : (e : Int) < μ (10 + n) 0) : con G 2 0 0 m_Judge_isHeld [av_R (some (c + 7 + 14 * n)), av_I (e : Int)] h (fun r h' => ∃ z : Int, r = some (av_I z) ∧ hb s h' ∧ h' = h ∧ ((z = 0 ∧ ¬ Hld μ n e) ∨ (z = 1 ∧ Hld μ n e))) := by
  have E := CV_e H hn he
  have hM := E.2.2.2.1.1
  obtain ⟨hv, h14, -, hE, -⟩ := CV_v H hn
  refine c_Judge_isHeld hv (X14 := fun v2 hh => hh = h ∧ (e : Int) + 1 < μ (10 + n) 0 ∧ ∃ k : Nat, v2 = (k : Int) ∧ (k : Int) ≤ pt μ n e ∧ ∀ j, j < k → Hky μ n (e + 1) (ky μ n e j)) ?_ hb0 (fun _ => ?_)
  · refine lp_Judge_isHeld_14 hv _ (fun v2 _ => (5 - v2).toNat) ?_
    rintro v2 hh hb1 ⟨rfl, hl, k, rfl, hk, al⟩
    unfold B_Judge_isHeld_14
    refine con_mono (t_Voice_pitchesOf hb1 E) ?_
    rintro r h2 ⟨hb2, rfl, rfl⟩
    unfold pt at hk
    refine ⟨_, rfl, hb2, fun q => ⟨1, rfl, hb2, rfl, Or.inr ⟨rfl, hl, fun j hj => al j (by unfold pt at hj; omega)⟩⟩, fun q => ⟨⟨by omega, by omega⟩, ?_⟩⟩
    refine con_mono (t_Voice_keyOf hb2 E (p := k) (by omega)) ?_
    rintro r h3 ⟨hb3, rfl, rfl⟩
    refine ⟨_, rfl, hb3, ?_⟩
    refine con_mono (j_hasKey (e := e + 1) hb3 H hn hl) ?_
    rintro r h4 ⟨z, rfl, hb4, rfl, x⟩
    refine ⟨_, rfl, hb4, fun q2 => ⟨0, rfl, hb4, rfl, Or.inl ⟨rfl, fun q3 => ?_⟩⟩, fun q2 => ⟨⟨by omega, by omega⟩, ⟨rfl, hl, k + 1, by omega, by unfold pt; omega, fun j hj => ?_⟩, by omega⟩⟩
    · rcases x with ⟨-, x⟩ | ⟨x, -⟩
      · exact x (q3.2 k (by unfold pt; omega))
      · omega
    · by_cases cj : j = k
      · subst cj
        rcases x with ⟨x, -⟩ | ⟨-, x⟩
        · exact absurd x q2
        · exact x
      · exact al j (by omega)
  · unfold B_Judge_isHeld_0
    refine ⟨⟨by omega, by omega⟩, fun x2 e2 _ _ => ?_⟩
    have ex : x2 = μ (10 + n) 0 := e2.trans h14
    subst ex
    exact ⟨fun q => ⟨rfl, q, 0, rfl, by unfold pt; omega, fun j hj => by omega⟩, fun q => ⟨0, rfl, hb0, rfl, Or.inl ⟨rfl, fun w => q w.1⟩⟩⟩
end

/-! ===== judge, the class: two voices; a BAR ===== -/
theorem pr_b {a b d : Int} (h : 0 ≤ a ∧ a ≤ 1000 * b) (hb : 1 ≤ b ∧ b ≤ 1000000) (hd : 1 ≤ d ∧ d ≤ 1000000) : 0 ≤ a * d ∧ a * d ≤ 1000000000000000 := by
  have h1 : 0 ≤ a * d := Int.mul_nonneg h.1 (by omega)
  have h2 : a * d ≤ 1000000000 * 1000000 := Int.mul_le_mul (by omega) hd.2 (by omega) (by omega)
  omega
/-- an event of this voice sounds lower than this one does at its highest, while both last -/
def CRo (μ : pm_T) (o n e j : Nat) : Prop := (j : Int) < μ (10 + o) 0 ∧ 1 ≤ pt μ o j ∧ SL μ n e o (j + 1) ∧ SL μ o j n (e + 1) ∧ ky μ o j 0 < ky μ n e (pt μ n e - 1).toNat
def CRs (μ : pm_T) (o n e : Nat) : Prop := 1 ≤ pt μ n e ∧ ∃ j, CRo μ o n e j
/-- the first event of the other voice that has not ended -/
def SNe (μ : pm_T) (o n e i : Nat) : Prop := (i : Int) ≤ μ (10 + o) 0 ∧ (∀ j, j < i → SE μ o (j + 1) n e) ∧ ((i : Int) < μ (10 + o) 0 → SL μ n e o (i + 1))
section
variable {G : cx_T} {s c n e : Nat} {h : ah_T} {μ : pm_T}
theorem j_compare {o i : Nat} (hb0 : hb s h) (H : CV μ c h) (ho : (o : Int) < μ 0 7) (hi : (i : Int) ≤ μ (10 + o) 0) (hn : (n : Int) < μ 0 7) (he : (e : Int) ≤ μ (10 + n) 0) : con G 1 0 0 m_Judge_compareStarts [av_R (some (c + 7 + 14 * o)), av_I (i : Int), av_R (some (c + 7 + 14 * n)), av_I (e : Int)] h (fun r h' => ∃ z : Int, r = some (av_I z) ∧ hb s h' ∧ h' = h ∧ (z < 0 ↔ SL μ o i n e) ∧ (0 < z ↔ SL μ n e o i)) := by
  obtain ⟨hv, -, -, hE, -⟩ := CV_v H hn
  obtain ⟨hvo, -, -, hO, -⟩ := CV_v H ho
  obtain ⟨t1, t2⟩ := CV_t H ho hi
  obtain ⟨t3, t4⟩ := CV_t H hn he
  have b1 := GM_b H.2.2.1 ho i
  have b2 := GM_b H.2.2.1 hn e
  refine c_Judge_compareStarts hvo hv hb0 (fun _ _ => ?_)
  unfold B_Judge_compareStarts_0
  refine ⟨by omega, ?_⟩
  rw [tn_c, tn_c]
  intro x2 e2 _ _
  obtain rfl := e2.trans t1
  refine ⟨by omega, fun x5 e5 _ _ x7 e7 => ?_⟩
  obtain rfl := e5.trans t4
  have p1 := pr_b b1.1 b1.2 b2.2
  refine ⟨by omega, fun x10 e10 _ _ x12 e12 _ _ x13 e13 => ?_⟩
  obtain rfl := e10.trans t3
  obtain rfl := e12.trans t2
  have p2 := pr_b b2.1 b2.2 b1.2
  refine ⟨by omega, ?_⟩
  refine con_mono s_JLong_compare ?_
  rintro r h2 ⟨z, rfl, z1, ⟨q1, q2, q3⟩, rfl⟩
  refine ⟨z, rfl, hb0, z, rfl, hb0, rfl, ?_⟩
  unfold SL
  omega
theorem j_first {o i : Nat} (hb0 : hb s h) (H : CV μ c h) (ho : (o : Int) < μ 0 7) (hi : (i : Int) ≤ μ (10 + o) 0) (hn : (n : Int) < μ 0 7) (he : (e : Int) < μ (10 + n) 0) (hs : ∀ j, j < i → SE μ o (j + 1) n e) : con G 2 0 0 m_Judge_firstNotEnded [av_R (some (c + 7 + 14 * o)), av_I (i : Int), av_R (some (c + 7 + 14 * n)), av_I (e : Int)] h (fun r h' => ∃ k : Nat, r = some (av_I (k : Int)) ∧ hb s h' ∧ h' = h ∧ SNe μ o n e k) := by
  obtain ⟨hv, -, -, hE, -⟩ := CV_v H hn
  obtain ⟨hvo, h14, -, hO, -⟩ := CV_v H ho
  refine c_Judge_firstNotEnded hvo hv (X3 := fun v4 hh => hh = h ∧ ∃ k : Nat, v4 = (k : Int) ∧ (k : Int) ≤ μ (10 + o) 0 ∧ ∀ j, j < k → SE μ o (j + 1) n e) ?_ hb0 (fun _ _ => ?_)
  · refine lp_Judge_firstNotEnded_3 (a1 := (i : Int)) hvo hv _ (fun v4 _ => (301 - v4).toNat) ?_
    rintro v4 hh hb1 ⟨rfl, k, rfl, hk, al⟩
    unfold B_Judge_firstNotEnded_3 B_Judge_firstNotEnded_31
    intro x1 e1 _ _
    have ex := e1.trans h14
    subst ex
    refine ⟨fun q => ⟨k, rfl, hb1, rfl, hk, al, fun q2 => by omega⟩, fun q => ⟨⟨by omega, by omega⟩, ?_⟩⟩
    rw [show (k : Int) + 1 = ((k + 1 : Nat) : Int) by omega]
    refine con_mono (j_compare hb1 H ho (i := k + 1) (by omega) hn (Int.le_of_lt he)) ?_
    rintro r h2 ⟨z, rfl, hb2, rfl, z1, z2⟩
    refine ⟨z, rfl, hb2, fun q2 => ⟨k, rfl, hb2, rfl, hk, al, fun _ => z2.mp q2⟩, fun q2 => ⟨⟨rfl, k + 1, rfl, by omega, fun j hj => ?_⟩, by omega⟩⟩
    by_cases cj : j = k
    · subst cj
      exact SL_n.mp (fun w => q2 (z2.mpr w))
    · exact al j (by omega)
  · unfold B_Judge_firstNotEnded_0
    exact ⟨rfl, i, rfl, hi, hs⟩
theorem j_crossed {o i : Nat} (hb0 : hb s h) (H : CV μ c h) (ho : (o : Int) < μ 0 7) (hn : (n : Int) < μ 0 7) (he : (e : Int) < μ (10 + n) 0) (hS : SNe μ o n e i) : con G 2 0 0 m_Judge_isCrossed [av_R (some (c + 7 + 14 * o)), av_I (i : Int), av_R (some (c + 7 + 14 * n)), av_I (e : Int)] h (fun r h' => ∃ z : Int, r = some (av_I z) ∧ hb s h' ∧ h' = h ∧ ((z = 0 ∧ ¬ CRs μ o n e) ∨ (z = 1 ∧ CRs μ o n e))) := by
  obtain ⟨hv, -, -, hE, -⟩ := CV_v H hn
  obtain ⟨hvo, h14, -, hO, -⟩ := CV_v H ho
  have GG := H.2.2.1
  refine c_Judge_isCrossed hvo hv (X13 := fun v4 hh => hh = h ∧ 1 ≤ pt μ n e ∧ ∃ k : Nat, v4 = (k : Int) ∧ i ≤ k ∧ (k : Int) ≤ μ (10 + o) 0 ∧ ∀ j, j < k → ¬ CRo μ o n e j) ?_ hb0 (fun _ _ => ?_)
  · refine lp_Judge_isCrossed_13 (a1 := (i : Int)) hvo hv _ (fun v4 _ => (301 - v4).toNat) ?_
    rintro v4 hh hb1 ⟨rfl, hp, k, rfl, hik, hk, al⟩
    unfold B_Judge_isCrossed_13 B_Judge_isCrossed_66 B_Judge_isCrossed_60
    have step : ¬ CRo μ o n e k → ∀ j, j < k + 1 → ¬ CRo μ o n e j := fun q j hj => by
      by_cases cj : j = k
      · subst cj; exact q
      · exact al j (by omega)
    intro x1 e1 _ _
    have ex := e1.trans h14
    subst ex
    refine ⟨fun q => ⟨0, rfl, hb1, rfl, Or.inl ⟨rfl, ?_⟩⟩, fun q => ⟨⟨by omega, by omega⟩, ?_⟩⟩
    · rintro ⟨-, j, hj⟩
      exact al j (by have := hj.1; omega) hj
    have hk' : (k : Int) < μ (10 + o) 0 := by omega
    rw [show (e : Int) + 1 = ((e + 1 : Nat) : Int) by omega]
    refine con_mono (j_compare hb1 H ho (i := k) hk hn (e := e + 1) (by omega)) ?_
    rintro r h2 ⟨z, rfl, hb2, rfl, z1, z2⟩
    refine ⟨z, rfl, hb2, fun q2 => ⟨0, rfl, hb2, rfl, Or.inl ⟨rfl, ?_⟩⟩, fun q2 => ?_⟩
    · rintro ⟨-, j, hj⟩
      by_cases cj : j < k
      · exact al j cj hj
      · have a1 : SE μ n (e + 1) o k := SL_n.mp (fun w => by have := z1.mpr w; omega)
        have a2 := GM_m GG ho (i := k) j (by omega) (Int.le_of_lt hj.1)
        exact SL_n.mpr (SE_le GG hn ho ho a1 a2) hj.2.2.2.1
    have s1 : SL μ o k n (e + 1) := z1.mp (by omega)
    refine con_mono (j_isRest hb2 H ho hk') ?_
    rintro r h3 ⟨y, rfl, hb3, rfl, y1⟩
    refine ⟨y, rfl, hb3, fun q3 => ?_, fun q3 => ⟨⟨by omega, by omega⟩, ⟨rfl, hp, k + 1, by omega, by omega, by omega, step (fun w => q3 (y1.mpr w.2.1))⟩, by omega⟩⟩
    have hpo := y1.mp q3
    refine con_mono (j_lowest hb3 H ho hk' hpo) ?_
    rintro r h4 ⟨lo, rfl, hb4, rfl, l1⟩
    refine ⟨lo, rfl, hb4, ?_⟩
    refine con_mono (j_highest hb4 H hn he hp) ?_
    rintro r h5 ⟨hi, rfl, hb5, rfl, l2⟩
    refine ⟨hi, rfl, hb5, fun q4 => ⟨⟨by omega, by omega⟩, ⟨rfl, hp, k + 1, by omega, by omega, by omega, step (fun w => ?_)⟩, by omega⟩, fun q4 => ⟨1, rfl, hb5, rfl, Or.inr ⟨rfl, hp, k, hk', hpo, ?_, s1, by omega⟩⟩⟩
    · have := w.2.2.2.2
      omega
    · by_cases ck : i = k
      · subst ck
        exact hS.2.2 hk'
      · exact SL_le GG hn ho ho (hS.2.2 (by omega)) (GM_m GG ho (k + 1) (by omega) (by omega))
  · unfold B_Judge_isCrossed_0
    refine con_mono (j_isRest hb0 H hn he) ?_
    rintro r h2 ⟨z, rfl, hb2, rfl, z1⟩
    refine ⟨z, rfl, hb2, fun q => ⟨rfl, z1.mp q, i, rfl, Nat.le_refl _, hS.1, fun j hj w => ?_⟩, fun q => ⟨0, rfl, hb2, rfl, Or.inl ⟨rfl, fun w => q (z1.mpr w.1)⟩⟩⟩
    exact SL_n.mpr (hS.2.1 j hj) w.2.2.1
end

/-! ===== judge, the class: parallels; a BAR that is not whole ===== -/
def PAo (μ : pm_T) (o n e j : Nat) : Prop := (1 ≤ j ∧ (j : Int) < μ (10 + o) 0) ∧ (SE μ o j n e ∧ SE μ n e o j) ∧ (1 ≤ pt μ n e ∧ 1 ≤ pt μ n (e - 1) ∧ 1 ≤ pt μ o j ∧ 1 ≤ pt μ o (j - 1)) ∧
  (ky μ o j 0 - ky μ n e 0) % 12 = (ky μ o (j - 1) 0 - ky μ n (e - 1) 0) % 12 ∧ ((ky μ o j 0 - ky μ n e 0) % 12 = 0 ∨ (ky μ o j 0 - ky μ n e 0) % 12 = 7) ∧ ky μ n e 0 ≠ ky μ n (e - 1) 0
def PAs (μ : pm_T) (o n e : Nat) : Prop := 1 ≤ e ∧ ∃ j, PAo μ o n e j
section
variable {G : cx_T} {s c n e : Nat} {h : ah_T} {μ : pm_T}
theorem ky_b {k p : Nat} (H : GM μ) (hn : (n : Int) < μ 0 7) (he : (e : Int) < μ (10 + n) 0) (hp : (p : Int) < pt μ n e) : -2 ≤ ky μ n e p ∧ ky μ n e p ≤ 109 :=
  ((H.2.2 n hn).2.2.2.1 e he).2.2.2.2.2.2.1 p hp |>.1
theorem PA_i {o i j : Nat} (GG : GM μ) (ho : (o : Int) < μ 0 7) (hn : (n : Int) < μ 0 7) (hS : SNe μ o n e i) (P : PAo μ o n e j) : j = i := by
  obtain ⟨⟨p1, p2⟩, ⟨p3, p4⟩, -⟩ := P
  by_cases c1 : j < i
  · have a := hS.2.1 j c1
    have b := GM_s GG ho p2
    exact absurd (SE_le GG ho hn ho a p4) (SE_n.mpr b)
  · by_cases c2 : i < j
    · have a := hS.2.2 (by omega)
      have b := GM_m GG ho (i := i + 1) j (by omega) (by omega)
      exact absurd (SE_le GG ho ho hn b p3) (SE_n.mpr a)
    · omega
theorem j_parallel {o i : Nat} (hb0 : hb s h) (H : CV μ c h) (ho : (o : Int) < μ 0 7) (hn : (n : Int) < μ 0 7) (he : (e : Int) < μ (10 + n) 0) (hS : SNe μ o n e i) : con G 2 0 0 m_Judge_isParallel [av_R (some (c + 7 + 14 * o)), av_I (i : Int), av_R (some (c + 7 + 14 * n)), av_I (e : Int)] h (fun r h' => ∃ z : Int, r = some (av_I z) ∧ hb s h' ∧ h' = h ∧ ((z = 0 ∧ ¬ PAs μ o n e) ∨ (z = 1 ∧ PAs μ o n e))) := by
  obtain ⟨hv, -, -, hE, -⟩ := CV_v H hn
  obtain ⟨hvo, h14, -, hO, -⟩ := CV_v H ho
  have GG := H.2.2.1
  have uni : PAs μ o n e → 1 ≤ e ∧ PAo μ o n e i := fun ⟨a, j, b⟩ => ⟨a, by rw [PA_i GG ho hn hS b] at b; exact b⟩
  refine c_Judge_isParallel hvo hv hb0 (fun _ _ => ?_)
  unfold B_Judge_isParallel_0 B_Judge_isParallel_28 B_Judge_isParallel_66 B_Judge_isParallel_127 B_Judge_isParallel_146 B_Judge_isParallel_147
  have no : ¬ PAs μ o n e → ∃ z : Int, some (av_I 0) = some (av_I z) ∧ hb s h ∧ h = h ∧ ((z = 0 ∧ ¬ PAs μ o n e) ∨ (z = 1 ∧ PAs μ o n e)) := fun q => ⟨0, rfl, hb0, rfl, Or.inl ⟨rfl, q⟩⟩
  refine ⟨fun q => no (fun w => by have := w.1; omega), fun q => ⟨fun q2 => no (fun w => by have := (uni w).2.1.1; omega), fun q2 x1 e1 _ _ => ?_⟩⟩
  have ex := e1.trans h14
  subst ex
  refine ⟨fun q3 => no (fun w => by have := (uni w).2.1.2; omega), fun q3 => ?_⟩
  refine con_mono (j_compare hb0 H ho (i := i) (by omega) hn (e := e) (by omega)) ?_
  rintro r h2 ⟨z, rfl, hb2, rfl, z1, z2⟩
  refine ⟨z, rfl, hb2, fun q4 => ?_, fun q4 => no (fun w => ?_)⟩
  case refine_2 =>
    have w := (uni w).2.2.1
    by_cases c : z < 0
    · exact absurd w.2 (SE_n.mpr (z1.mp c))
    · exact absurd w.1 (SE_n.mpr (z2.mp (by omega)))
  have eq1 : SE μ n e o i := SL_n.mp (fun w => by have := z1.mpr w; omega)
  have eq2 : SE μ o i n e := SL_n.mp (fun w => by have := z2.mpr w; omega)
  refine con_mono (j_isRest hb2 H hn he) ?_
  rintro r h3 ⟨y, rfl, hb3, rfl, y1⟩
  refine ⟨y, rfl, hb3, fun q5 => ⟨⟨by omega, by omega⟩, ?_⟩, fun q5 => no (fun w => q5 (y1.mpr (uni w).2.2.2.1.1))⟩
  have he1 : ((e - 1 : Nat) : Int) < μ (10 + n) 0 := by omega
  have hi1 : ((i - 1 : Nat) : Int) < μ (10 + o) 0 := by omega
  have hi0 : (i : Int) < μ (10 + o) 0 := by omega
  rw [show (e : Int) - 1 = ((e - 1 : Nat) : Int) by omega]
  rw [show (i : Int) - 1 = ((i - 1 : Nat) : Int) by omega]
  refine con_mono (j_isRest hb3 H hn he1) ?_
  rintro r h4 ⟨y', rfl, hb4, rfl, y2⟩
  refine ⟨y', rfl, hb4, fun q6 => ?_, fun q6 => no (fun w => q6 (y2.mpr (uni w).2.2.2.1.2.1))⟩
  refine con_mono (j_isRest hb4 H ho hi0) ?_
  rintro r h5 ⟨y'', rfl, hb5, rfl, y3⟩
  refine ⟨y'', rfl, hb5, fun q7 => ⟨⟨by omega, by omega⟩, ?_⟩, fun q7 => no (fun w => q7 (y3.mpr (uni w).2.2.2.1.2.2.1))⟩
  refine con_mono (j_isRest hb5 H ho hi1) ?_
  rintro r h6 ⟨y''', rfl, hb6, rfl, y4⟩
  refine ⟨y''', rfl, hb6, fun q8 => ?_, fun q8 => no (fun w => q8 (y4.mpr (uni w).2.2.2.1.2.2.2))⟩
  have p1 := y1.mp q5
  have p2 := y2.mp q6
  have p3 := y3.mp q7
  have p4 := y4.mp q8
  have k1 := ky_b (k := 0) (p := 0) GG hn he (by omega)
  have k2 := ky_b (k := 0) (p := 0) GG hn he1 (by omega)
  have k3 := ky_b (k := 0) (p := 0) GG ho hi0 (by omega)
  have k4 := ky_b (k := 0) (p := 0) GG ho hi1 (by omega)
  refine con_mono (j_lowest hb6 H ho hi0 p3) ?_
  rintro r h7 ⟨a, rfl, hb7, rfl, rfl⟩
  refine ⟨_, rfl, hb7, ?_⟩
  refine con_mono (j_lowest hb7 H hn he p1) ?_
  rintro r h8 ⟨b, rfl, hb8, rfl, rfl⟩
  refine ⟨_, rfl, hb8, ⟨by omega, by omega⟩, ?_⟩
  refine con_mono (s_JMath_floorMod (by decide) (by decide)) ?_
  rintro r h9 ⟨f1, rfl, -, ⟨-, f1e⟩, rfl⟩
  refine ⟨_, rfl, hb8, ?_⟩
  refine con_mono (j_lowest hb8 H ho hi1 p4) ?_
  rintro r h10 ⟨a', rfl, hb10, rfl, rfl⟩
  refine ⟨_, rfl, hb10, ?_⟩
  refine con_mono (j_lowest hb10 H hn he1 p2) ?_
  rintro r h11 ⟨b', rfl, hb11, rfl, rfl⟩
  refine ⟨_, rfl, hb11, ⟨by omega, by omega⟩, ?_⟩
  refine con_mono (s_JMath_floorMod (by decide) (by decide)) ?_
  rintro r h12 ⟨f2, rfl, -, ⟨-, f2e⟩, rfl⟩
  have last : (f1 = 0 ∨ f1 = 7) → f1 = f2 → con G 1 0 0 m_Voice_lowestKey [av_R (some (c + 7 + 14 * n)), av_I (e : Int)] h11 (fun r h1 => ∃ z3 : Int, r = some (av_I z3) ∧ hb s h1 ∧ ((-2147483648) ≤ ((e : Int) - 1) ∧ ((e : Int) - 1) ≤ 2147483647) ∧ con G 1 0 0 m_Voice_lowestKey [av_R (some (c + 7 + 14 * n)), av_I ((e : Int) - 1)] h1 (fun r h5 => ∃ z7 : Int, r = some (av_I z7) ∧ hb s h5 ∧ ((z3 = z7 → (((0 : Int) = 0 ∨ (0 : Int) = 1) ∧ ∃ z : Int, some (av_I 0) = some (av_I z) ∧ hb s h5 ∧ h5 = h11 ∧ ((z = 0 ∧ ¬ PAs μ o n e) ∨ (z = 1 ∧ PAs μ o n e)))) ∧ (¬ z3 = z7 → (((1 : Int) = 0 ∨ (1 : Int) = 1) ∧ ∃ z : Int, some (av_I 1) = some (av_I z) ∧ hb s h5 ∧ h5 = h11 ∧ ((z = 0 ∧ ¬ PAs μ o n e) ∨ (z = 1 ∧ PAs μ o n e))))))) := by
    intro g1 g2
    refine con_mono (j_lowest hb11 H hn he p1) ?_
    rintro r h13 ⟨u, rfl, hb13, rfl, rfl⟩
    refine ⟨_, rfl, hb13, ⟨by omega, by omega⟩, ?_⟩
    rw [show (e : Int) - 1 = ((e - 1 : Nat) : Int) by omega]
    refine con_mono (j_lowest hb13 H hn he1 p2) ?_
    rintro r h14 ⟨u', rfl, hb14, rfl, rfl⟩
    refine ⟨_, rfl, hb14, fun g3 => ⟨Or.inl rfl, 0, rfl, hb14, rfl, Or.inl ⟨rfl, fun w => (uni w).2.2.2.2.2.2 g3⟩⟩, fun g3 => ⟨Or.inr rfl, 1, rfl, hb14, rfl, Or.inr ⟨rfl, by omega, i, ⟨by omega, hi0⟩, ⟨eq2, eq1⟩, ⟨p1, p2, p3, p4⟩, ?_, ?_, g3⟩⟩⟩
    · rw [← f1e, ← f2e]; exact g2
    · rw [← f1e]; exact g1
  refine ⟨_, rfl, hb11, fun g => ⟨fun g2 => ?_, fun g2 => ⟨fun g3 => ?_, fun g3 => ⟨Or.inl rfl, no (fun w => ?_)⟩⟩⟩, fun g => ⟨Or.inl rfl, no (fun w => ?_)⟩⟩
  · have := last (Or.inl g2) g
    rw [show (e : Int) - 1 = ((e - 1 : Nat) : Int) by omega] at this
    exact this
  · have := last (Or.inr g3) g
    rw [show (e : Int) - 1 = ((e - 1 : Nat) : Int) by omega] at this
    exact this
  · have w := (uni w).2.2.2.2.2.1
    rw [← f1e] at w
    omega
  · have w := (uni w).2.2.2.2.1
    rw [← f1e, ← f2e] at w
    exact g w
end

/-! ===== judge, the class: the faults as a list ===== -/
abbrev JQ : Type := Int × Int × Int × Int
def pk4 (a b c d : Int) : Int := ((Int32.ofInt ((Int32.ofInt ((Int32.ofInt a) ||| (Int32.ofInt ((Int32.ofInt b) <<< (Int32.ofInt 3 &&& 31)).toInt)).toInt) ||| (Int32.ofInt ((Int32.ofInt c) <<< (Int32.ofInt 5 &&& 31)).toInt)).toInt) ||| (Int32.ofInt ((Int32.ofInt d) <<< (Int32.ofInt 14 &&& 31)).toInt)).toInt
def JL (l : List JQ) (h : ah_T) : Prop := h.2.1 143 1 = (l.length : Int) ∧ ∀ (k : Nat) (q : JQ), l[k]? = some q → h.2.1 144 k = pk4 q.1 q.2.1 q.2.2.1 q.2.2.2
noncomputable def pif (p : Prop) (l : List JQ) : List JQ := @ite _ p (Classical.propDecidable p) l []
theorem pif_t {p : Prop} {l : List JQ} (h : p) : pif p l = l := by unfold pif; exact if_pos h
theorem pif_f {p : Prop} {l : List JQ} (h : ¬ p) : pif p l = [] := by unfold pif; exact if_neg h
theorem pif_l {p : Prop} {q : JQ} : (pif p [q]).length ≤ 1 := by
  by_cases h : p
  · rw [pif_t h]; exact Nat.le_refl _
  · rw [pif_f h]; exact Nat.zero_le _
noncomputable def catl (f : Nat → List JQ) : Nat → List JQ
  | 0 => []
  | n + 1 => catl f n ++ f n
theorem catl_l {f : Nat → List JQ} (hf : ∀ k, (f k).length ≤ 1) : ∀ n, (catl f n).length ≤ n
  | 0 => Nat.le_refl _
  | n + 1 => by
    have a := catl_l hf n
    have b := hf n
    rw [catl, List.length_append]
    omega
def LPs (μ : pm_T) (n e : Nat) : Prop := 1 ≤ e ∧ 1 ≤ pt μ n e ∧ 1 ≤ pt μ n (e - 1) ∧ (12 < ky μ n e 0 - ky μ n (e - 1) 0 ∨ ky μ n e 0 - ky μ n (e - 1) 0 < -12)
noncomputable def aloF (μ : pm_T) (n e : Nat) : List JQ := pif (μ (100 + 40 * n + 5) e = 1 ∧ ¬ Hld μ n e) [(2, (n : Int), (e : Int), 0)] ++ pif (LPs μ n e) [(3, (n : Int), (e : Int), 0)]
noncomputable def croF (μ : pm_T) (n e k : Nat) : List JQ := catl (fun o => pif (CRs μ o n e) [(4, (n : Int), (e : Int), (o : Int))]) k
noncomputable def parF (μ : pm_T) (n e k : Nat) : List JQ := catl (fun o => pif (PAs μ o n e) [(5, (n : Int), (e : Int), (o : Int))]) k
theorem aloF_l {μ : pm_T} {n e : Nat} : (aloF μ n e).length ≤ 2 := by
  unfold aloF
  rw [List.length_append]
  have a := pif_l (p := μ (100 + 40 * n + 5) e = 1 ∧ ¬ Hld μ n e) (q := (2, (n : Int), (e : Int), 0))
  have b := pif_l (p := LPs μ n e) (q := (3, (n : Int), (e : Int), 0))
  omega
theorem croF_l {μ : pm_T} {n e k : Nat} : (croF μ n e k).length ≤ k := catl_l (fun _ => pif_l) k
theorem parF_l {μ : pm_T} {n e k : Nat} : (parF μ n e k).length ≤ k := catl_l (fun _ => pif_l) k
abbrev JWa : Nat → Nat → Prop := fun a k => (a = 143 ∧ k = 1) ∨ a = 144
abbrev JWc : Nat → Nat → Prop := fun a k => (a = 143 ∧ k = 1) ∨ a = 144 ∨ a = 145
theorem j_add {G : cx_T} {s : Nat} {h : ah_T} {l : List JQ} {a b c d : Int} (hb0 : hb s h) (J : JL l h) (hl : l.length < 6404) : con G 0 0 0 m_Judge_add [av_R (some 143), av_I a, av_I b, av_I c, av_I d] h (fun r h' => r = none ∧ hb s h' ∧ fr JWa h h' ∧ JL (l ++ [(a, b, c, d)]) h') := by
  obtain ⟨j1, j2⟩ := J
  refine c_Judge_add hb0 (fun _ _ _ _ => ?_)
  unfold B_Judge_add_0 B_Judge_add_46
  intro x1 e1 _ _
  have ex := e1.trans j1
  subst ex
  refine ⟨fun q => by omega, fun q x5 e5 _ _ x6 e6 _ _ x7 e7 _ _ x8 e8 _ _ x9 e9 _ _ x10 e10 _ _ => ⟨by omega, fun h12 e12 => ⟨⟨by omega, by omega⟩, fun h16 e16 => ?_⟩⟩⟩
  rw [tn_c] at e12
  refine ⟨rfl, hb_i (hb_i hb0 e12) e16, fr_i (fr_i fr_0 e12 (Or.inr rfl)) e16 (Or.inl ⟨rfl, rfl⟩), ?_, fun k q hq => ?_⟩
  · rw [mv_i e16, List.length_append]
    rfl
  · rw [mm_i e16 (by omega)]
    by_cases ck : k = l.length
    · subst ck
      rw [List.getElem?_concat_length] at hq
      obtain rfl := Option.some.inj hq
      rw [mv_i e12, e10, e9, e8, e7, e6, e5]
      rfl
    · have kl : k < l.length := by
        by_cases c : k < l.length
        · exact c
        · rw [List.getElem?_eq_none (by rw [List.length_append]; show l.length + 1 ≤ k; omega)] at hq
          cases hq
      rw [List.getElem?_append_left kl] at hq
      rw [mm_i e12 (by omega)]
      exact j2 k q hq
theorem JW_43 : ∀ a k, JWa a k → 143 ≤ a := by
  intro a k w
  rcases w with w | w <;> omega
theorem JWc_43 : ∀ a k, JWc a k → 143 ≤ a := by
  intro a k w
  rcases w with w | w | w <;> omega
theorem fr_ac {h h' : ah_T} (f : fr JWa h h') : fr JWc h h' := fr_w f (fun a k w => by rcases w with w | w <;> omega)
section
variable {G : cx_T} {s c n e : Nat} {h : ah_T} {μ : pm_T} {l : List JQ}
theorem j_alone (hb0 : hb s h) (H : CV μ c h) (hn : (n : Int) < μ 0 7) (he : (e : Int) < μ (10 + n) 0) (J : JL l h) (hl : l.length + 2 ≤ 6404) : con G 3 0 0 m_Judge_hearAlone [av_R (some 143), av_R (some (c + 7 + 14 * n)), av_I (n : Int), av_I (e : Int)] h (fun r h' => r = none ∧ hb s h' ∧ fr JWa h h' ∧ JL (l ++ aloF μ n e) h') := by
  obtain ⟨hv, h14, -, hE, -⟩ := CV_v H hn
  have E := CV_e H hn he
  have GG := H.2.2.1
  have hT := E.2.2.2.1.2.1
  refine c_Judge_hearAlone hv hb0 (fun _ _ => ?_)
  unfold B_Judge_hearAlone_0
  have second : ∀ {h1 : ah_T} {l1 : List JQ}, hb s h1 → CV μ c h1 → fr JWa h h1 → JL l1 h1 → l1.length + 1 ≤ 6404 → (B_Judge_hearAlone_24 G s (c + 7 + 14 * n) (n : Int) (e : Int) h1 (fun r h' => r = none ∧ hb s h' ∧ fr JWa h h' ∧ JL (l1 ++ pif (LPs μ n e) [(3, (n : Int), (e : Int), 0)]) h')) := by
    intro h1 l1 hb1 H1 f1 J1 hl1
    unfold B_Judge_hearAlone_24 B_Judge_hearAlone_75
    have no : ¬ LPs μ n e → (none : Option av_T) = none ∧ hb s h1 ∧ fr JWa h h1 ∧ JL (l1 ++ pif (LPs μ n e) [(3, (n : Int), (e : Int), 0)]) h1 := fun q => ⟨rfl, hb1, f1, by rw [pif_f q, List.append_nil]; exact J1⟩
    refine ⟨fun q => no (fun w => by have := w.1; omega), fun q => ?_⟩
    have he1 : ((e - 1 : Nat) : Int) < μ (10 + n) 0 := by omega
    rw [show (e : Int) - 1 = ((e - 1 : Nat) : Int) by omega]
    refine con_mono (j_isRest hb1 H1 hn he) ?_
    rintro r h2 ⟨y, rfl, hb2, rfl, y1⟩
    refine ⟨y, rfl, hb2, fun q2 => ⟨⟨by omega, by omega⟩, ?_⟩, fun q2 => no (fun w => q2 (y1.mpr w.2.1))⟩
    refine con_mono (j_isRest hb2 H1 hn he1) ?_
    rintro r h3 ⟨y', rfl, hb3, rfl, y2⟩
    refine ⟨y', rfl, hb3, fun q3 => ?_, fun q3 => no (fun w => q3 (y2.mpr w.2.2.1))⟩
    have p1 := y1.mp q2
    have p2 := y2.mp q3
    have k1 := ky_b (k := 0) (p := 0) GG hn he (by omega)
    have k2 := ky_b (k := 0) (p := 0) GG hn he1 (by omega)
    refine con_mono (j_lowest hb3 H1 hn he p1) ?_
    rintro r h4 ⟨a, rfl, hb4, rfl, rfl⟩
    refine ⟨_, rfl, hb4, ?_⟩
    refine con_mono (j_lowest hb4 H1 hn he1 p2) ?_
    rintro r h5 ⟨b, rfl, hb5, rfl, rfl⟩
    refine ⟨_, rfl, hb5, ⟨by omega, by omega⟩, fun x15 e15 _ _ => ?_⟩
    have ab : 12 < x15 ↔ (12 < ky μ n e 0 - ky μ n (e - 1) 0 ∨ ky μ n e 0 - ky μ n (e - 1) 0 < -12) := by
      rw [e15]
      split
      · omega
      · rw [w32_id (by unfold i32; omega)]; omega
    refine ⟨fun q4 => no (fun w => ?_), fun q4 => ?_⟩
    · have := ab.mpr w.2.2.2
      omega
    · have L : LPs μ n e := ⟨by omega, p1, p2, ab.mp (by omega)⟩
      refine con_mono (j_add hb5 J1 (by omega)) ?_
      rintro r h6 ⟨rfl, hb6, f6, J6⟩
      exact ⟨rfl, hb6, rfl, hb6, fr_t f1 f6 (fun _ _ w => w), by rw [pif_t L]; exact J6⟩
  refine con_mono (t_Voice_isTied hb0 E) ?_
  rintro r h2 ⟨hb2, rfl, rfl⟩
  have none_ : ¬ (μ (100 + 40 * n + 5) e = 1 ∧ ¬ Hld μ n e) → B_Judge_hearAlone_24 G s (c + 7 + 14 * n) (n : Int) (e : Int) h2 (fun r h' => r = none ∧ hb s h' ∧ fr JWa h2 h' ∧ JL (l ++ aloF μ n e) h') := fun q => by
    have := second hb2 H fr_0 J (by omega)
    unfold aloF
    rw [pif_f q, List.nil_append]
    exact this
  refine ⟨_, rfl, hb2, fun q => none_ (fun w => by have := w.1; omega), fun q => ?_⟩
  refine con_mono (j_isHeld hb2 H hn he) ?_
  rintro r h3 ⟨z, rfl, hb3, rfl, zz⟩
  refine ⟨z, rfl, hb3, fun q2 => ?_, fun q2 => none_ (fun w => ?_)⟩
  · have nh : ¬ Hld μ n e := by
      rcases zz with ⟨-, x⟩ | ⟨x, -⟩
      · exact x
      · omega
    refine con_mono (j_add hb3 J (by omega)) ?_
    rintro r h4 ⟨rfl, hb4, f4, J4⟩
    refine ⟨rfl, hb4, ?_⟩
    have := second hb4 (CV_f H f4 JW_43) f4 J4 (by rw [List.length_append]; show l.length + 1 + 1 ≤ 6404; omega)
    unfold aloF
    rw [pif_t ⟨by omega, nh⟩, ← List.append_assoc]
    exact this
  · rcases zz with ⟨x, -⟩ | ⟨-, x⟩
    · exact q2 x
    · exact w.2 x
/-- the first events that have not ended stand in their cells -/
theorem j_cross (hb0 : hb s h) (H : CV μ c h) (hn : (n : Int) < μ 0 7) (he : (e : Int) < μ (10 + n) 0) (J : JL l h) (hl : l.length + n ≤ 6404) (hS : ∀ o, o < n → ∃ i : Nat, h.2.1 145 o = (i : Int) ∧ (i : Int) ≤ μ (10 + o) 0 ∧ ∀ j, j < i → SE μ o (j + 1) n e) :
    con G 3 0 0 m_Judge_hearCrossings [av_R (some 143), av_R (some c), av_R (some (c + 7 + 14 * n)), av_I (n : Int), av_I (e : Int)] h (fun r h' => r = none ∧ hb s h' ∧ fr JWc h h' ∧ JL (l ++ croF μ n e n) h' ∧ ∀ o, o < n → ∃ i : Nat, h'.2.1 145 o = (i : Int) ∧ SNe μ o n e i) := by
  obtain ⟨hv, -, -, hE, -, n4⟩ := CV_v H hn
  refine c_Judge_hearCrossings H.1 hv (X3 := fun v5 hh => ∃ k : Nat, v5 = (k : Int) ∧ k ≤ n ∧ fr JWc h hh ∧ JL (l ++ croF μ n e k) hh ∧ (∀ o, o < k → ∃ i : Nat, hh.2.1 145 o = (i : Int) ∧ SNe μ o n e i) ∧ ∀ o, k ≤ o → hh.2.1 145 o = h.2.1 145 o) ?_ hb0 (fun _ _ => ?_)
  · refine lp_Judge_hearCrossings_3 H.1 hv _ (fun v5 _ => (5 - v5).toNat) ?_
    rintro v5 hh hb1 ⟨k, rfl, hk, f, J1, S1, S2⟩
    have H1 := CV_f H f JWc_43
    unfold B_Judge_hearCrossings_3 B_Judge_hearCrossings_88 B_Judge_hearCrossings_82
    refine ⟨fun q => ?_, fun q => ⟨fun q2 => by omega, fun q2 => ?_⟩⟩
    · obtain rfl : k = n := by omega
      exact ⟨rfl, hb1, f, J1, S1⟩
    have ho : (k : Int) < μ 0 7 := by omega
    refine con_mono (t_Score_voiceAt hb1 H.1 H1.2.1) ?_
    rintro r h2 ⟨hb2, rfl, ⟨-, -, rfl⟩ | ⟨q1, -⟩⟩
    rotate_left
    · omega
    rw [tn_c]
    refine ⟨_, rfl, hb2, Or.inr ⟨_, rfl, (CV_v H1 ho).1, by omega, fun x7 e7 _ _ => ?_⟩⟩
    obtain ⟨i, hi, hi2, hi3⟩ := hS k (by omega)
    have ex : x7 = (i : Int) := e7.trans ((S2 k (Nat.le_refl _)).trans hi)
    subst ex
    refine con_mono (j_first hb2 H1 ho hi2 hn he hi3) ?_
    rintro r h3 ⟨m, rfl, hb3, rfl, Sm⟩
    refine ⟨_, rfl, hb3, fun h12 e12 => ?_⟩
    have hb12 := hb_i hb3 e12
    have f12 := fr_i f e12 (Or.inr (Or.inr rfl))
    have H12 := CV_f H f12 JWc_43
    have J12 : JL (l ++ croF μ n e k) h12 := ⟨by rw [mm_i e12 (by omega)]; exact J1.1, fun j q hq => by rw [mm_i e12 (by omega)]; exact J1.2 j q hq⟩
    have len : (l ++ croF μ n e k).length < 6404 := by
      have := croF_l (μ := μ) (n := n) (e := e) (k := k)
      rw [List.length_append]
      omega
    have fin : ∀ {h' : ah_T}, fr JWa h12 h' → (∀ o, o < k + 1 → ∃ i : Nat, h'.2.1 145 o = (i : Int) ∧ SNe μ o n e i) ∧ ∀ o, k + 1 ≤ o → h'.2.1 145 o = h.2.1 145 o := fun fa => by
      refine ⟨fun o ho => ?_, fun o ho => ?_⟩
      · rw [fr_g fa (by omega)]
        by_cases co : o = k
        · subst co
          exact ⟨m, mv_i e12, Sm⟩
        · rw [mm_i e12 (by omega)]
          exact S1 o (by omega)
      · rw [fr_g fa (by omega), mm_i e12 (by omega)]
        exact S2 o (by omega)
    refine con_mono (j_crossed hb12 H12 ho hn he Sm) ?_
    rintro r h4 ⟨z, rfl, hb4, rfl, zz⟩
    refine ⟨z, rfl, hb4, fun q3 => ⟨⟨by omega, by omega⟩, ⟨k + 1, by omega, by omega, f12, ?_, fin fr_0⟩, by omega⟩, fun q3 => ?_⟩
    · have no : ¬ CRs μ k n e := by
        rcases zz with ⟨-, x⟩ | ⟨x, -⟩
        · exact x
        · omega
      show JL (l ++ (croF μ n e k ++ pif (CRs μ k n e) [(4, (n : Int), (e : Int), (k : Int))])) h4
      rw [pif_f no, List.append_nil]
      exact J12
    · have yes : CRs μ k n e := by
        rcases zz with ⟨x, -⟩ | ⟨-, x⟩
        · exact absurd x q3
        · exact x
      refine con_mono (j_add hb4 J12 len) ?_
      rintro r h5 ⟨rfl, hb5, f5, J5⟩
      refine ⟨rfl, hb5, ⟨by omega, by omega⟩, ⟨k + 1, by omega, by omega, fr_t f12 (fr_ac f5) (fun _ _ w => w), ?_, fin f5⟩, by omega⟩
      show JL (l ++ (croF μ n e k ++ pif (CRs μ k n e) [(4, (n : Int), (e : Int), (k : Int))])) h5
      rw [pif_t yes, ← List.append_assoc]
      exact J5
  · unfold B_Judge_hearCrossings_0
    exact ⟨0, rfl, by omega, fr_0, by show JL (l ++ []) h; rw [List.append_nil]; exact J, fun o ho => by omega, fun o _ => rfl⟩
theorem j_para (hb0 : hb s h) (H : CV μ c h) (hn : (n : Int) < μ 0 7) (he : (e : Int) < μ (10 + n) 0) (J : JL l h) (hl : l.length + n ≤ 6404) (hS : ∀ o, o < n → ∃ i : Nat, h.2.1 145 o = (i : Int) ∧ SNe μ o n e i) :
    con G 3 0 0 m_Judge_hearParallels [av_R (some 143), av_R (some c), av_R (some (c + 7 + 14 * n)), av_I (n : Int), av_I (e : Int)] h (fun r h' => r = none ∧ hb s h' ∧ fr JWa h h' ∧ JL (l ++ parF μ n e n) h') := by
  obtain ⟨hv, -, -, hE, -, n4⟩ := CV_v H hn
  refine c_Judge_hearParallels H.1 hv (X3 := fun v5 hh => ∃ k : Nat, v5 = (k : Int) ∧ k ≤ n ∧ fr JWa h hh ∧ JL (l ++ parF μ n e k) hh) ?_ hb0 (fun _ _ => ?_)
  · refine lp_Judge_hearParallels_3 H.1 hv _ (fun v5 _ => (5 - v5).toNat) ?_
    rintro v5 hh hb1 ⟨k, rfl, hk, f, J1⟩
    have H1 := CV_f H f JW_43
    unfold B_Judge_hearParallels_3 B_Judge_hearParallels_66 B_Judge_hearParallels_60
    refine ⟨fun q => ?_, fun q => ⟨fun q2 => by omega, fun q2 => ?_⟩⟩
    · obtain rfl : k = n := by omega
      exact ⟨rfl, hb1, f, J1⟩
    have ho : (k : Int) < μ 0 7 := by omega
    refine con_mono (t_Score_voiceAt hb1 H.1 H1.2.1) ?_
    rintro r h2 ⟨hb2, rfl, ⟨-, -, rfl⟩ | ⟨q1, -⟩⟩
    rotate_left
    · omega
    rw [tn_c]
    refine ⟨_, rfl, hb2, Or.inr ⟨_, rfl, (CV_v H1 ho).1, by omega, fun x7 e7 _ _ => ?_⟩⟩
    obtain ⟨i, hi, Si⟩ := hS k (by omega)
    have ex : x7 = (i : Int) := e7.trans ((fr_g f (by omega)).trans hi)
    subst ex
    have len : (l ++ parF μ n e k).length < 6404 := by
      have := parF_l (μ := μ) (n := n) (e := e) (k := k)
      rw [List.length_append]
      omega
    refine con_mono (j_parallel hb2 H1 ho hn he Si) ?_
    rintro r h4 ⟨z, rfl, hb4, rfl, zz⟩
    refine ⟨z, rfl, hb4, fun q3 => ⟨⟨by omega, by omega⟩, ⟨k + 1, by omega, by omega, f, ?_⟩, by omega⟩, fun q3 => ?_⟩
    · have no : ¬ PAs μ k n e := by
        rcases zz with ⟨-, x⟩ | ⟨x, -⟩
        · exact x
        · omega
      show JL (l ++ (parF μ n e k ++ pif (PAs μ k n e) [(5, (n : Int), (e : Int), (k : Int))])) h4
      rw [pif_f no, List.append_nil]
      exact J1
    · have yes : PAs μ k n e := by
        rcases zz with ⟨x, -⟩ | ⟨-, x⟩
        · exact absurd x q3
        · exact x
      refine con_mono (j_add hb4 J1 len) ?_
      rintro r h5 ⟨rfl, hb5, f5, J5⟩
      refine ⟨rfl, hb5, ⟨by omega, by omega⟩, ⟨k + 1, by omega, by omega, fr_t f f5 (fun _ _ w => w), ?_⟩, by omega⟩
      show JL (l ++ (parF μ n e k ++ pif (PAs μ k n e) [(5, (n : Int), (e : Int), (k : Int))])) h5
      rw [pif_t yes, ← List.append_assoc]
      exact J5
  · unfold B_Judge_hearParallels_0
    exact ⟨0, rfl, by omega, fr_0, by show JL (l ++ []) h; rw [List.append_nil]; exact J⟩
end

/-! ===== judge, the class: a voice, all voices ===== -/
/-- both sides of the comparison of a BAR with the TIME -/
def whT (μ : pm_T) (n b : Nat) : Int := (smT μ n (brE μ n (b + 1)) * smB μ n (brE μ n b) - smT μ n (brE μ n b) * smB μ n (brE μ n (b + 1))) * μ 0 2
def whB (μ : pm_T) (n b : Nat) : Int := (smB μ n (brE μ n (b + 1)) * smB μ n (brE μ n b)) * μ 0 1
def WHo (μ : pm_T) (n b : Nat) : Prop := whT μ n b = whB μ n b ∨ (whT μ n b < whB μ n b ∧ (b = 0 ∨ (b : Int) = μ (10 + n) 1 - 1))
theorem whp_b {μ : pm_T} (GG : GM μ) {n b : Nat} (hn : (n : Int) < μ 0 7) : 0 ≤ smT μ n (brE μ n (b + 1)) * smB μ n (brE μ n b) - smT μ n (brE μ n b) * smB μ n (brE μ n (b + 1)) := by
  have h := GM_m GG hn (i := brE μ n b) (brE μ n (b + 1)) (brE_m GG hn) (brE_b GG hn)
  unfold SE at h
  omega
section
variable {G : cx_T} {s c n e b : Nat} {h : ah_T} {μ : pm_T} {l : List JQ}
theorem j_bar (hb0 : hb s h) (H : CV μ c h) (hn : (n : Int) < μ 0 7) (hb1 : (b : Int) < μ (10 + n) 1) : con G 1 0 0 m_Voice_compareBar [av_R (some (c + 7 + 14 * n)), av_I (b : Int), av_I (μ 0 1), av_I (μ 0 2)] h (fun r h' => ∃ z : Int, r = some (av_I z) ∧ hb s h' ∧ h' = h ∧ (z = 0 ↔ whT μ n b = whB μ n b) ∧ (z < 0 ↔ whT μ n b < whB μ n b)) := by
  obtain ⟨hv, -, -, hE, hB, -⟩ := CV_v H hn
  have GG := H.2.2.1
  have T := GG.2.1
  have f0 := CV_b H hn (b := b) (Int.le_of_lt hb1)
  have f1 := CV_b H hn (b := b + 1) (by omega)
  have e0 := brE_b GG (b := b) hn
  have e1 := brE_b GG (b := b + 1) hn
  obtain ⟨t1, t2⟩ := CV_t H hn e0
  obtain ⟨t3, t4⟩ := CV_t H hn e1
  have b0 := GM_b GG hn (brE μ n b)
  have b1 := GM_b GG hn (brE μ n (b + 1))
  have wb := whp_b GG (b := b) hn
  unfold whT whB
  generalize brE μ n b = i at *
  generalize brE μ n (b + 1) = j at *
  have p1 := pr_b b1.1 b1.2 b0.2
  have p2 := pr_b b0.1 b0.2 b1.2
  have p3 : 0 ≤ smB μ n j * smB μ n i ∧ smB μ n j * smB μ n i ≤ 1000000000000 := by
    have h1 : 0 ≤ smB μ n j * smB μ n i := Int.mul_nonneg (by omega) (by omega)
    have h2 : smB μ n j * smB μ n i ≤ 1000000 * 1000000 := Int.mul_le_mul b1.2.2 b0.2.2 (by omega) (by omega)
    omega
  refine c_Voice_compareBar hv hb0 (fun _ _ _ => ?_)
  unfold B_Voice_compareBar_0
  refine ⟨⟨by omega, by omega⟩, by omega, ?_⟩
  rw [show ((b : Int) + 1).toNat = b + 1 by omega]
  intro x3 ex3 _ _
  obtain rfl := ex3.trans f1
  refine con_mono (c_Voice_sinceBarTop hv (Q := fun r h' => r = some (av_L (smT μ n j * smB μ n i - smT μ n i * smB μ n j)) ∧ hb s h' ∧ h' = h) hb0 (fun _ _ => ?_)) ?_
  · unfold B_Voice_sinceBarTop_0
    refine ⟨by omega, ?_⟩
    rw [tn_c, tn_c]
    intro x2 e2 _ _
    obtain rfl := e2.trans f0
    refine ⟨by omega, fun x5 e5 _ _ => ⟨by omega, ?_⟩⟩
    rw [tn_c]
    intro x8 e8 _ _ x10 e10
    obtain rfl := e5.trans t3
    obtain rfl := e8.trans t2
    refine ⟨by omega, fun x13 e13 _ _ x15 e15 _ _ x16 e16 => ?_⟩
    obtain rfl := e13.trans t1
    obtain rfl := e15.trans t4
    refine ⟨by omega, by omega, ?_, hb0, rfl⟩
    rw [e10, e16]
  rintro r h2 ⟨rfl, hb2, rfl⟩
  have dl : smT μ n j * smB μ n i - smT μ n i * smB μ n j ≤ 1000000000000000 := by omega
  generalize smT μ n j * smB μ n i - smT μ n i * smB μ n j = d at *
  have pd : 0 ≤ d * μ 0 2 ∧ d * μ 0 2 ≤ 1000000000000000 * 32 := ⟨Int.mul_nonneg wb (by have := T.2.1; omega), Int.mul_le_mul (by omega) T.2.1.2 (by have := T.2.1; omega) (by omega)⟩
  have pe : 0 ≤ (smB μ n j * smB μ n i) * μ 0 1 ∧ (smB μ n j * smB μ n i) * μ 0 1 ≤ 1000000000000 * 32 := ⟨Int.mul_nonneg p3.1 (by have := T.1; omega), Int.mul_le_mul p3.2 T.1.2 (by have := T.1; omega) (by omega)⟩
  refine ⟨_, rfl, hb2, fun x8 e8 => ⟨by omega, ?_⟩⟩
  refine con_mono (c_Voice_sinceBarBottom hv (Q := fun r h' => r = some (av_L (smB μ n j * smB μ n i)) ∧ hb s h' ∧ h' = h2) hb2 (fun _ _ => ?_)) ?_
  · unfold B_Voice_sinceBarBottom_0
    refine ⟨by omega, ?_⟩
    rw [tn_c, tn_c]
    intro x2 e2 _ _
    obtain rfl := e2.trans t4
    refine ⟨by omega, fun x6 e6 _ _ => ?_⟩
    obtain rfl := e6.trans f0
    refine ⟨by omega, ?_⟩
    rw [tn_c]
    intro x8 e8 _ _ x10 e10
    obtain rfl := e8.trans t2
    refine ⟨by omega, ?_, hb2, rfl⟩
    rw [e10]
  rintro r h3 ⟨rfl, hb3, rfl⟩
  refine ⟨_, rfl, hb3, fun x13 e13 => ⟨by omega, ?_⟩⟩
  refine con_mono s_JLong_compare ?_
  rintro r h4 ⟨z, rfl, z1, ⟨g1, g2, g3⟩, rfl⟩
  refine ⟨z, rfl, hb3, z, rfl, hb3, rfl, ?_⟩
  rw [e8] at g1 g2 g3
  rw [e13] at g1 g2 g3
  omega
theorem j_whole (hb0 : hb s h) (H : CV μ c h) (hn : (n : Int) < μ 0 7) (hb1 : (b : Int) < μ (10 + n) 1) : con G 2 0 0 m_Judge_isWhole [av_R (some c), av_R (some (c + 7 + 14 * n)), av_I (b : Int)] h (fun r h' => ∃ z : Int, r = some (av_I z) ∧ hb s h' ∧ h' = h ∧ ((z = 0 ∧ ¬ WHo μ n b) ∨ (z = 1 ∧ WHo μ n b))) := by
  obtain ⟨hv, -, h16, hE, hB, -⟩ := CV_v H hn
  have C := H.2.1
  refine c_Judge_isWhole H.1 hv hb0 (fun _ => ?_)
  unfold B_Judge_isWhole_0 B_Judge_isWhole_36 B_Judge_isWhole_40 B_Judge_isWhole_41
  intro x1 e1 _ _ x2 e2 _ _
  obtain rfl := e1.trans C.1.2.1
  obtain rfl := e2.trans C.1.2.2.1
  refine con_mono (j_bar hb0 H hn hb1) ?_
  rintro r h2 ⟨z, rfl, hb2, rfl, z1, z2⟩
  have yes : WHo μ n b → ((1 : Int) = 0 ∨ (1 : Int) = 1) ∧ ∃ z : Int, some (av_I 1) = some (av_I z) ∧ hb s h2 ∧ h2 = h2 ∧ ((z = 0 ∧ ¬ WHo μ n b) ∨ (z = 1 ∧ WHo μ n b)) := fun w => ⟨Or.inr rfl, 1, rfl, hb2, rfl, Or.inr ⟨rfl, w⟩⟩
  have no : ¬ WHo μ n b → ((0 : Int) = 0 ∨ (0 : Int) = 1) ∧ ∃ z : Int, some (av_I 0) = some (av_I z) ∧ hb s h2 ∧ h2 = h2 ∧ ((z = 0 ∧ ¬ WHo μ n b) ∨ (z = 1 ∧ WHo μ n b)) := fun w => ⟨Or.inl rfl, 0, rfl, hb2, rfl, Or.inl ⟨rfl, w⟩⟩
  refine ⟨z, rfl, hb2, fun q => yes (Or.inl (z1.mp q)), fun q => ⟨fun q2 => no (fun w => ?_), fun q2 => ⟨fun q3 => yes (Or.inr ⟨z2.mp (by omega), Or.inl (by omega)⟩), fun q3 x6 e6 _ _ => ?_⟩⟩⟩
  · rcases w with w | ⟨w, -⟩
    · exact q (z1.mpr w)
    · have := z2.mpr w
      omega
  · have ex := e6.trans h16
    subst ex
    refine ⟨⟨by omega, by omega⟩, fun q4 => yes (Or.inr ⟨z2.mp (by omega), Or.inr q4⟩), fun q4 => no (fun w => ?_)⟩
    rcases w with w | ⟨-, w | w⟩
    · exact q (z1.mpr w)
    · omega
    · omega
end

/-! ===== judge, the class: a voice ===== -/
noncomputable def barF (μ : pm_T) (n e k : Nat) : List JQ := catl (fun b => pif (brE μ n b = e ∧ ¬ WHo μ n b) [(1, (n : Int), (e : Int), (b : Int))]) k
noncomputable def evF (μ : pm_T) (n e : Nat) : List JQ := aloF μ n e ++ croF μ n e n ++ parF μ n e n
noncomputable def atF (μ : pm_T) (n e : Nat) : List JQ := barF μ n e (μ (10 + n) 1).toNat ++ pif ((e : Int) < μ (10 + n) 0) (evF μ n e)
noncomputable def voF (μ : pm_T) (n k : Nat) : List JQ := catl (atF μ n) k
noncomputable def juF (μ : pm_T) (k : Nat) : List JQ := catl (fun n => voF μ n ((μ (10 + n) 0).toNat + 1)) k
theorem barF_0 {μ : pm_T} {n e : Nat} : ∀ k : Nat, (∀ j, j < k → brE μ n j ≠ e) → barF μ n e k = []
  | 0, _ => rfl
  | k + 1, h => by
    show barF μ n e k ++ pif (brE μ n k = e ∧ ¬ WHo μ n k) _ = []
    rw [barF_0 k (fun j hj => h j (by omega)), pif_f (fun w => h k (by omega) w.1)]
    rfl
theorem barF_e {μ : pm_T} {n e b : Nat} : ∀ k : Nat, b ≤ k → (∀ j, b ≤ j → j < k → brE μ n j ≠ e) → barF μ n e k = barF μ n e b
  | 0, h, _ => by
    have : b = 0 := by omega
    subst this; rfl
  | k + 1, h, q => by
    by_cases c : b = k + 1
    · subst c; rfl
    · show barF μ n e k ++ pif (brE μ n k = e ∧ ¬ WHo μ n k) _ = _
      rw [barF_e k (by omega) (fun j h1 h2 => q j h1 (by omega)), pif_f (fun w => q k (by omega) (by omega) w.1), List.append_nil]
theorem brE_mm {μ : pm_T} (GG : GM μ) {n b : Nat} (hn : (n : Int) < μ 0 7) : ∀ k : Nat, b ≤ k → brE μ n b ≤ brE μ n k
  | 0, h => by
    have : b = 0 := by omega
    subst this; exact Nat.le_refl _
  | k + 1, h => by
    by_cases c : b = k + 1
    · subst c; exact Nat.le_refl _
    · exact Nat.le_trans (brE_mm GG hn k (by omega)) (brE_m GG hn)
/-- what is sounding -/
def SDo (μ : pm_T) (n e : Nat) (h : ah_T) : Prop := ∀ o, o < n → ∃ i : Nat, h.2.1 145 o = (i : Int) ∧ (i : Int) ≤ μ (10 + o) 0 ∧ ((e : Int) < μ (10 + n) 0 → ∀ j, j < i → SE μ o (j + 1) n e)
/-- room for the faults to come -/
def wEv (n e : Nat) : Nat := (2 + 2 * n) * (300 - e)
theorem wEv_s {n e : Nat} (h : e < 300) : wEv n e = wEv n (e + 1) + (2 + 2 * n) := by
  unfold wEv
  rw [show 300 - e = 300 - (e + 1) + 1 by omega, Nat.mul_add, Nat.mul_one]
theorem wEv_m {n e : Nat} : wEv n (e + 1) ≤ wEv n e := Nat.mul_le_mul_left _ (by omega)
section
variable {G : cx_T} {s c n : Nat} {h : ah_T} {μ : pm_T} {l : List JQ}
def JI33 (μ : pm_T) (n : Nat) (l : List JQ) (h : ah_T) (v4 v5 : Int) (hh : ah_T) : Prop := ∃ b e : Nat, v4 = (b : Int) ∧ v5 = (e : Int) ∧ (b : Int) ≤ μ (10 + n) 1 ∧ (e : Int) ≤ μ (10 + n) 0 + 1 ∧ fr JWc h hh ∧ JL (l ++ voF μ n e) hh ∧ (∀ j, j < b → brE μ n j < e) ∧ ((b : Int) < μ (10 + n) 1 → e ≤ brE μ n b) ∧ SDo μ n e hh ∧ (l ++ voF μ n e).length + wEv n e + (101 - b) ≤ 6404
def JI42 (μ : pm_T) (n : Nat) (l : List JQ) (h : ah_T) (v4 v5 : Int) (hh : ah_T) : Prop := ∃ b e : Nat, v4 = (b : Int) ∧ v5 = (e : Int) ∧ (b : Int) ≤ μ (10 + n) 1 ∧ (e : Int) ≤ μ (10 + n) 0 ∧ fr JWc h hh ∧ JL (l ++ voF μ n e ++ barF μ n e b) hh ∧ (∀ j, j < b → brE μ n j ≤ e) ∧ ((b : Int) < μ (10 + n) 1 → e ≤ brE μ n b) ∧ SDo μ n e hh ∧ (l ++ voF μ n e ++ barF μ n e b).length + wEv n e + (101 - b) ≤ 6404
theorem j_voice (hb0 : hb s h) (H : CV μ c h) (hn : (n : Int) < μ 0 7) (J : JL l h) (hl : l.length + wEv n 0 + 101 ≤ 6404) :
    con G 4 0 0 m_Judge_hearVoice [av_R (some 143), av_R (some c), av_R (some (c + 7 + 14 * n)), av_I (n : Int)] h (fun r h' => r = none ∧ hb s h' ∧ fr JWc h h' ∧ JL (l ++ voF μ n ((μ (10 + n) 0).toNat + 1)) h') := by
  obtain ⟨hv, h14, h16, hE, hB, n4⟩ := CV_v H hn
  have GG := H.2.2.1
  have key : ∀ (N : Nat) (v4 v5 : Int) (hh : ah_T), hb s hh → JI33 μ n l h v4 v5 hh → (400 - v5).toNat < N → aw G (rm_R 4 0 0) m_Judge_hearVoice 0 0 33 [some (av_R (some 143)), some (av_R (some c)), some (av_R (some (c + 7 + 14 * n))), some (av_I (n : Int)), some (av_I v4), some (av_I v5)] [] hh (fun r h' => r = none ∧ hb s h' ∧ fr JWc h h' ∧ JL (l ++ voF μ n ((μ (10 + n) 0).toNat + 1)) h') := by
    intro N
    induction N with
    | zero => intro v4 v5 hh _ _ q; omega
    | succ N ih =>
      intro v4 v5 hh hbh I33 hN
      have v5b : v5 ≤ 301 := by
        obtain ⟨b, e, -, rfl, -, e1, -⟩ := I33
        omega
      have in42 : ∀ (v4' v5' : Int) (h' : ah_T), hb s h' → (JI42 μ n l h v4' v5' h' ∧ v5' = v5) → aw G (rm_R 4 0 0) m_Judge_hearVoice 0 0 42 [some (av_R (some 143)), some (av_R (some c)), some (av_R (some (c + 7 + 14 * n))), some (av_I (n : Int)), some (av_I v4'), some (av_I v5')] [] h' (fun r h' => r = none ∧ hb s h' ∧ fr JWc h h' ∧ JL (l ++ voF μ n ((μ (10 + n) 0).toNat + 1)) h') := by
        refine lp_Judge_hearVoice_42 (X33 := fun a b h' => JI33 μ n l h a b h' ∧ b = v5 + 1) H.1 hv (fun a b h' hb' x => ih a b h' hb' x.1 (by have := x.2; omega)) _ (fun v4 _ _ => (200 - v4).toNat) ?_
        rintro v4' v5' h1 hb1 ⟨⟨b, e, rfl, rfl, b1, e1, f, J1, al, nx, Sd, ln⟩, ev⟩
        subst ev
        have H1 := CV_f H f JWc_43
        have h14' := (CV_v H1 hn).2.1
        have h16' := (CV_v H1 hn).2.2.1
        unfold B_Judge_hearVoice_42 B_Judge_hearVoice_83
        have go89 : barF μ n e (μ (10 + n) 1).toNat = barF μ n e b → (∀ j, j < b → brE μ n j < e + 1) → ((b : Int) < μ (10 + n) 1 → e + 1 ≤ brE μ n b) → B_Judge_hearVoice_89 G s c (c + 7 + 14 * n) (n : Int) (b : Int) (e : Int) h1 (fun r h' => r = none ∧ hb s h' ∧ fr JWc h h' ∧ JL (l ++ voF μ n ((μ (10 + n) 0).toNat + 1)) h') (fun a b h' => JI33 μ n l h a b h' ∧ b = (e : Int) + 1) := by
          intro eb alb nxb
          have voS : l ++ voF μ n (e + 1) = l ++ voF μ n e ++ barF μ n e b ++ pif ((e : Int) < μ (10 + n) 0) (evF μ n e) := by
            show l ++ (voF μ n e ++ (barF μ n e (μ (10 + n) 1).toNat ++ pif ((e : Int) < μ (10 + n) 0) (evF μ n e))) = _
            rw [eb, ← List.append_assoc, ← List.append_assoc]
          unfold B_Judge_hearVoice_89 B_Judge_hearVoice_124
          intro x1 ex1 _ _
          have ex := ex1.trans h14'
          subst ex
          refine ⟨fun q => ⟨⟨by omega, by omega⟩, ⟨b, e + 1, rfl, by omega, b1, by omega, f, ?_, alb, nxb, ?_, ?_⟩, rfl⟩, fun q => ?_⟩
          · rw [voS, pif_f (by omega), List.append_nil]; exact J1
          · intro o ho
            obtain ⟨i, i1, i2, -⟩ := Sd o ho
            exact ⟨i, i1, i2, fun q2 => by omega⟩
          · rw [voS, pif_f (by omega), List.append_nil]
            have := wEv_m (n := n) (e := e)
            omega
          have he : (e : Int) < μ (10 + n) 0 := by omega
          have ws := wEv_s (n := n) (e := e) (by omega)
          have la := aloF_l (μ := μ) (n := n) (e := e)
          have lc := croF_l (μ := μ) (n := n) (e := e) (k := n)
          have lpp := parF_l (μ := μ) (n := n) (e := e) (k := n)
          generalize l ++ voF μ n e ++ barF μ n e b = l1 at *
          refine con_mono (j_alone hb1 H1 hn he J1 (by omega)) ?_
          rintro r h2 ⟨rfl, hb2, f2, J2⟩
          have H2 := CV_f H1 f2 JW_43
          refine ⟨rfl, hb2, ?_⟩
          refine con_mono (j_cross hb2 H2 hn he J2 (by rw [List.length_append]; omega) (fun o ho => ?_)) ?_
          · obtain ⟨i, i1, i2, i3⟩ := Sd o ho
            exact ⟨i, (fr_g f2 (by omega)).trans i1, i2, i3 he⟩
          rintro r h3 ⟨rfl, hb3, f3, J3, S3⟩
          have H3 := CV_f H2 f3 JWc_43
          refine ⟨rfl, hb3, ?_⟩
          refine con_mono (j_para hb3 H3 hn he J3 (by rw [List.length_append, List.length_append]; omega) S3) ?_
          rintro r h4 ⟨rfl, hb4, f4, J4⟩
          have ev : l1 ++ aloF μ n e ++ croF μ n e n ++ parF μ n e n = l ++ voF μ n (e + 1) := by
            rw [voS, pif_t he]
            unfold evF
            rw [← List.append_assoc, ← List.append_assoc]
          rw [ev] at J4
          refine ⟨rfl, hb4, ⟨by omega, by omega⟩, ⟨b, e + 1, rfl, by omega, b1, by omega, fr_t (fr_t (fr_t f (fr_ac f2) (fun _ _ w => w)) f3 (fun _ _ w => w)) (fr_ac f4) (fun _ _ w => w), J4, alb, nxb, fun o ho => ?_, ?_⟩, rfl⟩
          · obtain ⟨i, i1, i2⟩ := S3 o ho
            refine ⟨i, (fr_g f4 (by omega)).trans i1, i2.1, fun q2 j hj => ?_⟩
            exact SE_le GG (by omega) hn hn (i2.2.1 j hj) (SL_e (GM_s GG hn he))
          · rw [← ev, List.length_append, List.length_append, List.length_append]
            omega
        intro x1 ex1 _ _
        have ex := ex1.trans h16'
        subst ex
        refine ⟨fun q => ?_, fun q => ⟨by omega, ?_⟩⟩
        · have : (μ (10 + n) 1).toNat = b := by omega
          exact go89 (by rw [this]) (fun j hj => by have := al j hj; omega) (fun q2 => by omega)
        rw [tn_c]
        intro x3 ex3 _ _
        have ex := ex3.trans (CV_b H1 hn (b := b) b1)
        subst ex
        have hbl : (b : Int) < μ (10 + n) 1 := by omega
        have nb := nx hbl
        refine ⟨fun q2 => go89 (barF_e _ (by omega) (fun j h1 h2 => ?_)) (fun j hj => by have := al j hj; omega) (fun _ => by omega), fun q2 => ?_⟩
        · have := brE_mm GG hn (b := b) j h1
          omega
        have eb : brE μ n b = e := by omega
        have nx2 : ((b + 1 : Nat) : Int) < μ (10 + n) 1 → e ≤ brE μ n (b + 1) := fun _ => by
          have := brE_m GG (b := b) hn
          omega
        refine con_mono (j_whole hb1 H1 hn hbl) ?_
        rintro r h2 ⟨z, rfl, hb2, rfl, zz⟩
        refine ⟨z, rfl, hb2, fun q3 => ?_, fun q3 => ⟨⟨by omega, by omega⟩, ⟨⟨b + 1, e, by omega, rfl, by omega, e1, f, ?_, ?_, nx2, Sd, ?_⟩, rfl⟩, by omega⟩⟩
        · have no : ¬ WHo μ n b := by
            rcases zz with ⟨-, x⟩ | ⟨x, -⟩
            · exact x
            · omega
          have bs : l ++ voF μ n e ++ barF μ n e (b + 1) = l ++ voF μ n e ++ barF μ n e b ++ [(1, (n : Int), (e : Int), (b : Int))] := by
            show l ++ voF μ n e ++ (barF μ n e b ++ pif (brE μ n b = e ∧ ¬ WHo μ n b) _) = _
            rw [pif_t ⟨eb, no⟩, ← List.append_assoc]
          refine con_mono (j_add hb2 J1 (by omega)) ?_
          rintro r h3 ⟨rfl, hb3, f3, J3⟩
          refine ⟨rfl, hb3, ⟨by omega, by omega⟩, ⟨⟨b + 1, e, by omega, rfl, by omega, e1, fr_t f (fr_ac f3) (fun _ _ w => w), by rw [bs]; exact J3, ?_, nx2, fun o ho => ?_, ?_⟩, rfl⟩, by omega⟩
          · intro j hj
            by_cases cj : j = b
            · subst cj; omega
            · exact al j (by omega)
          · obtain ⟨i, i1, i2⟩ := Sd o ho
            exact ⟨i, (fr_g f3 (by omega)).trans i1, i2⟩
          · rw [bs, List.length_append]
            show _ + 1 + _ + _ ≤ _
            omega
        · have yes : WHo μ n b := by
            rcases zz with ⟨x, -⟩ | ⟨-, x⟩
            · exact absurd x q3
            · exact x
          show JL (l ++ voF μ n e ++ (barF μ n e b ++ pif (brE μ n b = e ∧ ¬ WHo μ n b) _)) h2
          rw [pif_f (fun w => w.2 yes), List.append_nil]
          exact J1
        · intro j hj
          by_cases cj : j = b
          · subst cj; omega
          · exact al j (by omega)
        · have yes : WHo μ n b := by
            rcases zz with ⟨x, -⟩ | ⟨-, x⟩
            · exact absurd x q3
            · exact x
          show (l ++ voF μ n e ++ (barF μ n e b ++ pif (brE μ n b = e ∧ ¬ WHo μ n b) _)).length + _ + _ ≤ _
          rw [pif_f (fun w => w.2 yes), List.append_nil]
          omega
      obtain ⟨b, e, rfl, rfl, b1, e1, f, J1, al, nx, Sd, ln⟩ := I33
      have H1 := CV_f H f JWc_43
      have h14' := (CV_v H1 hn).2.1
      refine b_Judge_hearVoice_33 (X42 := fun a b h' => JI42 μ n l h a b h' ∧ b = (e : Int)) H.1 hv in42 hbh ?_
      unfold B_Judge_hearVoice_33
      intro x1 ex1 _ _
      have ex := ex1.trans h14'
      subst ex
      have nob : barF μ n e b = [] := barF_0 b (fun j hj => by have := al j hj; omega)
      refine ⟨fun q => ⟨rfl, hbh, f, ?_⟩, fun q => ⟨⟨b, e, rfl, rfl, b1, by omega, f, by rw [nob, List.append_nil]; exact J1, fun j hj => by have := al j hj; omega, nx, Sd, by rw [nob, List.append_nil]; exact ln⟩, rfl⟩⟩
      rw [show (μ (10 + n) 0).toNat + 1 = e by omega]
      exact J1
  refine c_Judge_hearVoice H.1 hv (X3 := fun v4 hh => ∃ k : Nat, v4 = (k : Int) ∧ k ≤ 4 ∧ fr JWc h hh ∧ JL l hh ∧ ∀ o, o < k → hh.2.1 145 o = 0) ?_ hb0 (fun _ => ?_)
  · refine lp_Judge_hearVoice_3 (X33 := fun a b h' => JI33 μ n l h a b h' ∧ b = 0) H.1 hv (fun a b h' hb' x => key 500 a b h' hb' x.1 (by have := x.2; omega)) _ (fun v4 _ => (5 - v4).toNat) ?_
    rintro v4 hh hb1 ⟨k, rfl, hk, f, J1, z⟩
    unfold B_Judge_hearVoice_3
    refine ⟨fun q => ⟨⟨0, 0, rfl, rfl, by omega, by omega, f, by show JL (l ++ []) hh; rw [List.append_nil]; exact J1, fun j hj => by omega, fun _ => Nat.zero_le _, fun o ho => ?_, ?_⟩, rfl⟩, fun q => ⟨by omega, fun h4 e4 => ⟨⟨by omega, by omega⟩, ⟨k + 1, by omega, by omega, fr_i f e4 (Or.inr (Or.inr rfl)), ⟨by rw [mm_i e4 (by omega)]; exact J1.1, fun j q hq => by rw [mm_i e4 (by omega)]; exact J1.2 j q hq⟩, fun o ho => ?_⟩, by omega⟩⟩⟩
    · have b0 := (GG.2.2 o (by omega)).1
      exact ⟨0, z o (by omega), by omega, fun _ j hj => by omega⟩
    · show (l ++ []).length + _ + _ ≤ _
      rw [List.append_nil]
      omega
    · rw [tn_c] at e4
      by_cases co : o = k
      · subst co; exact mv_i e4
      · rw [mm_i e4 (by omega)]; exact z o (by omega)
  · unfold B_Judge_hearVoice_0
    exact ⟨0, rfl, by decide, fr_0, J, fun o ho => by omega⟩
end

/-! ===== judge, the class ===== -/
def cntb (μ : pm_T) (n e : Nat) : Nat → Nat
  | 0 => 0
  | k + 1 => cntb μ n e k + (if brE μ n k < e then 1 else 0)
theorem cntb_l {μ : pm_T} {n e : Nat} : ∀ k, cntb μ n e k ≤ k
  | 0 => Nat.le_refl _
  | k + 1 => by
    have := cntb_l (μ := μ) (n := n) (e := e) k
    rw [cntb]
    split <;> omega
theorem barF_c {μ : pm_T} {n e : Nat} : ∀ k, (barF μ n e k).length + cntb μ n e k ≤ cntb μ n (e + 1) k
  | 0 => Nat.le_refl _
  | k + 1 => by
    have ih := barF_c (μ := μ) (n := n) (e := e) k
    show (barF μ n e k ++ pif (brE μ n k = e ∧ ¬ WHo μ n k) [(1, (n : Int), (e : Int), (k : Int))]).length + _ ≤ _
    rw [List.length_append, cntb, cntb]
    by_cases c : brE μ n k = e
    · have := pif_l (p := brE μ n k = e ∧ ¬ WHo μ n k) (q := (1, (n : Int), (e : Int), (k : Int)))
      rw [if_neg (by omega), if_pos (by omega)]
      omega
    · rw [pif_f (fun w => c w.1)]
      show _ + 0 + _ ≤ _
      split <;> split <;> omega
theorem evF_l {μ : pm_T} {n e : Nat} : (evF μ n e).length ≤ 2 + 2 * n := by
  have la := aloF_l (μ := μ) (n := n) (e := e)
  have lc := croF_l (μ := μ) (n := n) (e := e) (k := n)
  have lpp := parF_l (μ := μ) (n := n) (e := e) (k := n)
  unfold evF
  rw [List.length_append, List.length_append]
  omega
theorem voF_l {μ : pm_T} {n : Nat} : ∀ k : Nat, (voF μ n k).length ≤ cntb μ n k (μ (10 + n) 1).toNat + (2 + 2 * n) * k
  | 0 => Nat.zero_le _
  | k + 1 => by
    have ih := voF_l (μ := μ) (n := n) k
    have b := barF_c (μ := μ) (n := n) (e := k) (μ (10 + n) 1).toNat
    have e := evF_l (μ := μ) (n := n) (e := k)
    show (voF μ n k ++ (barF μ n k (μ (10 + n) 1).toNat ++ pif ((k : Int) < μ (10 + n) 0) (evF μ n k))).length ≤ _
    rw [List.length_append, List.length_append, Nat.mul_add, Nat.mul_one]
    by_cases c : (k : Int) < μ (10 + n) 0
    · rw [pif_t c]; omega
    · rw [pif_f c]; show _ + (_ + 0) ≤ _; omega
theorem voF_end {μ : pm_T} (GG : GM μ) {n : Nat} (hn : (n : Int) < μ 0 7) : (voF μ n ((μ (10 + n) 0).toNat + 1)).length ≤ 101 + (2 + 2 * n) * 300 := by
  have M := GG.2.2 n hn
  have m1 := M.1
  have m2 := M.2.1
  generalize hE : (μ (10 + n) 0).toNat = E
  have ih := voF_l (μ := μ) (n := n) E
  have b := barF_c (μ := μ) (n := n) (e := E) (μ (10 + n) 1).toNat
  have c := cntb_l (μ := μ) (n := n) (e := E + 1) (μ (10 + n) 1).toNat
  have w : (2 + 2 * n) * E ≤ (2 + 2 * n) * 300 := Nat.mul_le_mul_left _ (by omega)
  show (voF μ n E ++ (barF μ n E (μ (10 + n) 1).toNat ++ pif ((E : Int) < μ (10 + n) 0) (evF μ n E))).length ≤ _
  rw [List.length_append, List.length_append, pif_f (by omega)]
  show _ + (_ + 0) ≤ _
  omega
def LBj : Nat → Nat
  | 0 => 0
  | n + 1 => LBj n + (101 + (2 + 2 * n) * 300)
theorem juF_l {μ : pm_T} (GG : GM μ) : ∀ n : Nat, (n : Int) ≤ μ 0 7 → (juF μ n).length ≤ LBj n
  | 0, _ => Nat.le_refl _
  | n + 1, h => by
    have ih := juF_l GG n (by omega)
    have v := voF_end GG (n := n) (by omega)
    show (juF μ n ++ voF μ n ((μ (10 + n) 0).toNat + 1)).length ≤ LBj n + (101 + (2 + 2 * n) * 300)
    rw [List.length_append]
    omega
theorem LBj_4 : ∀ n, n < 4 → LBj n + wEv n 0 + 101 ≤ 6404 := by decide
theorem t_Judge_hear {G : cx_T} {s c : Nat} {h : ah_T} {μ : pm_T} (hb0 : hb s h) (H : CV μ c h) : con G 5 0 0 m_Judge_hear [av_R (some 143), av_R (some c)] h (fun r h' => r = some (av_I ((juF μ (μ 0 7).toNat).length : Int)) ∧ hb s h' ∧ fr JWc h h' ∧ JL (juF μ (μ 0 7).toNat) h') := by
  have GG := H.2.2.1
  have b4 := GG.1.1
  refine c_Judge_hear H.1 (X7 := fun v2 hh => ∃ n : Nat, v2 = (n : Int) ∧ (n : Int) ≤ μ 0 7 ∧ fr JWc h hh ∧ JL (juF μ n) hh) ?_ hb0 ?_
  · refine lp_Judge_hear_7 H.1 _ (fun v2 _ => (5 - v2).toNat) ?_
    rintro v2 hh hb1 ⟨n, rfl, hn, f, J1⟩
    have H1 := CV_f H f JWc_43
    unfold B_Judge_hear_7 B_Judge_hear_32
    intro x1 e1 _ _
    have ex := e1.trans H1.2.1.1.1
    subst ex
    refine ⟨fun q x2 e2 _ _ => ?_, fun q => ?_⟩
    · have en : (μ 0 7).toNat = n := by omega
      rw [en]
      have ex2 := e2.trans J1.1
      subst ex2
      exact ⟨rfl, hb1, f, J1⟩
    have hn' : (n : Int) < μ 0 7 := by omega
    refine con_mono (t_Score_voiceAt hb1 H.1 H1.2.1) ?_
    rintro r h2 ⟨hb2, rfl, ⟨-, -, rfl⟩ | ⟨q1, -⟩⟩
    rotate_left
    · omega
    rw [tn_c]
    have lb := LBj_4 n (by omega)
    have ll := juF_l GG n (by omega)
    refine ⟨_, rfl, hb2, Or.inr ⟨_, rfl, (CV_v H1 hn').1, ?_⟩⟩
    refine con_mono (j_voice hb2 H1 hn' J1 (by omega)) ?_
    rintro r h3 ⟨rfl, hb3, f3, J3⟩
    exact ⟨rfl, hb3, ⟨by omega, by omega⟩, ⟨n + 1, by omega, by omega, fr_t f f3 (fun _ _ w => w), J3⟩, by omega⟩
  · unfold B_Judge_hear_0
    exact fun h1 e1 => ⟨0, rfl, b4.1, fr_i fr_0 e1 (Or.inl ⟨rfl, rfl⟩), ⟨mv_i e1, fun k q hq => by cases hq⟩⟩

/-! ===== judge, the reference: what is heard of one event ===== -/
def MV (μ : pm_T) (h : ah_T) : Prop := KSn μ h ∧ GM μ ∧ (0 < μ 0 7 → h.2.1 173 0 = μ 0 1 ∧ h.2.1 174 0 = μ 0 2)
abbrev JWm : Nat → Nat → Prop := fun a k => (a = 170 ∧ (k = 65 ∨ k = 66 ∨ k = 80)) ∨ (221 ≤ a ∧ a ≤ 224)
abbrev JWs : Nat → Nat → Prop := fun a k => a = 170 ∧ (k = 65 ∨ k = 66)
theorem MV_f {μ : pm_T} {h h' : ah_T} {W : Nat → Nat → Prop} (H : MV μ h) (f : fr W h h') (hW : ∀ a k, W a k → a = 170 ∨ 201 ≤ a) : MV μ h' := by
  obtain ⟨K, G, T⟩ := H
  have n : ∀ a k, 172 ≤ a → a ≤ 200 → ¬ W a k := fun a k q1 q2 w => by have := hW a k w; omega
  refine ⟨KSn_g K (fun a k q => ?_), G, ?_⟩
  · have r : 172 ≤ a ∧ a ≤ 200 := by
      rcases q with ⟨p1, p2⟩ | ⟨p1, p2⟩ | ⟨p1, p2⟩ | ⟨p1, p2⟩ | ⟨p1, p2⟩ | ⟨p1, p2⟩ | ⟨p1, p2⟩ | ⟨p1, p2⟩ <;> omega
    exact ⟨fr_g f (n a k r.1 r.2), fr_gl f (n a k r.1 r.2)⟩
  · rw [fr_g f (n 173 0 (by decide) (by decide)), fr_g f (n 174 0 (by decide) (by decide))]
    exact T
theorem JWm_w : ∀ a k, JWm a k → a = 170 ∨ 201 ≤ a := by
  intro a k w
  rcases w with w | w <;> omega
theorem JWs_w : ∀ a k, JWs a k → a = 170 ∨ 201 ≤ a := fun a k w => Or.inl w.1
theorem fr_sm {h h' : ah_T} (f : fr JWs h h') : fr JWm h h' := fr_w f (fun a k w => by obtain ⟨w1, w2⟩ := w; omega)
theorem MV_n {μ : pm_T} {n : Nat} {h : ah_T} (H : MV μ h) (hn : (n : Int) < μ 0 7) : h.2.1 185 n = μ (10 + n) 0 ∧ h.2.1 186 n = μ (10 + n) 1 ∧ (0 ≤ μ (10 + n) 0 ∧ μ (10 + n) 0 ≤ 300) ∧ (1 ≤ μ (10 + n) 1 ∧ μ (10 + n) 1 ≤ 101) ∧ n < 4 := by
  have V := H.1.2.2.2.2.2 n hn
  have b := H.1.2.1.2.2.2
  exact ⟨V.1.1, V.1.2, V.2.1.1, V.2.1.2, by omega⟩
theorem MV_e {μ : pm_T} {n e : Nat} {h : ah_T} (H : MV μ h) (hn : (n : Int) < μ 0 7) (he : (e : Int) < μ (10 + n) 0) : (h.2.1 191 (300 * n + e) = pt μ n e ∧ h.2.1 195 (300 * n + e) = μ (100 + 40 * n + 5) e ∧ h.2.1 196 (300 * n + e) = μ (100 + 40 * n + 6) e) ∧ (h.2.2.1 187 (300 * n + e) = smT μ n e ∧ h.2.2.1 188 (300 * n + e) = smB μ n e ∧ h.2.2.1 189 (300 * n + e) = μ (100 + 40 * n + 2) e ∧ h.2.2.1 190 (300 * n + e) = μ (100 + 40 * n + 3) e) ∧ (0 ≤ pt μ n e ∧ pt μ n e ≤ 4) ∧ ∀ p : Nat, (p : Int) < pt μ n e → h.2.1 192 (4 * (300 * n + e) + p) = ky μ n e p := by
  obtain ⟨⟨y1, y2, y3, -⟩, ⟨z0, z1, z2, z3⟩, b, k⟩ := (H.1.2.2.2.2.2 n hn).2.2.1 e he
  unfold smT smB
  rw [if_pos he, if_pos he]
  exact ⟨⟨y1, y2, y3⟩, ⟨z0, z1, z2, z3⟩, b, fun p hp => (k p hp).1⟩
theorem MV_b {μ : pm_T} {n b : Nat} {h : ah_T} (H : MV μ h) (hn : (n : Int) < μ 0 7) (hb : (b : Int) ≤ μ (10 + n) 1) : h.2.2.1 199 (102 * n + b) = smT μ n (brE μ n b) ∧ h.2.2.1 200 (102 * n + b) = smB μ n (brE μ n b) := by
  have V := H.1.2.2.2.2.2 n hn
  have m := V.2.1
  unfold brE
  split
  · rename_i c
    exact V.2.2.2.1 b c
  · have e := V.2.2.2.2
    rw [show (μ (10 + n) 1).toNat = b by omega] at e
    unfold smT smB
    rw [if_neg (by omega), if_neg (by omega)]
    exact e
section
variable {G : cx_T} {s n e : Nat} {h : ah_T} {μ : pm_T}
theorem m_compare {a b c d : Int} (hb0 : hb s h) (h1 : -9223372036854775808 ≤ a * d ∧ a * d ≤ 9223372036854775807) (h2 : -9223372036854775808 ≤ c * b ∧ c * b ≤ 9223372036854775807) : con G 0 0 0 m_MD_compare [av_R (some 170), av_L a, av_L b, av_L c, av_L d] h (fun r h' => ∃ z : Int, r = some (av_I z) ∧ hb s h' ∧ h' = h ∧ (z = 0 ↔ a * d = c * b) ∧ (z < 0 ↔ a * d < c * b)) := by
  refine c_MD_compare hb0 (fun _ _ _ _ => ?_)
  unfold B_MD_compare_0 B_MD_compare_37
  intro x1 e1
  refine ⟨by omega, fun x3 e3 => ⟨by omega, fun q => ⟨fun q2 => ⟨0, rfl, hb0, rfl, by omega, by omega⟩, fun q2 => ⟨1, rfl, hb0, rfl, by omega, by omega⟩⟩, fun q => ⟨-1, rfl, hb0, rfl, by omega, by omega⟩⟩⟩
theorem m_lowest (hb0 : hb s h) (H : MV μ h) (hn : (n : Int) < μ 0 7) (he : (e : Int) < μ (10 + n) 0) (hp : 1 ≤ pt μ n e) : con G 0 0 0 m_MD_lowest [av_R (some 170), av_I (300 * (n : Int) + (e : Int))] h (fun r h' => ∃ z : Int, r = some (av_I z) ∧ hb s h' ∧ h' = h ∧ z = ky μ n e 0) := by
  obtain ⟨-, -, hE, -, n4⟩ := MV_n H hn
  obtain ⟨-, -, b, k⟩ := MV_e H hn he
  refine c_MD_lowest hb0 (fun _ => ?_)
  unfold B_MD_lowest_0
  refine ⟨⟨by omega, by omega⟩, by omega, ?_⟩
  rw [show (4 * (300 * (n : Int) + (e : Int))).toNat = 4 * (300 * n + e) + 0 by omega]
  exact fun x3 e3 _ _ => ⟨_, rfl, hb0, rfl, e3.trans (k 0 (by omega))⟩
theorem m_highest (hb0 : hb s h) (H : MV μ h) (hn : (n : Int) < μ 0 7) (he : (e : Int) < μ (10 + n) 0) (hp : 1 ≤ pt μ n e) : con G 0 0 0 m_MD_highest [av_R (some 170), av_I (300 * (n : Int) + (e : Int))] h (fun r h' => ∃ z : Int, r = some (av_I z) ∧ hb s h' ∧ h' = h ∧ z = ky μ n e (pt μ n e - 1).toNat) := by
  obtain ⟨-, -, hE, -, n4⟩ := MV_n H hn
  obtain ⟨⟨y1, -, -⟩, -, b, k⟩ := MV_e H hn he
  refine c_MD_highest hb0 (fun _ => ?_)
  unfold B_MD_highest_0
  refine ⟨⟨by omega, by omega⟩, by omega, ?_⟩
  rw [show (300 * (n : Int) + (e : Int)).toNat = 300 * n + e by omega]
  intro x4 e4 _ _
  obtain rfl := e4.trans y1
  refine ⟨⟨by omega, by omega⟩, ⟨by omega, by omega⟩, by omega, ?_⟩
  rw [show (4 * (300 * (n : Int) + (e : Int)) + pt μ n e - 1).toNat = 4 * (300 * n + e) + (pt μ n e - 1).toNat by omega]
  exact fun x3 e3 _ _ => ⟨_, rfl, hb0, rfl, e3.trans (k _ (by omega))⟩
theorem m_modulo {a : Int} (hb0 : hb s h) : con G 0 0 0 m_MD_modulo [av_R (some 170), av_I a] h (fun r h' => ∃ z : Int, r = some (av_I z) ∧ hb s h' ∧ h' = h ∧ z = a % 12) := by
  refine c_MD_modulo hb0 (fun _ => ?_)
  unfold B_MD_modulo_0
  intro x1 e1 _ _
  have b1 : -11 ≤ x1 ∧ x1 ≤ 11 ∧ (x1 - a) % 12 = 0 := by
    rw [e1]
    have h1 := Int.tmod_add_mul_tdiv a 12
    by_cases c : 0 ≤ a
    · have := Int.tmod_nonneg 12 c
      have := Int.tmod_lt_of_pos a (show (0 : Int) < 12 by decide)
      omega
    · have e := Int.neg_tmod (-a) 12
      rw [Int.neg_neg] at e
      have := Int.tmod_nonneg 12 (show 0 ≤ -a by omega)
      have := Int.tmod_lt_of_pos (-a) (show (0 : Int) < 12 by decide)
      omega
  refine ⟨⟨by omega, by omega⟩, fun x3 e3 _ _ => ⟨x3, rfl, hb0, rfl, ?_⟩⟩
  rw [e3, Int.tmod_eq_emod_of_nonneg (by omega)]
  omega
theorem rd_pos {x y : Int} (hx : 0 ≤ x) (hy : 1 ≤ y) : (0 ≤ rdT x y ∧ rdT x y ≤ x) ∧ (1 ≤ rdB x y ∧ rdB x y ≤ y) ∧ ∃ g : Int, 1 ≤ g ∧ x = g * rdT x y ∧ y = g * rdB x y := by
  obtain ⟨e1, e2⟩ := gc_e x y
  generalize hg : (Int.gcd x y : Int) = g at *
  have hg0 : 0 ≤ g := by rw [← hg]; exact Int.natCast_nonneg _
  have hg1 : 1 ≤ g := by
    by_cases c : g = 0
    · rw [c, Int.zero_mul] at e2; omega
    · omega
  generalize rdT x y = a at *
  generalize rdB x y = b at *
  have ha : 0 ≤ a := by
    by_cases c : 0 ≤ a
    · exact c
    · have : g * a < 0 := Int.mul_neg_of_pos_of_neg (by omega) (by omega)
      omega
  have hb : 1 ≤ b := by
    by_cases c : 1 ≤ b
    · exact c
    · have : g * b ≤ 0 := Int.mul_nonpos_of_nonneg_of_nonpos (by omega) (by omega)
      omega
  have la : 1 * a ≤ g * a := Int.mul_le_mul_of_nonneg_right hg1 ha
  have lb : 1 * b ≤ g * b := Int.mul_le_mul_of_nonneg_right hg1 (by omega)
  exact ⟨⟨ha, by omega⟩, ⟨hb, by omega⟩, g, hg1, e1, e2⟩
theorem m_isAhead {o i : Nat} (hb0 : hb s h) (H : MV μ h) (hn : (n : Int) < μ 0 7) (he : (e : Int) < μ (10 + n) 0) (ho : (o : Int) < μ 0 7) (hi : (i : Int) < μ (10 + o) 0) : con G 3 0 0 m_MD_isAhead [av_R (some 170), av_I (300 * (n : Int) + (e : Int)), av_I (300 * (o : Int) + (i : Int))] h (fun r h' => ∃ z : Int, r = some (av_I z) ∧ hb s h' ∧ fr JWs h h' ∧ h'.2.1 = h.2.1 ∧ (z = 0 ↔ SL μ o i n (e + 1))) := by
  obtain ⟨-, -, hE, -, n4⟩ := MV_n H hn
  obtain ⟨-, -, hO, -, o4⟩ := MV_n H ho
  obtain ⟨-, ⟨z0, z1, z2, z3⟩, -⟩ := MV_e H hn he
  obtain ⟨-, ⟨w0, w1, -⟩, -⟩ := MV_e H ho hi
  have GG := H.2.1
  have bn := GM_b GG hn e
  have bn1 := GM_b GG hn (e + 1)
  have bo := GM_b GG ho i
  have M := ((GG.2.2 n hn).2.2.2.1 e he).2.2.2.2.2.1
  obtain ⟨r1, r2⟩ := (GG.1.2 n hn).1 e he
  refine c_MD_isAhead hb0 (fun _ _ => ?_)
  unfold B_MD_isAhead_0 B_MD_isAhead_60
  refine ⟨by omega, ?_⟩
  rw [show (300 * (n : Int) + (e : Int)).toNat = 300 * n + e by omega, show (300 * (o : Int) + (i : Int)).toNat = 300 * o + i by omega]
  intro x2 e2 _ _ x5 e5 _ _ x7 e7 _ _ x9 e9 _ _
  obtain rfl := e2.trans z0
  obtain rfl := e5.trans z1
  obtain rfl := e7.trans z2
  obtain rfl := e9.trans z3
  have p1 := pr_b bn.1 bn.2 ⟨M.2.2.1, M.2.2.2⟩
  have p2 := pr_b (a := μ (100 + 40 * n + 2) e) ⟨by omega, M.2.1⟩ ⟨M.2.2.1, M.2.2.2⟩ bn.2
  have p3 : 1 ≤ smB μ n e * μ (100 + 40 * n + 3) e ∧ smB μ n e * μ (100 + 40 * n + 3) e ≤ 1000000000000 := by
    have h1 := Int.mul_le_mul bn.2.1 M.2.2.1 (by omega) (by omega)
    have h2 : smB μ n e * μ (100 + 40 * n + 3) e ≤ 1000000 * 1000000 := Int.mul_le_mul bn.2.2 M.2.2.2 (by omega) (by omega)
    omega
  refine con_mono (t_MD_sum hb0 (by omega) (by omega) (by omega) (by omega)) ?_
  rintro r h2 ⟨rfl, hb2, f2, t1, t2, t3⟩
  refine ⟨rfl, hb2, fun x13 e13 _ _ x14 e14 _ _ => ⟨by omega, fun x16 e16 _ _ x19 e19 _ _ => ?_⟩⟩
  obtain rfl := e13.trans (t1.trans r1.symm)
  obtain rfl := e14.trans (t2.trans r2.symm)
  have ef : ∀ a k, 172 ≤ a → h2.2.2.1 a k = h.2.2.1 a k := fun a k q => fr_gl f2 (by omega)
  obtain rfl := e16.trans ((ef 187 _ (by decide)).trans w0)
  obtain rfl := e19.trans ((ef 188 _ (by decide)).trans w1)
  have q1 := pr_b bn1.1 bn1.2 bo.2
  have q2 := pr_b bo.1 bo.2 bn1.2
  refine con_mono (m_compare hb2 (by omega) (by omega)) ?_
  rintro r h3 ⟨z, rfl, hb3, rfl, g1, g2⟩
  have f3 : fr JWs h h3 := fr_w f2 (fun a k w => w)
  refine ⟨z, rfl, hb3, fun q => ⟨Or.inl rfl, 0, rfl, hb3, f3, t3, ?_⟩, fun q => ⟨Or.inr rfl, 1, rfl, hb3, f3, t3, ?_⟩⟩
  · unfold SL
    refine ⟨fun _ => ?_, fun _ => rfl⟩
    omega
  · unfold SL
    omega
end

/-! ===== judge, the reference: two voices, ties, bars ===== -/
theorem nx300 (n e : Nat) : (300 * (n : Int) + (e : Int)).toNat = 300 * n + e := by omega
section
variable {G : cx_T} {s n e : Nat} {h : ah_T} {μ : pm_T}
theorem m_crosses {o : Nat} (hb0 : hb s h) (H : MV μ h) (hn : (n : Int) < μ 0 7) (he : (e : Int) < μ (10 + n) 0) (ho : (o : Int) < μ 0 7) (hp : 1 ≤ pt μ n e) : con G 4 0 0 m_MD_crosses [av_R (some 170), av_I (300 * (n : Int) + (e : Int)), av_I (o : Int)] h (fun r h' => ∃ z : Int, r = some (av_I z) ∧ hb s h' ∧ fr JWs h h' ∧ h'.2.1 = h.2.1 ∧ ((z = 0 ∧ ¬ CRs μ o n e) ∨ (z = 1 ∧ CRs μ o n e))) := by
  obtain ⟨hO1, -, hO, -, o4⟩ := MV_n H ho
  refine c_MD_crosses (X2 := fun v3 hh => fr JWs h hh ∧ hh.2.1 = h.2.1 ∧ ∃ k : Nat, v3 = (k : Int) ∧ (k : Int) ≤ μ (10 + o) 0 ∧ ∀ j, j < k → ¬ CRo μ o n e j) ?_ hb0 (fun _ _ => ?_)
  · refine lp_MD_crosses_2 _ (fun v3 _ => (301 - v3).toNat) ?_
    rintro v3 hh hb1 ⟨f, ei, k, rfl, hk, al⟩
    have H1 := MV_f H f JWs_w
    have step : ¬ CRo μ o n e k → ∀ j, j < k + 1 → ¬ CRo μ o n e j := fun q j hj => by
      by_cases cj : j = k
      · subst cj; exact q
      · exact al j (by omega)
    unfold B_MD_crosses_2 B_MD_crosses_67
    refine ⟨by omega, ?_⟩
    rw [tn_c]
    intro x2 e2 _ _
    have ex := e2.trans (MV_n H1 ho).1
    subst ex
    refine ⟨fun q => ⟨0, rfl, hb1, f, ei, Or.inl ⟨rfl, ?_⟩⟩, fun q => ⟨⟨by omega, by omega⟩, ⟨by omega, by omega⟩, by omega, ?_⟩⟩
    · rintro ⟨-, j, hj⟩
      exact al j (by have := hj.1; omega) hj
    have hk' : (k : Int) < μ (10 + o) 0 := by omega
    rw [nx300]
    intro x7 e7 _ _
    have ex := e7.trans (MV_e H1 ho hk').1.1
    subst ex
    refine ⟨fun q2 => ⟨⟨by omega, by omega⟩, ⟨f, ei, k + 1, by omega, by omega, step (fun w => by have := w.2.1; omega)⟩, by omega⟩, fun q2 => ?_⟩
    refine con_mono (m_isAhead hb1 H1 hn he ho hk') ?_
    rintro r h2 ⟨z, rfl, hb2, f2, i2, z1⟩
    have f2' := fr_t f f2 (fun _ _ w => w)
    have H2 := MV_f H1 f2 JWs_w
    refine ⟨z, rfl, hb2, fun q3 => ?_, fun q3 => ⟨⟨by omega, by omega⟩, ⟨f2', i2.trans ei, k + 1, by omega, by omega, step (fun w => q3 (z1.mpr w.2.2.2.1))⟩, by omega⟩⟩
    refine con_mono (m_isAhead hb2 H2 ho hk' hn he) ?_
    rintro r h3 ⟨z', rfl, hb3, f3, i3, z2⟩
    have f3' := fr_t f2' f3 (fun _ _ w => w)
    have H3 := MV_f H2 f3 JWs_w
    have i3' := i3.trans (i2.trans ei)
    refine ⟨z', rfl, hb3, fun q4 => ?_, fun q4 => ⟨⟨by omega, by omega⟩, ⟨f3', i3', k + 1, by omega, by omega, step (fun w => q4 (z2.mpr w.2.2.1))⟩, by omega⟩⟩
    refine con_mono (m_lowest hb3 H3 ho hk' (by omega)) ?_
    rintro r h4 ⟨lo, rfl, hb4, rfl, l1⟩
    refine ⟨lo, rfl, hb4, ?_⟩
    refine con_mono (m_highest hb4 H3 hn he hp) ?_
    rintro r h5 ⟨hi, rfl, hb5, rfl, l2⟩
    exact ⟨hi, rfl, hb5, fun q5 => ⟨⟨by omega, by omega⟩, ⟨f3', i3', k + 1, by omega, by omega, step (fun w => by have := w.2.2.2.2; omega)⟩, by omega⟩, fun q5 => ⟨1, rfl, hb5, f3', i3', Or.inr ⟨rfl, hp, k, hk', by omega, z2.mp q4, z1.mp q3, by omega⟩⟩⟩
  · unfold B_MD_crosses_0
    exact ⟨fr_0, rfl, 0, rfl, by omega, fun j hj => by omega⟩
theorem SE_u {o i j : Nat} (GG : GM μ) (ho : (o : Int) < μ 0 7) (hn : (n : Int) < μ 0 7) (hi : (i : Int) < μ (10 + o) 0) (hj : (j : Int) < μ (10 + o) 0) (a1 : SE μ o i n e) (a2 : SE μ n e o i) (b1 : SE μ o j n e) (b2 : SE μ n e o j) : i = j := by
  by_cases c1 : i < j
  · exact absurd (SE_le GG ho hn ho b1 a2) (SE_n.mpr (GM_l GG ho c1 (by omega)))
  · by_cases c2 : j < i
    · exact absurd (SE_le GG ho hn ho a1 b2) (SE_n.mpr (GM_l GG ho c2 (by omega)))
    · omega
theorem m_goesAlong {o : Nat} (hb0 : hb s h) (H : MV μ h) (hn : (n : Int) < μ 0 7) (he : (e : Int) < μ (10 + n) 0) (ho : (o : Int) < μ 0 7) (h1e : 1 ≤ e) : con G 1 0 0 m_MD_goesAlong [av_R (some 170), av_I (300 * (n : Int) + (e : Int)), av_I (o : Int)] h (fun r h' => ∃ z : Int, r = some (av_I z) ∧ hb s h' ∧ h' = h ∧ ((z = 0 ∧ ¬ PAs μ o n e) ∨ (z = 1 ∧ PAs μ o n e))) := by
  have GG := H.2.1
  obtain ⟨hO1, -, hO, -, o4⟩ := MV_n H ho
  obtain ⟨hN1, -, hN, -, n4⟩ := MV_n H hn
  have he1 : ((e - 1 : Nat) : Int) < μ (10 + n) 0 := by omega
  obtain ⟨⟨y1, -, -⟩, ⟨z0, z1, -⟩, -⟩ := MV_e H hn he
  obtain ⟨⟨y1', -, -⟩, -⟩ := MV_e H hn he1
  have bn := GM_b GG hn e
  refine c_MD_goesAlong (X2 := fun v3 hh => hh = h ∧ ∃ k : Nat, v3 = (k : Int) ∧ 1 ≤ k ∧ (∀ j, j < k → ¬ PAo μ o n e j) ∧ (k : Int) ≤ 301) ?_ hb0 (fun _ _ => ?_)
  · refine lp_MD_goesAlong_2 _ (fun v3 _ => (302 - v3).toNat) ?_
    rintro v3 hh hb1 ⟨rfl, k, rfl, k1, al, k3⟩
    unfold B_MD_goesAlong_2
    refine ⟨by omega, ?_⟩
    rw [tn_c]
    intro x2 e2 _ _
    have ex := e2.trans hO1
    subst ex
    refine ⟨fun q => ⟨0, rfl, hb1, rfl, Or.inl ⟨rfl, ?_⟩⟩, fun q => ⟨⟨by omega, by omega⟩, ⟨by omega, by omega⟩, by omega, ?_⟩⟩
    · rintro ⟨-, j, hj⟩
      exact al j (by have := hj.1.2; omega) hj
    have hk' : (k : Int) < μ (10 + o) 0 := by omega
    have hk1 : ((k - 1 : Nat) : Int) < μ (10 + o) 0 := by omega
    obtain ⟨⟨v1, -, -⟩, ⟨w0, w1, -⟩, -⟩ := MV_e H ho hk'
    obtain ⟨⟨v1', -, -⟩, -⟩ := MV_e H ho hk1
    have bo := GM_b GG ho k
    rw [nx300, nx300]
    intro x7 e7 _ _ x10 e10 _ _
    obtain rfl := e7.trans w0
    obtain rfl := e10.trans w1
    refine ⟨by omega, fun x12 e12 _ _ x15 e15 _ _ => ?_⟩
    obtain rfl := e12.trans z0
    obtain rfl := e15.trans z1
    have p1 := pr_b bo.1 bo.2 bn.2
    have p2 := pr_b bn.1 bn.2 bo.2
    refine con_mono (m_compare hb1 (by omega) (by omega)) ?_
    rintro r h2 ⟨z, rfl, hb2, rfl, g1, g2⟩
    refine ⟨z, rfl, hb2, fun q2 => ?_, fun q2 => ⟨⟨by omega, by omega⟩, ⟨rfl, k + 1, by omega, by omega, fun j hj => ?_, by omega⟩, by omega⟩⟩
    rotate_left
    · by_cases cj : j = k
      · subst cj
        intro w
        have w1 := w.2.1.1
        have w2 := w.2.1.2
        unfold SE at w1 w2
        omega
      · exact al j (by omega)
    have q2' := g1.mp q2
    have s1 : SE μ o k n e := by unfold SE; omega
    have s2 : SE μ n e o k := by unfold SE; omega
    have uni : PAs μ o n e → PAo μ o n e k := fun ⟨_, j, b⟩ => by
      have := SE_u GG ho hn b.1.2 hk' b.2.1.1 b.2.1.2 s1 s2
      subst this
      exact b
    have no : ¬ PAo μ o n e k → ∃ z : Int, some (av_I 0) = some (av_I z) ∧ hb s h2 ∧ h2 = h2 ∧ ((z = 0 ∧ ¬ PAs μ o n e) ∨ (z = 1 ∧ PAs μ o n e)) := fun q => ⟨0, rfl, hb2, rfl, Or.inl ⟨rfl, fun w => q (uni w)⟩⟩
    unfold B_MD_goesAlong_103 B_MD_goesAlong_104 B_MD_goesAlong_172 B_MD_goesAlong_191 B_MD_goesAlong_192
    intro x20 e20 _ _
    obtain rfl := e20.trans v1
    have out : ¬ PAo μ o n e k → ∀ {A : Prop}, ((0 : Int) = 0 → ∃ z : Int, some (av_I 0) = some (av_I z) ∧ hb s h2 ∧ h2 = h2 ∧ ((z = 0 ∧ ¬ PAs μ o n e) ∨ (z = 1 ∧ PAs μ o n e))) ∧ (¬ (0 : Int) = 0 → A) := fun q A => ⟨fun _ => no q, fun w => absurd rfl w⟩
    refine ⟨fun q3 => out (fun w => by have := w.2.2.1.2.2.1; omega), fun q3 => ⟨⟨by omega, by omega⟩, by omega, ?_⟩⟩
    rw [show (300 * (o : Int) + (k : Int) - 1).toNat = 300 * o + (k - 1) by omega, show (300 * (n : Int) + (e : Int) - 1).toNat = 300 * n + (e - 1) by omega]
    intro x23 e23 _ _
    obtain rfl := e23.trans v1'
    refine ⟨fun q4 => out (fun w => by have := w.2.2.1.2.2.2; omega), fun q4 x26 e26 _ _ => ?_⟩
    obtain rfl := e26.trans y1
    refine ⟨fun q5 => out (fun w => by have := w.2.2.1.1; omega), fun q5 => ⟨⟨by omega, by omega⟩, by omega, fun x29 e29 _ _ => ?_⟩⟩
    obtain rfl := e29.trans y1'
    refine ⟨fun q6 => out (fun w => by have := w.2.2.1.2.1; omega), fun q6 => ⟨fun c => absurd c (by decide), fun _ => ?_⟩⟩
    have p1 : 1 ≤ pt μ n e := by omega
    have p2 : 1 ≤ pt μ n (e - 1) := by omega
    have p3 : 1 ≤ pt μ o k := by omega
    have p4 : 1 ≤ pt μ o (k - 1) := by omega
    have k1 := ky_b (k := 0) (p := 0) GG hn he (by omega)
    have k2 := ky_b (k := 0) (p := 0) GG hn he1 (by omega)
    have k3 := ky_b (k := 0) (p := 0) GG ho hk' (by omega)
    have k4 := ky_b (k := 0) (p := 0) GG ho hk1 (by omega)
    have eo : 300 * (o : Int) + (k : Int) - 1 = 300 * (o : Int) + ((k - 1 : Nat) : Int) := by omega
    have en : 300 * (n : Int) + (e : Int) - 1 = 300 * (n : Int) + ((e - 1 : Nat) : Int) := by omega
    refine con_mono (m_lowest hb2 H ho hk' p3) ?_
    rintro r h7 ⟨a, rfl, hb7, rfl, rfl⟩
    refine ⟨_, rfl, hb7, ?_⟩
    refine con_mono (m_lowest hb7 H hn he p1) ?_
    rintro r h8 ⟨b, rfl, hb8, rfl, rfl⟩
    refine ⟨_, rfl, hb8, ⟨by omega, by omega⟩, ?_⟩
    refine con_mono (m_modulo hb8) ?_
    rintro r h9 ⟨f1, rfl, hb9, rfl, f1e⟩
    refine ⟨_, rfl, hb9, ⟨by omega, by omega⟩, ?_⟩
    rw [eo]
    refine con_mono (m_lowest hb9 H ho hk1 p4) ?_
    rintro r h10 ⟨a', rfl, hb10, rfl, rfl⟩
    refine ⟨_, rfl, hb10, ⟨by omega, by omega⟩, ?_⟩
    rw [en]
    refine con_mono (m_lowest hb10 H hn he1 p2) ?_
    rintro r h11 ⟨b', rfl, hb11, rfl, rfl⟩
    refine ⟨_, rfl, hb11, ⟨by omega, by omega⟩, ?_⟩
    refine con_mono (m_modulo hb11) ?_
    rintro r h12 ⟨f2, rfl, hb12, rfl, f2e⟩
    have last : (f1 = 0 ∨ f1 = 7) → f1 = f2 → B_MD_goesAlong_172 G s (300 * (n : Int) + (e : Int)) (o : Int) h12 (fun r h' => ∃ z : Int, r = some (av_I z) ∧ hb s h' ∧ h' = h12 ∧ ((z = 0 ∧ ¬ PAs μ o n e) ∨ (z = 1 ∧ PAs μ o n e))) := by
      intro g1 g2
      unfold B_MD_goesAlong_172 B_MD_goesAlong_191 B_MD_goesAlong_192
      refine con_mono (m_lowest hb12 H hn he p1) ?_
      rintro r h13 ⟨u, rfl, hb13, rfl, rfl⟩
      refine ⟨_, rfl, hb13, ⟨by omega, by omega⟩, ?_⟩
      rw [en]
      refine con_mono (m_lowest hb13 H hn he1 p2) ?_
      rintro r h14 ⟨u', rfl, hb14, rfl, rfl⟩
      refine ⟨_, rfl, hb14, fun g3 => ⟨Or.inl rfl, no (fun w => w.2.2.2.2.2 g3)⟩, fun g3 => ⟨Or.inr rfl, 1, rfl, hb14, rfl, Or.inr ⟨rfl, h1e, k, ⟨by omega, hk'⟩, ⟨s1, s2⟩, ⟨p1, p2, p3, p4⟩, ?_, ?_, g3⟩⟩⟩
      · rw [← f1e, ← f2e]; exact g2
      · rw [← f1e]; exact g1
    unfold B_MD_goesAlong_172 B_MD_goesAlong_191 B_MD_goesAlong_192 at last
    rw [en] at last
    refine ⟨_, rfl, hb12, fun g => ⟨fun g2 => last (Or.inl g2) g, fun g2 => ⟨fun g3 => last (Or.inr g3) g, fun g3 => ⟨Or.inl rfl, no (fun w => ?_)⟩⟩⟩, fun g => ⟨Or.inl rfl, no (fun w => ?_)⟩⟩
    · have w := w.2.2.2.2.1
      rw [← f1e] at w
      omega
    · have w := w.2.2.2.1
      rw [← f1e, ← f2e] at w
      exact g w
  · unfold B_MD_goesAlong_0
    exact ⟨rfl, 1, rfl, Nat.le_refl _, fun j hj w => by have := w.1.1; omega, by omega⟩
theorem m_firstOf {b : Nat} (hb0 : hb s h) (H : MV μ h) (hn : (n : Int) < μ 0 7) (hb1 : (b : Int) < μ (10 + n) 1) : con G 0 0 0 m_MD_firstOf [av_R (some 170), av_I (n : Int), av_I (b : Int)] h (fun r h' => r = some (av_I (brE μ n b : Int)) ∧ hb s h' ∧ h' = h) := by
  have GG := H.2.1
  obtain ⟨hN1, -, hN, -, n4⟩ := MV_n H hn
  have V := GG.1.2 n hn
  have v2 := V.2.2.1 b hb1
  have eb : brE μ n b = (μ (100 + 40 * n + 30) b).toNat := by unfold brE; rw [if_pos hb1]
  refine c_MD_firstOf (X2 := fun v3 hh => hh = h ∧ ∃ k : Nat, v3 = (k : Int) ∧ k ≤ brE μ n b) ?_ hb0 (fun _ _ => ?_)
  · refine lp_MD_firstOf_2 _ (fun v3 _ => (301 - v3).toNat) ?_
    rintro v3 hh hb2 ⟨rfl, k, rfl, hk⟩
    unfold B_MD_firstOf_2 B_MD_firstOf_34
    refine ⟨by omega, ?_⟩
    rw [tn_c]
    intro x2 e2 _ _
    have ex := e2.trans hN1
    subst ex
    refine ⟨fun q => ⟨?_, hb2, rfl⟩, fun q => ⟨⟨by omega, by omega⟩, ⟨by omega, by omega⟩, by omega, ?_⟩⟩
    · rw [show brE μ n b = k by omega]
    have hk' : (k : Int) < μ (10 + n) 0 := by omega
    rw [nx300]
    intro x7 e7 _ _
    have ex := e7.trans (MV_e H hn hk').1.2.2
    subst ex
    have iff := (V.2.2.2 k hk').2 b hb1
    refine ⟨fun q2 => ⟨?_, hb2, rfl⟩, fun q2 => ⟨⟨by omega, by omega⟩, ⟨rfl, k + 1, by omega, ?_⟩, by omega⟩⟩
    · have := iff.mpr q2
      rw [show brE μ n b = k by omega]
    · have : ¬ μ (100 + 40 * n + 30) b ≤ (k : Int) := fun w => q2 (iff.mp w)
      omega
  · unfold B_MD_firstOf_0
    exact ⟨rfl, 0, rfl, Nat.zero_le _⟩
end

/-! ===== judge, the reference: ties, bars, the list ===== -/
section
variable {G : cx_T} {s n e : Nat} {h : ah_T} {μ : pm_T}
def GO28 (μ : pm_T) (n e : Nat) (h : ah_T) (v3 v4 v5 : Int) (hh : ah_T) : Prop := hh = h ∧ v3 = 300 * (n : Int) + (e : Int) ∧ ∃ k : Nat, v5 = (k : Int) ∧ (k : Int) ≤ pt μ n e ∧ ((v4 = 1 ∧ ∀ j, j < k → Hky μ n (e + 1) (ky μ n e j)) ∨ (v4 = 0 ∧ ∃ j, j < k ∧ ¬ Hky μ n (e + 1) (ky μ n e j)))
theorem m_goesOn (hb0 : hb s h) (H : MV μ h) (hn : (n : Int) < μ 0 7) (he : (e : Int) < μ (10 + n) 0) : con G 0 0 0 m_MD_goesOn [av_R (some 170), av_I (n : Int), av_I (e : Int)] h (fun r h' => ∃ z : Int, r = some (av_I z) ∧ hb s h' ∧ h' = h ∧ ((z = 0 ∧ ¬ Hld μ n e) ∨ (z = 1 ∧ Hld μ n e))) := by
  obtain ⟨hN1, -, hN, -, n4⟩ := MV_n H hn
  obtain ⟨⟨y1, -, -⟩, -, yb, yk⟩ := MV_e H hn he
  refine c_MD_goesOn (X28 := fun v3 v4 v5 hh => GO28 μ n e h v3 v4 v5 hh ∧ (e : Int) + 1 < μ (10 + n) 0) ?_ hb0 (fun _ _ => ?_)
  · have key : ∀ (N : Nat) (v3 v4 v5 : Int) (hh : ah_T), hb s hh → (GO28 μ n e h v3 v4 v5 hh ∧ (e : Int) + 1 < μ (10 + n) 0) → (10 - v5).toNat < N → aw G (rm_R 0 0 0) m_MD_goesOn 0 0 28 [some (av_R (some 170)), none, none, some (av_I v3), some (av_I v4), some (av_I v5), none, none] [] hh (fun r h' => ∃ z : Int, r = some (av_I z) ∧ hb s h' ∧ h' = h ∧ ((z = 0 ∧ ¬ Hld μ n e) ∨ (z = 1 ∧ Hld μ n e))) := by
      intro N
      induction N with
      | zero => intro v3 v4 v5 hh _ _ q; omega
      | succ N ih =>
        rintro v3 v4 v5 hh hbh ⟨⟨rfl, rfl, k, rfl, hk, al⟩, hl⟩ hN'
        have he1 : ((e + 1 : Nat) : Int) < μ (10 + n) 0 := by omega
        obtain ⟨⟨u1, -, -⟩, -, ub, uk⟩ := MV_e H hn he1
        have in45 : (k : Int) < pt μ n e → ∀ (a3 a4 a5 a6 a7 : Int) (h' : ah_T), hb s h' → (h' = hh ∧ a3 = 300 * (n : Int) + (e : Int) ∧ a4 = v4 ∧ a5 = (k : Int) ∧ ∃ j : Nat, a7 = (j : Int) ∧ (j : Int) ≤ pt μ n (e + 1) ∧ ((a6 = 1 ∧ Hky μ n (e + 1) (ky μ n e k)) ∨ (a6 = 0 ∧ ∀ i, i < j → ky μ n (e + 1) i ≠ ky μ n e k))) → aw G (rm_R 0 0 0) m_MD_goesOn 0 0 45 [some (av_R (some 170)), none, none, some (av_I a3), some (av_I a4), some (av_I a5), some (av_I a6), some (av_I a7)] [] h' (fun r h' => ∃ z : Int, r = some (av_I z) ∧ hb s h' ∧ h' = hh ∧ ((z = 0 ∧ ¬ Hld μ n e) ∨ (z = 1 ∧ Hld μ n e))) := by
          intro hkl
          refine lp_MD_goesOn_45 (a1 := (n : Int)) (a2 := (e : Int)) (X28 := fun b3 b4 b5 h' => (GO28 μ n e hh b3 b4 b5 h' ∧ (e : Int) + 1 < μ (10 + n) 0) ∧ b5 = (k : Int) + 1) (fun b3 b4 b5 h' hb' x => ih b3 b4 b5 h' hb' x.1 (by have := x.2; omega)) _ (fun _ _ _ _ a7 _ => (10 - a7).toNat) ?_
          rintro a3 a4 a5 a6 a7 h' hb' ⟨rfl, rfl, rfl, rfl, j, rfl, hj, a6c⟩
          unfold B_MD_goesOn_45 B_MD_goesOn_117 B_MD_goesOn_118 B_MD_goesOn_90 B_MD_goesOn_95
          refine ⟨⟨by omega, by omega⟩, by omega, ?_⟩
          rw [show (300 * (n : Int) + (e : Int) + 1).toNat = 300 * n + (e + 1) by omega]
          intro x3 e3 _ _
          obtain rfl := e3.trans u1
          have fin0 : ¬ Hky μ n (e + 1) (ky μ n e k) ∨ a4 = 0 → ((-2147483648) ≤ ((k : Int) + 1) ∧ ((k : Int) + 1) ≤ 2147483647) ∧ ((GO28 μ n e h' (300 * (n : Int) + (e : Int)) 0 ((k : Int) + 1) h' ∧ (e : Int) + 1 < μ (10 + n) 0) ∧ (k : Int) + 1 = (k : Int) + 1) := fun w => by
            refine ⟨⟨by omega, by omega⟩, ⟨⟨rfl, rfl, k + 1, by omega, by omega, Or.inr ⟨rfl, ?_⟩⟩, hl⟩, rfl⟩
            rcases w with w | w
            · exact ⟨k, by omega, w⟩
            · rcases al with ⟨a, -⟩ | ⟨-, i, i1, i2⟩
              · omega
              · exact ⟨i, by omega, i2⟩
          refine ⟨fun q => ⟨fun q2 => fin0 (Or.inr q2), fun q2 => ⟨fun q3 => fin0 (Or.inl ?_), fun q3 => ⟨⟨by omega, by omega⟩, ⟨⟨rfl, rfl, k + 1, by omega, by omega, Or.inl ⟨rfl, ?_⟩⟩, hl⟩, rfl⟩⟩⟩, fun q => ⟨fun q2 => ?_, fun q2 => ?_⟩⟩
          · rintro ⟨i, i1, i2⟩
            rcases a6c with ⟨a, -⟩ | ⟨-, a⟩
            · omega
            · exact a i (by omega) i2
          · intro i hi
            by_cases ci : i = k
            · subst ci
              rcases a6c with ⟨-, a⟩ | ⟨a, -⟩
              · exact a
              · exact absurd a q3
            · rcases al with ⟨-, a⟩ | ⟨a, -⟩
              · exact a i (by omega)
              · exact absurd a q2
          · refine ⟨⟨by omega, by omega⟩, ⟨by omega, by omega⟩, ⟨by omega, by omega⟩, by omega, ?_⟩
            rw [show (4 * (300 * (n : Int) + (e : Int)) + (j : Int) + 4).toNat = 4 * (300 * n + (e + 1)) + j by omega]
            intro x9 e9 _ _
            obtain rfl := e9.trans (uk j (by omega))
            refine ⟨⟨by omega, by omega⟩, by omega, ?_⟩
            rw [show (4 * (300 * (n : Int) + (e : Int)) + (k : Int)).toNat = 4 * (300 * n + e) + k by omega]
            intro x13 e13 _ _
            obtain rfl := e13.trans (yk k hkl)
            refine ⟨fun q3 => ⟨⟨by omega, by omega⟩, ⟨rfl, rfl, rfl, rfl, j + 1, by omega, by omega, Or.inl ⟨rfl, j, by omega, q3⟩⟩, by omega⟩, fun q3 => ⟨⟨by omega, by omega⟩, ⟨rfl, rfl, rfl, rfl, j + 1, by omega, by omega, Or.inr ⟨rfl, fun i hi => ?_⟩⟩, by omega⟩⟩
            by_cases ci : i = j
            · subst ci; exact q3
            · rcases a6c with ⟨a, -⟩ | ⟨-, a⟩
              · omega
              · exact a i (by omega)
          · refine ⟨⟨by omega, by omega⟩, ⟨rfl, rfl, rfl, rfl, j + 1, by omega, by omega, Or.inl ⟨rfl, ?_⟩⟩, by omega⟩
            rcases a6c with ⟨-, a⟩ | ⟨a, -⟩
            · exact a
            · exact absurd a q2
        by_cases hkl : (k : Int) < pt μ n e
        · refine b_MD_goesOn_28 (a1 := (n : Int)) (a2 := (e : Int)) (in45 hkl) hbh ?_
          unfold B_MD_goesOn_28
          refine ⟨by omega, ?_⟩
          rw [nx300]
          intro x2 e2 _ _
          obtain rfl := e2.trans y1
          exact ⟨fun q => by omega, fun q => ⟨rfl, rfl, rfl, rfl, 0, rfl, by omega, Or.inr ⟨rfl, fun i hi => by omega⟩⟩⟩
        · refine b_MD_goesOn_28 (a1 := (n : Int)) (a2 := (e : Int)) (X45 := fun _ _ _ _ _ _ => False) (fun _ _ _ _ _ _ _ x => x.elim) hbh ?_
          unfold B_MD_goesOn_28
          refine ⟨by omega, ?_⟩
          rw [nx300]
          intro x2 e2 _ _
          obtain rfl := e2.trans y1
          refine ⟨fun q => ⟨by rcases al with ⟨a, -⟩ | ⟨a, -⟩ <;> omega, v4, rfl, hbh, rfl, ?_⟩, fun q => hkl (by omega)⟩
          rcases al with ⟨a, b⟩ | ⟨a, i, i1, i2⟩
          · exact Or.inr ⟨a, hl, fun i hi => b i (by omega)⟩
          · exact Or.inl ⟨a, fun w => i2 (w.2 i (by omega))⟩
    exact fun v3 v4 v5 hh hbh x => key _ v3 v4 v5 hh hbh x (Nat.lt_succ_self _)
  · unfold B_MD_goesOn_0
    refine ⟨⟨by omega, by omega⟩, by omega, ?_⟩
    rw [tn_c]
    intro x3 e3 _ _
    obtain rfl := e3.trans hN1
    exact ⟨fun q => ⟨0, rfl, hb0, rfl, Or.inl ⟨rfl, fun w => by have := w.1; omega⟩⟩, fun q => ⟨⟨by omega, by omega⟩, ⟨by omega, by omega⟩, ⟨rfl, rfl, 0, rfl, yb.1, Or.inl ⟨rfl, fun j hj => by omega⟩⟩, by omega⟩⟩
theorem m_isWhole {b : Nat} (hb0 : hb s h) (H : MV μ h) (hn : (n : Int) < μ 0 7) (hb1 : (b : Int) < μ (10 + n) 1) : con G 3 0 0 m_MD_isWhole [av_R (some 170), av_I (n : Int), av_I (b : Int)] h (fun r h' => ∃ z : Int, r = some (av_I z) ∧ hb s h' ∧ fr JWs h h' ∧ h'.2.1 = h.2.1 ∧ ((z = 0 ∧ ¬ WHo μ n b) ∨ (z = 1 ∧ WHo μ n b))) := by
  obtain ⟨-, hN2, hN, hB, n4⟩ := MV_n H hn
  have GG := H.2.1
  have T := GG.2.1
  obtain ⟨T1, T2⟩ := H.2.2 (by omega)
  obtain ⟨c1, c2⟩ := MV_b H hn (b := b) (Int.le_of_lt hb1)
  obtain ⟨c3, c4⟩ := MV_b H hn (b := b + 1) (by omega)
  have b0 := GM_b GG hn (brE μ n b)
  have b1 := GM_b GG hn (brE μ n (b + 1))
  have wb := whp_b GG (b := b) hn
  have eW : WHo μ n b ↔ (whT μ n b = whB μ n b ∨ (whT μ n b < whB μ n b ∧ (b = 0 ∨ (b : Int) = μ (10 + n) 1 - 1))) := Iff.rfl
  unfold whT whB at eW
  generalize brE μ n b = i at *
  generalize brE μ n (b + 1) = j at *
  have p1 := pr_b b1.1 b1.2 b0.2
  have p2 := pr_b b0.1 b0.2 b1.2
  have p3 : 1 ≤ smB μ n j * smB μ n i ∧ smB μ n j * smB μ n i ≤ 1000000000000 := by
    have h1 := Int.mul_le_mul b1.2.1 b0.2.1 (by omega) (by omega)
    have h2 : smB μ n j * smB μ n i ≤ 1000000 * 1000000 := Int.mul_le_mul b1.2.2 b0.2.2 (by omega) (by omega)
    omega
  refine c_MD_isWhole hb0 (fun _ _ => ?_)
  unfold B_MD_isWhole_0
  refine ⟨⟨by omega, by omega⟩, ⟨by omega, by omega⟩, ⟨by omega, by omega⟩, by omega, ?_⟩
  rw [show (102 * (n : Int) + (b : Int) + 1).toNat = 102 * n + (b + 1) by omega, show (102 * (n : Int) + (b : Int)).toNat = 102 * n + b by omega]
  intro x5 e5 _ _ x8 e8 _ _
  obtain rfl := e5.trans c3
  obtain rfl := e8.trans c4
  refine ⟨by omega, fun x10 e10 _ _ => ?_⟩
  obtain rfl := e10.trans c1
  refine ⟨⟨by omega, by omega⟩, fun x14 e14 _ _ => ?_⟩
  obtain rfl := e14.trans c2
  have en : -smT μ n i * smB μ n j = -(smT μ n i * smB μ n j) := Int.neg_mul _ _
  refine con_mono (t_MD_sum hb0 (by omega) (by rw [en]; omega) (by rw [en]; omega) (by omega)) ?_
  rintro r h2 ⟨rfl, hb2, f2, t1, t2, t3⟩
  have ex : smT μ n j * smB μ n i + -smT μ n i * smB μ n j = smT μ n j * smB μ n i - smT μ n i * smB μ n j := by rw [en]; omega
  rw [ex] at t1 t2
  have xl : smT μ n j * smB μ n i - smT μ n i * smB μ n j ≤ 1000000000000000 := by omega
  generalize smT μ n j * smB μ n i - smT μ n i * smB μ n j = x at *
  generalize smB μ n j * smB μ n i = y at *
  obtain ⟨r1, r2, g, g1, gx, gy⟩ := rd_pos wb p3.1
  refine ⟨rfl, hb2, fun x18 e18 _ _ x19 e19 _ _ x21 e21 _ _ x23 e23 _ _ => ?_⟩
  obtain rfl := e18.trans t1
  obtain rfl := e19.trans t2
  obtain rfl := e21.trans ((congrFun (congrFun t3 173) 0).trans T1)
  obtain rfl := e23.trans ((congrFun (congrFun t3 174) 0).trans T2)
  generalize hX : rdT x y = X at *
  generalize hY : rdB x y = Y at *
  have q1 : 0 ≤ X * μ 0 2 ∧ X * μ 0 2 ≤ 1000000000000000 * 32 := ⟨Int.mul_nonneg r1.1 (by have := T.2.1; omega), Int.mul_le_mul (by omega) T.2.1.2 (by have := T.2.1; omega) (by omega)⟩
  have q2 : 0 ≤ μ 0 1 * Y ∧ μ 0 1 * Y ≤ 32 * 1000000000000 := ⟨Int.mul_nonneg (by have := T.1; omega) (by omega), Int.mul_le_mul T.1.2 (by omega) (by omega) (by omega)⟩
  have eq1 : x * μ 0 2 = g * (X * μ 0 2) := by rw [← Int.mul_assoc, ← gx]
  have eq2 : y * μ 0 1 = g * (μ 0 1 * Y) := by rw [Int.mul_comm (μ 0 1), ← Int.mul_assoc, ← gy]
  have cmpe : (x * μ 0 2 = y * μ 0 1 ↔ X * μ 0 2 = μ 0 1 * Y) ∧ (x * μ 0 2 < y * μ 0 1 ↔ X * μ 0 2 < μ 0 1 * Y) := by
    rw [eq1, eq2]
    refine ⟨⟨fun w => Int.eq_of_mul_eq_mul_left (by omega) w, fun w => by rw [w]⟩, ⟨fun w => Int.lt_of_mul_lt_mul_left w (by omega), fun w => Int.mul_lt_mul_of_pos_left w (by omega)⟩⟩
  rw [cmpe.1, cmpe.2] at eW
  refine con_mono (m_compare hb2 (by omega) (by omega)) ?_
  rintro r h3 ⟨z, rfl, hb3, rfl, z1, z2⟩
  have f3 : fr JWs h h3 := fr_w f2 (fun a k w => w)
  rw [← z1, ← z2] at eW
  unfold B_MD_isWhole_94 B_MD_isWhole_98 B_MD_isWhole_99
  have yes : WHo μ n b → ((1 : Int) = 0 ∨ (1 : Int) = 1) ∧ ∃ z : Int, some (av_I 1) = some (av_I z) ∧ hb s h3 ∧ fr JWs h h3 ∧ h3.2.1 = h.2.1 ∧ ((z = 0 ∧ ¬ WHo μ n b) ∨ (z = 1 ∧ WHo μ n b)) := fun w => ⟨Or.inr rfl, 1, rfl, hb3, f3, t3, Or.inr ⟨rfl, w⟩⟩
  have no : ¬ WHo μ n b → ((0 : Int) = 0 ∨ (0 : Int) = 1) ∧ ∃ z : Int, some (av_I 0) = some (av_I z) ∧ hb s h3 ∧ fr JWs h h3 ∧ h3.2.1 = h.2.1 ∧ ((z = 0 ∧ ¬ WHo μ n b) ∨ (z = 1 ∧ WHo μ n b)) := fun w => ⟨Or.inl rfl, 0, rfl, hb3, f3, t3, Or.inl ⟨rfl, w⟩⟩
  refine ⟨z, rfl, hb3, fun q => yes (eW.mpr (Or.inl q)), fun q => ⟨fun q2 => no (fun w => ?_), fun q2 => ⟨fun q3 => yes (eW.mpr (Or.inr ⟨by omega, Or.inl (by omega)⟩)), fun q3 => ⟨by omega, ?_⟩⟩⟩⟩
  · rcases eW.mp w with w | ⟨w, -⟩ <;> omega
  rw [tn_c]
  intro x28 e28 _ _
  obtain rfl := e28.trans ((congrFun (congrFun t3 186) n).trans hN2)
  refine ⟨⟨by omega, by omega⟩, fun q4 => yes (eW.mpr (Or.inr ⟨by omega, Or.inr q4⟩)), fun q4 => no (fun w => ?_)⟩
  rcases eW.mp w with w | ⟨-, w | w⟩ <;> omega
end

/-! ===== judge, the reference ===== -/
def MLl (l : List JQ) (h : ah_T) : Prop := h.2.1 170 80 = (l.length : Int) ∧ ∀ (k : Nat) (q : JQ), l[k]? = some q → h.2.1 221 k = q.1 ∧ h.2.1 222 k = q.2.1 ∧ h.2.1 223 k = q.2.2.1 ∧ h.2.1 224 k = q.2.2.2
theorem MLl_f {l : List JQ} {h h' : ah_T} (H : MLl l h) (e : h'.2.1 = h.2.1) : MLl l h' := by
  unfold MLl
  rw [e]
  exact H
abbrev JWt : Nat → Nat → Prop := fun a k => (a = 170 ∧ k = 80) ∨ (221 ≤ a ∧ a ≤ 224)
theorem fr_tm {h h' : ah_T} (f : fr JWt h h') : fr JWm h h' := fr_w f (fun a k w => by rcases w with w | w <;> omega)
section
variable {G : cx_T} {s n e : Nat} {h : ah_T} {μ : pm_T} {l : List JQ}
theorem m_tell {a b c d : Int} (hb0 : hb s h) (J : MLl l h) (hl : l.length < 8000) : con G 0 0 0 m_MD_tell [av_R (some 170), av_I a, av_I b, av_I c, av_I d] h (fun r h' => r = none ∧ hb s h' ∧ fr JWm h h' ∧ MLl (l ++ [(a, b, c, d)]) h') := by
  obtain ⟨j1, j2⟩ := J
  refine c_MD_tell hb0 (fun _ _ _ _ => ?_)
  unfold B_MD_tell_0 B_MD_tell_51
  intro x1 e1 _ _
  obtain rfl := e1.trans j1
  refine ⟨fun q => by omega, fun q => ⟨by omega, ?_⟩⟩
  rw [tn_c]
  intro h5 e5 h9 e9 h13 e13 h17 e17 x e _ _
  have ex : x = (l.length : Int) := by rw [e, mm_i e17 (by omega), mm_i e13 (by omega), mm_i e9 (by omega), mm_i e5 (by omega)]; exact j1
  subst ex
  refine ⟨⟨by omega, by omega⟩, fun h3 e3 => ⟨rfl, hb_i (hb_i (hb_i (hb_i (hb_i hb0 e5) e9) e13) e17) e3, fr_i (fr_i (fr_i (fr_i (fr_i fr_0 e5 (by omega)) e9 (by omega)) e13 (by omega)) e17 (by omega)) e3 (by omega), ?_, fun k q hq => ?_⟩⟩
  · rw [mv_i e3, List.length_append]
    rfl
  · by_cases ck : k = l.length
    · subst ck
      rw [List.getElem?_concat_length] at hq
      obtain rfl := Option.some.inj hq
      refine ⟨?_, ?_, ?_, ?_⟩
      · rw [mm_i e3 (by omega), mm_i e17 (by omega), mm_i e13 (by omega), mm_i e9 (by omega), mv_i e5]
      · rw [mm_i e3 (by omega), mm_i e17 (by omega), mm_i e13 (by omega), mv_i e9]
      · rw [mm_i e3 (by omega), mm_i e17 (by omega), mv_i e13]
      · rw [mm_i e3 (by omega), mv_i e17]
    · have kl : k < l.length := by
        by_cases c : k < l.length
        · exact c
        · rw [List.getElem?_eq_none (by rw [List.length_append]; show l.length + 1 ≤ k; omega)] at hq
          cases hq
      rw [List.getElem?_append_left kl] at hq
      have o : ∀ x, 221 ≤ x → h3.2.1 x k = h.2.1 x k := fun x hx => by
        rw [mm_i e3 (by omega), mm_i e17 (by omega), mm_i e13 (by omega), mm_i e9 (by omega), mm_i e5 (by omega)]
      rw [o 221 (by decide), o 222 (by decide), o 223 (by decide), o 224 (by decide)]
      exact j2 k q hq
theorem croF_0 (hp : ¬ 1 ≤ pt μ n e) : ∀ k, croF μ n e k = []
  | 0 => rfl
  | k + 1 => by
    show croF μ n e k ++ pif (CRs μ k n e) _ = []
    rw [croF_0 hp k, pif_f (fun w => hp w.1)]
    rfl
theorem parF_0 (hp : ¬ 1 ≤ pt μ n e) : ∀ k, parF μ n e k = []
  | 0 => rfl
  | k + 1 => by
    show parF μ n e k ++ pif (PAs μ k n e) _ = []
    rw [parF_0 hp k, pif_f (fun w => by obtain ⟨-, j, b⟩ := w; exact hp b.2.2.1.1)]
    rfl
theorem parF_1 (he : ¬ 1 ≤ e) : ∀ k, parF μ n e k = []
  | 0 => rfl
  | k + 1 => by
    show parF μ n e k ++ pif (PAs μ k n e) _ = []
    rw [parF_1 he k, pif_f (fun w => he w.1)]
    rfl
theorem m_event (hb0 : hb s h) (H : MV μ h) (hn : (n : Int) < μ 0 7) (he : (e : Int) < μ (10 + n) 0) (J : MLl l h) (hl : l.length + (2 + 2 * n) ≤ 8000) : con G 5 0 0 m_MD_judgeEvent [av_R (some 170), av_I (n : Int), av_I (e : Int)] h (fun r h' => r = none ∧ hb s h' ∧ fr JWm h h' ∧ MLl (l ++ evF μ n e) h') := by
  obtain ⟨hN1, -, hN, -, n4⟩ := MV_n H hn
  have GG := H.2.1
  have la := aloF_l (μ := μ) (n := n) (e := e)
  have lc := fun k => croF_l (μ := μ) (n := n) (e := e) (k := k)
  have lpp := fun k => parF_l (μ := μ) (n := n) (e := e) (k := k)
  have l133 : ∀ (v3 v4 : Int) (hh : ah_T), hb s hh → (v3 = 300 * (n : Int) + (e : Int) ∧ fr JWm h hh ∧ ∃ k : Nat, v4 = (k : Int) ∧ k ≤ n ∧ MLl (l ++ aloF μ n e ++ croF μ n e n ++ parF μ n e k) hh) → aw G (rm_R 5 0 0) m_MD_judgeEvent 0 0 133 [some (av_R (some 170)), some (av_I (n : Int)), some (av_I (e : Int)), some (av_I v3), some (av_I v4)] [] hh (fun r h' => r = none ∧ hb s h' ∧ fr JWm h h' ∧ MLl (l ++ evF μ n e) h') := by
    refine lp_MD_judgeEvent_133 _ (fun _ v4 _ => (5 - v4).toNat) ?_
    rintro v3 v4 hh hb1 ⟨rfl, f, k, rfl, hk, J1⟩
    have H1 := MV_f H f JWm_w
    unfold B_MD_judgeEvent_133 B_MD_judgeEvent_162
    have nxt : ∀ {h' : ah_T}, fr JWm h h' → MLl (l ++ aloF μ n e ++ croF μ n e n ++ parF μ n e (k + 1)) h' → (k : Int) < n → ((-2147483648) ≤ ((k : Int) + 1) ∧ ((k : Int) + 1) ≤ 2147483647) ∧ ((300 * (n : Int) + (e : Int) = 300 * (n : Int) + (e : Int) ∧ fr JWm h h' ∧ ∃ k' : Nat, (k : Int) + 1 = (k' : Int) ∧ k' ≤ n ∧ MLl (l ++ aloF μ n e ++ croF μ n e n ++ parF μ n e k') h') ∧ (5 - ((k : Int) + 1)).toNat < (5 - (k : Int)).toNat) := fun f' J' q => ⟨⟨by omega, by omega⟩, ⟨rfl, f', k + 1, by omega, by omega, J'⟩, by omega⟩
    refine ⟨fun q => ⟨rfl, hb1, f, ?_⟩, fun q => ⟨fun q2 => nxt f ?_ (by omega), fun q2 => ?_⟩⟩
    · obtain rfl : k = n := by omega
      unfold evF
      rw [← List.append_assoc, ← List.append_assoc]
      exact J1
    · rw [parF_1 (by omega)] at J1 ⊢
      exact J1
    have ho : (k : Int) < μ 0 7 := by omega
    refine con_mono (m_goesAlong hb1 H1 hn he ho (by omega)) ?_
    rintro r h2 ⟨z, rfl, hb2, rfl, zz⟩
    have pS : ∀ X, parF μ n e (k + 1) = X ↔ parF μ n e k ++ pif (PAs μ k n e) [(5, (n : Int), (e : Int), (k : Int))] = X := fun X => Iff.rfl
    refine ⟨z, rfl, hb2, fun q3 => nxt f ?_ (by omega), fun q3 => ?_⟩
    · have no : ¬ PAs μ k n e := by
        rcases zz with ⟨-, x⟩ | ⟨x, -⟩
        · exact x
        · omega
      have : parF μ n e (k + 1) = parF μ n e k := by rw [pS, pif_f no, List.append_nil]
      rw [this]
      exact J1
    · have yes : PAs μ k n e := by
        rcases zz with ⟨x, -⟩ | ⟨-, x⟩
        · exact absurd x q3
        · exact x
      have a1 := lc n
      have a2 := lpp k
      refine con_mono (m_tell hb2 J1 (by rw [List.length_append, List.length_append, List.length_append]; omega)) ?_
      rintro r h3 ⟨rfl, hb3, f3, J3⟩
      refine ⟨rfl, hb3, nxt (fr_t f f3 (fun _ _ w => w)) ?_ (by omega)⟩
      have : parF μ n e (k + 1) = parF μ n e k ++ [(5, (n : Int), (e : Int), (k : Int))] := by rw [pS, pif_t yes]
      rw [this, ← List.append_assoc]
      exact J3
  have l99 : 1 ≤ pt μ n e → ∀ (v3 v4 : Int) (hh : ah_T), hb s hh → (v3 = 300 * (n : Int) + (e : Int) ∧ fr JWm h hh ∧ ∃ k : Nat, v4 = (k : Int) ∧ k ≤ n ∧ MLl (l ++ aloF μ n e ++ croF μ n e k) hh) → aw G (rm_R 5 0 0) m_MD_judgeEvent 0 0 99 [some (av_R (some 170)), some (av_I (n : Int)), some (av_I (e : Int)), some (av_I v3), some (av_I v4)] [] hh (fun r h' => r = none ∧ hb s h' ∧ fr JWm h h' ∧ MLl (l ++ evF μ n e) h') := by
    intro hp
    refine lp_MD_judgeEvent_99 l133 _ (fun _ v4 _ => (5 - v4).toNat) ?_
    rintro v3 v4 hh hb1 ⟨rfl, f, k, rfl, hk, J1⟩
    have H1 := MV_f H f JWm_w
    unfold B_MD_judgeEvent_99 B_MD_judgeEvent_124
    have nxt : ∀ {h' : ah_T}, fr JWm h h' → MLl (l ++ aloF μ n e ++ croF μ n e (k + 1)) h' → (k : Int) < n → ((-2147483648) ≤ ((k : Int) + 1) ∧ ((k : Int) + 1) ≤ 2147483647) ∧ ((300 * (n : Int) + (e : Int) = 300 * (n : Int) + (e : Int) ∧ fr JWm h h' ∧ ∃ k' : Nat, (k : Int) + 1 = (k' : Int) ∧ k' ≤ n ∧ MLl (l ++ aloF μ n e ++ croF μ n e k') h') ∧ (5 - ((k : Int) + 1)).toNat < (5 - (k : Int)).toNat) := fun f' J' q => ⟨⟨by omega, by omega⟩, ⟨rfl, f', k + 1, by omega, by omega, J'⟩, by omega⟩
    refine ⟨fun q => ⟨rfl, f, 0, rfl, Nat.zero_le _, ?_⟩, fun q => ?_⟩
    · obtain rfl : k = n := by omega
      show MLl (l ++ aloF μ k e ++ croF μ k e k ++ []) hh
      rw [List.append_nil]
      exact J1
    have ho : (k : Int) < μ 0 7 := by omega
    refine con_mono (m_crosses hb1 H1 hn he ho hp) ?_
    rintro r h2 ⟨z, rfl, hb2, f2, i2, zz⟩
    have f2' := fr_t f (fr_sm f2) (fun _ _ w => w)
    have J2 := MLl_f J1 i2
    have pS : ∀ X, croF μ n e (k + 1) = X ↔ croF μ n e k ++ pif (CRs μ k n e) [(4, (n : Int), (e : Int), (k : Int))] = X := fun X => Iff.rfl
    refine ⟨z, rfl, hb2, fun q3 => nxt f2' ?_ (by omega), fun q3 => ?_⟩
    · have no : ¬ CRs μ k n e := by
        rcases zz with ⟨-, x⟩ | ⟨x, -⟩
        · exact x
        · omega
      have : croF μ n e (k + 1) = croF μ n e k := by rw [pS, pif_f no, List.append_nil]
      rw [this]
      exact J2
    · have yes : CRs μ k n e := by
        rcases zz with ⟨x, -⟩ | ⟨-, x⟩
        · exact absurd x q3
        · exact x
      have a1 := lc k
      refine con_mono (m_tell hb2 J2 (by rw [List.length_append, List.length_append]; omega)) ?_
      rintro r h3 ⟨rfl, hb3, f3, J3⟩
      refine ⟨rfl, hb3, nxt (fr_t f2' f3 (fun _ _ w => w)) ?_ (by omega)⟩
      have : croF μ n e (k + 1) = croF μ n e k ++ [(4, (n : Int), (e : Int), (k : Int))] := by rw [pS, pif_t yes]
      rw [this, ← List.append_assoc]
      exact J3
  by_cases hp : 1 ≤ pt μ n e
  all_goals obtain ⟨⟨y1, y2, -⟩, -, yb, yk⟩ := MV_e H hn he
  all_goals have hT := ((GG.2.2 n hn).2.2.2.1 e he).2.1
  · refine c_MD_judgeEvent (l99 hp) hb0 (fun _ _ => ?_)
    unfold B_MD_judgeEvent_0
    have go : ∀ {h1 : ah_T} {l1 : List JQ}, hb s h1 → fr JWm h h1 → MLl l1 h1 → l1.length < 8000 → l1 ++ pif (LPs μ n e) [(3, (n : Int), (e : Int), 0)] = l ++ aloF μ n e → B_MD_judgeEvent_34 G s n e (300 * (n : Int) + (e : Int)) h1 (fun r h' => r = none ∧ hb s h' ∧ fr JWm h h' ∧ MLl (l ++ evF μ n e) h') (fun v3 v4 hh => v3 = 300 * (n : Int) + (e : Int) ∧ fr JWm h hh ∧ ∃ k : Nat, v4 = (k : Int) ∧ k ≤ n ∧ MLl (l ++ aloF μ n e ++ croF μ n e k) hh) := by
      intro h1 l1 hb1 f1 J1 hl1 el
      have H1 := MV_f H f1 JWm_w
      unfold B_MD_judgeEvent_34 B_MD_judgeEvent_88 B_MD_judgeEvent_96
      have fin : ∀ {h2 : ah_T}, fr JWm h h2 → MLl (l ++ aloF μ n e) h2 → (300 * (n : Int) + (e : Int) = 300 * (n : Int) + (e : Int) ∧ fr JWm h h2 ∧ ∃ k : Nat, (0 : Int) = (k : Int) ∧ k ≤ n ∧ MLl (l ++ aloF μ n e ++ croF μ n e k) h2) := fun f2 J2 => ⟨rfl, f2, 0, rfl, Nat.zero_le _, by show MLl (l ++ aloF μ n e ++ []) _; rw [List.append_nil]; exact J2⟩
      have no : ¬ LPs μ n e → MLl (l ++ aloF μ n e) h1 := fun q => by
        rw [← el, pif_f q, List.append_nil]
        exact J1
      refine ⟨by omega, ?_⟩
      rw [nx300]
      intro x2 e2 _ _
      obtain rfl := e2.trans (MV_e H1 hn he).1.1
      refine ⟨fun q => by omega, fun q => ⟨fun q2 => fin f1 (no (fun w => by have := w.1; omega)), fun q2 => ?_⟩⟩
      have he1 : ((e - 1 : Nat) : Int) < μ (10 + n) 0 := by omega
      refine ⟨⟨by omega, by omega⟩, by omega, ?_⟩
      rw [show 300 * (n : Int) + (e : Int) - 1 = 300 * (n : Int) + ((e - 1 : Nat) : Int) by omega, nx300]
      intro x6 e6 _ _
      obtain rfl := e6.trans (MV_e H1 hn he1).1.1
      refine ⟨fun q3 => fin f1 (no (fun w => by have := w.2.2.1; omega)), fun q3 => ?_⟩
      have k1 := ky_b (k := 0) (p := 0) GG hn he (by omega)
      have k2 := ky_b (k := 0) (p := 0) GG hn he1 (by omega)
      refine con_mono (m_lowest hb1 H1 hn he hp) ?_
      rintro r h4 ⟨a, rfl, hb4, rfl, rfl⟩
      refine ⟨_, rfl, hb4, ?_⟩
      refine con_mono (m_lowest hb4 H1 hn he1 (by omega)) ?_
      rintro r h5 ⟨b, rfl, hb5, rfl, rfl⟩
      have tl : LPs μ n e → con G 0 0 0 m_MD_tell [av_R (some 170), av_I 3, av_I (n : Int), av_I (e : Int), av_I 0] h5 (fun r h1 => r = none ∧ hb s h1 ∧ (300 * (n : Int) + (e : Int) = 300 * (n : Int) + (e : Int) ∧ fr JWm h h1 ∧ ∃ k : Nat, (0 : Int) = (k : Int) ∧ k ≤ n ∧ MLl (l ++ aloF μ n e ++ croF μ n e k) h1)) := fun w => by
        refine con_mono (m_tell hb5 J1 hl1) ?_
        rintro r h6 ⟨rfl, hb6, f6, J6⟩
        refine ⟨rfl, hb6, fin (fr_t f1 f6 (fun _ _ w => w)) ?_⟩
        rw [← el, pif_t w]
        exact J6
      exact ⟨_, rfl, hb5, ⟨by omega, by omega⟩, fun q4 => tl ⟨by omega, hp, by omega, Or.inl q4⟩, fun q4 => ⟨fun q5 => fin f1 (no (fun w => by have := w.2.2.2; omega)), fun q5 => tl ⟨by omega, hp, by omega, Or.inr (by omega)⟩⟩⟩
    refine ⟨⟨by omega, by omega⟩, ⟨by omega, by omega⟩, by omega, ?_⟩
    rw [nx300]
    intro x4 e4 x4b
    obtain rfl := e4.trans y2
    have un : ∀ X, l ++ aloF μ n e = X ↔ l ++ (pif (μ (100 + 40 * n + 5) e = 1 ∧ ¬ Hld μ n e) [(2, (n : Int), (e : Int), 0)] ++ pif (LPs μ n e) [(3, (n : Int), (e : Int), 0)]) = X := fun X => Iff.rfl
    refine ⟨fun q => go hb0 fr_0 J (by omega) ?_, fun q => ?_⟩
    · rw [eq_comm, un, pif_f (fun w => by have := w.1; omega), List.nil_append]
    refine con_mono (m_goesOn hb0 H hn he) ?_
    rintro r h6 ⟨z, rfl, hb6, rfl, zz⟩
    refine ⟨z, rfl, hb6, fun q2 => ?_, fun q2 => go hb6 fr_0 J (by omega) ?_⟩
    · have nh : ¬ Hld μ n e := by
        rcases zz with ⟨-, x⟩ | ⟨x, -⟩
        · exact x
        · omega
      refine con_mono (m_tell hb6 J (by omega)) ?_
      rintro r h9 ⟨rfl, hb9, f9, J9⟩
      refine ⟨rfl, hb9, go hb9 f9 J9 (by rw [List.length_append]; show l.length + 1 < 8000; omega) ?_⟩
      rw [eq_comm, un, pif_t ⟨by omega, nh⟩, ← List.append_assoc]
    · have yh : Hld μ n e := by
        rcases zz with ⟨x, -⟩ | ⟨-, x⟩
        · exact absurd x q2
        · exact x
      rw [eq_comm, un, pif_f (fun w => w.2 yh), List.nil_append]
  · refine c_MD_judgeEvent (X99 := fun _ _ _ => False) (fun _ _ _ _ x => x.elim) hb0 (fun _ _ => ?_)
    unfold B_MD_judgeEvent_0
    have un : ∀ X, l ++ evF μ n e = X ↔ l ++ pif (μ (100 + 40 * n + 5) e = 1 ∧ ¬ Hld μ n e) [(2, (n : Int), (e : Int), 0)] = X := fun X => by
      unfold evF aloF
      rw [croF_0 hp, parF_0 hp, pif_f (p := LPs μ n e) (fun w => hp w.2.1), List.append_nil, List.append_nil, List.append_nil]
    have go : ∀ {h1 : ah_T}, hb s h1 → fr JWm h h1 → MLl (l ++ evF μ n e) h1 → B_MD_judgeEvent_34 G s n e (300 * (n : Int) + (e : Int)) h1 (fun r h' => r = none ∧ hb s h' ∧ fr JWm h h' ∧ MLl (l ++ evF μ n e) h') (fun _ _ _ => False) := by
      intro h1 hb1 f1 J1
      have H1 := MV_f H f1 JWm_w
      unfold B_MD_judgeEvent_34
      refine ⟨by omega, ?_⟩
      rw [nx300]
      intro x2 e2 _ _
      obtain rfl := e2.trans (MV_e H1 hn he).1.1
      exact ⟨fun q => ⟨rfl, hb1, f1, J1⟩, fun q => by omega⟩
    refine ⟨⟨by omega, by omega⟩, ⟨by omega, by omega⟩, by omega, ?_⟩
    rw [nx300]
    intro x4 e4 x4b
    obtain rfl := e4.trans y2
    refine ⟨fun q => go hb0 fr_0 ?_, fun q => ?_⟩
    · have : l ++ evF μ n e = l := by rw [un, pif_f (fun w => by have := w.1; omega), List.append_nil]
      rw [this]; exact J
    refine con_mono (m_goesOn hb0 H hn he) ?_
    rintro r h6 ⟨z, rfl, hb6, rfl, zz⟩
    refine ⟨z, rfl, hb6, fun q2 => ?_, fun q2 => go hb6 fr_0 ?_⟩
    · have nh : ¬ Hld μ n e := by
        rcases zz with ⟨-, x⟩ | ⟨x, -⟩
        · exact x
        · omega
      refine con_mono (m_tell hb6 J (by omega)) ?_
      rintro r h9 ⟨rfl, hb9, f9, J9⟩
      refine ⟨rfl, hb9, go hb9 f9 ?_⟩
      have : l ++ evF μ n e = l ++ [(2, (n : Int), (e : Int), 0)] := by rw [un, pif_t ⟨by omega, nh⟩]
      rw [this]; exact J9
    · have yh : Hld μ n e := by
        rcases zz with ⟨x, -⟩ | ⟨-, x⟩
        · exact absurd x q2
        · exact x
      have : l ++ evF μ n e = l := by rw [un, pif_f (fun w => w.2 yh), List.append_nil]
      rw [this]; exact J
end

/-! ===== judge, the reference: all voices ===== -/
section
variable {G : cx_T} {s : Nat} {h : ah_T} {μ : pm_T}
def JG7 (μ : pm_T) (h : ah_T) (v1 : Int) (hh : ah_T) : Prop := ∃ n : Nat, v1 = (n : Int) ∧ (n : Int) ≤ μ 0 7 ∧ fr JWm h hh ∧ MLl (juF μ n) hh
def JG19 (μ : pm_T) (h : ah_T) (v1 v2 : Int) (hh : ah_T) : Prop := ∃ n i : Nat, v1 = (n : Int) ∧ v2 = (i : Int) ∧ (n : Int) < μ 0 7 ∧ (i : Int) ≤ μ (10 + n) 0 + 1 ∧ fr JWm h hh ∧ MLl (juF μ n ++ voF μ n i) hh
def JG31 (μ : pm_T) (h : ah_T) (v1 v2 v3 : Int) (hh : ah_T) : Prop := ∃ n i b : Nat, v1 = (n : Int) ∧ v2 = (i : Int) ∧ v3 = (b : Int) ∧ (n : Int) < μ 0 7 ∧ (i : Int) ≤ μ (10 + n) 0 ∧ (b : Int) ≤ μ (10 + n) 1 ∧ fr JWm h hh ∧ MLl (juF μ n ++ voF μ n i ++ barF μ n i b) hh
theorem JG_l {n i b : Nat} (GG : GM μ) (hn : (n : Int) < μ 0 7) (hi : (i : Int) ≤ μ (10 + n) 0) (hb1 : (b : Int) ≤ μ (10 + n) 1) : (juF μ n ++ voF μ n i ++ barF μ n i b).length + (2 + 2 * n) ≤ 7000 := by
  have m := GG.2.2 n hn
  have m1 := m.1
  have m2 := m.2.1
  have b4 := GG.1.1
  have j := juF_l GG n (by omega)
  have v := voF_l (μ := μ) (n := n) i
  have bc := barF_c (μ := μ) (n := n) (e := i) b
  have cl := cntb_l (μ := μ) (n := n) (e := i) (μ (10 + n) 1).toNat
  have cl2 := cntb_l (μ := μ) (n := n) (e := i + 1) b
  have w : (2 + 2 * n) * i ≤ (2 + 2 * n) * 300 := Nat.mul_le_mul_left _ (by omega)
  have lb := LBj_4 n (by omega)
  unfold wEv at lb
  rw [List.length_append, List.length_append]
  omega
theorem t_MD_judge (hb0 : hb s h) (H : MV μ h) : con G 6 0 0 m_MD_judge [av_R (some 170)] h (fun r h' => r = some (av_I ((juF μ (μ 0 7).toNat).length : Int)) ∧ hb s h' ∧ fr JWm h h' ∧ MLl (juF μ (μ 0 7).toNat) h') := by
  have GG := H.2.1
  have b4 := GG.1.1
  have key : ∀ (N : Nat) (v1 v2 : Int) (hh : ah_T), hb s hh → JG19 μ h v1 v2 hh → ((10 - v1) * 1000 - v2).toNat < N → aw G (rm_R 6 0 0) m_MD_judge 0 0 19 [some (av_R (some 170)), some (av_I v1), some (av_I v2), none] [] hh (fun r h' => r = some (av_I ((juF μ (μ 0 7).toNat).length : Int)) ∧ hb s h' ∧ fr JWm h h' ∧ MLl (juF μ (μ 0 7).toNat) h') := by
    intro N
    induction N with
    | zero => intro v1 v2 hh _ _ q; omega
    | succ N ih =>
      rintro v1 v2 hh hbh ⟨n, i, rfl, rfl, hn, hi, f, J⟩ hN'
      have H1 := MV_f H f JWm_w
      have m := GG.2.2 n hn
      have m1 := m.1
      have m2 := m.2.1
      have in31 : ∀ (a1 a2 a3 : Int) (h' : ah_T), hb s h' → (JG31 μ h a1 a2 a3 h' ∧ a1 = (n : Int) ∧ a2 = (i : Int)) → aw G (rm_R 6 0 0) m_MD_judge 0 0 31 [some (av_R (some 170)), some (av_I a1), some (av_I a2), some (av_I a3)] [] h' (fun r h' => r = some (av_I ((juF μ (μ 0 7).toNat).length : Int)) ∧ hb s h' ∧ fr JWm h h' ∧ MLl (juF μ (μ 0 7).toNat) h') := by
        refine lp_MD_judge_31 (X19 := fun a b h' => JG19 μ h a b h' ∧ a = (n : Int) ∧ b = (i : Int) + 1) (fun a b h' hb' x => ih a b h' hb' x.1 (by have := x.2; omega)) _ (fun _ _ a3 _ => (200 - a3).toNat) ?_
        rintro a1 a2 a3 h' hb' ⟨⟨n', i', b, rfl, rfl, rfl, -, hi', hb2, f', J'⟩, en, ei⟩
        obtain rfl : n' = n := by omega
        obtain rfl : i' = i := by omega
        have H' := MV_f H f' JWm_w
        obtain ⟨hN1, hN2, -⟩ := MV_n H' hn
        have ll := JG_l GG hn hi' hb2
        unfold B_MD_judge_31 B_MD_judge_68 B_MD_judge_90
        refine ⟨by omega, ?_⟩
        rw [tn_c]
        intro x2 e2 _ _
        have ex := e2.trans hN2
        subst ex
        refine ⟨fun q x5 e5 _ _ => ?_, fun q => ?_⟩
        · have ex := e5.trans hN1
          subst ex
          have eb : b = (μ (10 + n') 1).toNat := by omega
          have voS : juF μ n' ++ voF μ n' (i' + 1) = juF μ n' ++ voF μ n' i' ++ barF μ n' i' b ++ pif ((i' : Int) < μ (10 + n') 0) (evF μ n' i') := by
            show juF μ n' ++ (voF μ n' i' ++ (barF μ n' i' (μ (10 + n') 1).toNat ++ pif ((i' : Int) < μ (10 + n') 0) (evF μ n' i'))) = _
            rw [← eb, ← List.append_assoc, ← List.append_assoc]
          refine ⟨fun q2 => ⟨⟨by omega, by omega⟩, ⟨n', i' + 1, rfl, by omega, hn, by omega, f', ?_⟩, rfl, rfl⟩, fun q2 => ?_⟩
          · rw [voS, pif_f (by omega), List.append_nil]
            exact J'
          · have he : (i' : Int) < μ (10 + n') 0 := by omega
            refine con_mono (m_event hb' H' hn he J' (by omega)) ?_
            rintro r h3 ⟨rfl, hb3, f3, J3⟩
            refine ⟨rfl, hb3, ⟨by omega, by omega⟩, ⟨n', i' + 1, rfl, by omega, hn, by omega, fr_t f' f3 (fun _ _ w => w), ?_⟩, rfl, rfl⟩
            rw [voS, pif_t he]
            exact J3
        have hbl : (b : Int) < μ (10 + n') 1 := by omega
        have bS : ∀ X, barF μ n' i' (b + 1) = X ↔ barF μ n' i' b ++ pif (brE μ n' b = i' ∧ ¬ WHo μ n' b) [(1, (n' : Int), (i' : Int), (b : Int))] = X := fun X => Iff.rfl
        have nxt : ∀ {h2 : ah_T}, fr JWm h h2 → MLl (juF μ n' ++ voF μ n' i' ++ barF μ n' i' (b + 1)) h2 → ((-2147483648) ≤ ((b : Int) + 1) ∧ ((b : Int) + 1) ≤ 2147483647) ∧ ((JG31 μ h (n' : Int) (i' : Int) ((b : Int) + 1) h2 ∧ (n' : Int) = (n' : Int) ∧ (i' : Int) = (i' : Int)) ∧ (200 - ((b : Int) + 1)).toNat < (200 - (b : Int)).toNat) := fun f2 J2 => ⟨⟨by omega, by omega⟩, ⟨⟨n', i', b + 1, rfl, rfl, by omega, hn, hi', by omega, f2, J2⟩, rfl, rfl⟩, by omega⟩
        refine con_mono (m_firstOf hb' H' hn hbl) ?_
        rintro r h2 ⟨rfl, hb2', rfl⟩
        refine ⟨_, rfl, hb2', fun q2 => ?_, fun q2 => nxt f' ?_⟩
        rotate_left
        · have : barF μ n' i' (b + 1) = barF μ n' i' b := by rw [bS, pif_f (fun w => q2 (by rw [w.1])), List.append_nil]
          rw [this]
          exact J'
        refine con_mono (m_isWhole hb2' H' hn hbl) ?_
        rintro r h3 ⟨z, rfl, hb3, f3, i3, zz⟩
        have f3' := fr_t f' (fr_sm f3) (fun _ _ w => w)
        have J3 := MLl_f J' i3
        refine ⟨z, rfl, hb3, fun q3 => ?_, fun q3 => nxt f3' ?_⟩
        · have no : ¬ WHo μ n' b := by
            rcases zz with ⟨-, x⟩ | ⟨x, -⟩
            · exact x
            · omega
          refine con_mono (m_tell hb3 J3 (by omega)) ?_
          rintro r h4 ⟨rfl, hb4, f4, J4⟩
          refine ⟨rfl, hb4, nxt (fr_t f3' f4 (fun _ _ w => w)) ?_⟩
          have : barF μ n' i' (b + 1) = barF μ n' i' b ++ [(1, (n' : Int), (i' : Int), (b : Int))] := by rw [bS, pif_t ⟨by omega, no⟩]
          rw [this, ← List.append_assoc]
          exact J4
        · have yes : WHo μ n' b := by
            rcases zz with ⟨x, -⟩ | ⟨-, x⟩
            · exact absurd x q3
            · exact x
          have : barF μ n' i' (b + 1) = barF μ n' i' b := by rw [bS, pif_f (fun w => w.2 yes), List.append_nil]
          rw [this]
          exact J3
      refine b_MD_judge_19 (X7 := fun a h' => JG7 μ h a h' ∧ a = (n : Int) + 1) (X31 := fun a1 a2 a3 h' => JG31 μ h a1 a2 a3 h' ∧ a1 = (n : Int) ∧ a2 = (i : Int)) ?_ in31 hbh ?_
      · rintro a h' hb' ⟨⟨n', rfl, hn', f', J'⟩, en⟩
        refine b_MD_judge_7 (X19 := fun a b h' => JG19 μ h a b h' ∧ a = (n : Int) + 1 ∧ b = 0) (fun a b h' hb' x => ih a b h' hb' x.1 (by have := x.2; omega)) hb' ?_
        have H' := MV_f H f' JWm_w
        unfold B_MD_judge_7
        intro x2 e2 _ _
        have ex := e2.trans H'.1.1.1
        subst ex
        refine ⟨fun q x3 e3 _ _ => ?_, fun q => ⟨⟨n', 0, rfl, rfl, by omega, by have := (GG.2.2 n' (by omega)).1; omega, f', by show MLl (juF μ n' ++ []) h'; rw [List.append_nil]; exact J'⟩, en, rfl⟩⟩
        have en2 : (μ 0 7).toNat = n' := by omega
        rw [en2]
        obtain rfl := e3.trans J'.1
        exact ⟨rfl, hb', f', J'⟩
      · obtain ⟨hN1, hN2, -⟩ := MV_n H1 hn
        unfold B_MD_judge_19
        refine ⟨by omega, ?_⟩
        rw [tn_c]
        intro x2 e2 _ _
        have ex := e2.trans hN1
        subst ex
        refine ⟨fun q => ⟨⟨by omega, by omega⟩, ⟨n + 1, by omega, by omega, f, ?_⟩, rfl⟩, fun q => ⟨⟨n, i, 0, rfl, rfl, rfl, hn, by omega, by omega, f, ?_⟩, rfl, rfl⟩⟩
        · show MLl (juF μ n ++ voF μ n ((μ (10 + n) 0).toNat + 1)) hh
          rw [show (μ (10 + n) 0).toNat + 1 = i by omega]
          exact J
        · show MLl (juF μ n ++ voF μ n i ++ []) hh
          rw [List.append_nil]
          exact J
  refine c_MD_judge (X7 := fun a h' => JG7 μ h a h' ∧ a = 0) ?_ hb0 ?_
  · rintro a h' hb' ⟨⟨n', rfl, hn', f', J'⟩, en⟩
    refine b_MD_judge_7 (X19 := fun a b h' => JG19 μ h a b h' ∧ a = 0 ∧ b = 0) (fun a b h' hb' x => key 20000 a b h' hb' x.1 (by have := x.2; omega)) hb' ?_
    have H' := MV_f H f' JWm_w
    unfold B_MD_judge_7
    intro x2 e2 _ _
    have ex := e2.trans H'.1.1.1
    subst ex
    refine ⟨fun q x3 e3 _ _ => ?_, fun q => ⟨⟨n', 0, rfl, rfl, by omega, by have := (GG.2.2 n' (by omega)).1; omega, f', by show MLl (juF μ n' ++ []) h'; rw [List.append_nil]; exact J'⟩, en, rfl⟩⟩
    have en2 : (μ 0 7).toNat = n' := by omega
    rw [en2]
    obtain rfl := e3.trans J'.1
    exact ⟨rfl, hb', f', J'⟩
  · unfold B_MD_judge_0
    exact fun h1 e1 => ⟨⟨0, rfl, b4.1, fr_i fr_0 e1 (Or.inl ⟨rfl, Or.inr (Or.inr rfl)⟩), ⟨mv_i e1, fun k q hq => by cases hq⟩⟩, rfl⟩
end

/-! ===== judge of both ===== -/
theorem GM_of {μ : pm_T} {c : Nat} {h : ah_T} (C : CKn μ c h) (R : SRq μ h) : GM μ := ⟨VGm_of R.2.2.2.1, OKm_t R.2.2.2.1, fun n hn => (C.2.2.2.2.2 n hn).2⟩
theorem CV_of {μ : pm_T} {s : Nat} {h : ah_T} (hx : xi s h) (C : CKn μ (97 - s) h) (R : SRq μ h) : CV μ (97 - s) h := by
  have hs := hx.2.1
  refine ⟨by unfold isS at *; omega, C, GM_of C R, fun v hv b => ?_⟩
  have hl := isV_l hv
  have := (hx.2.2.2.2.2.2.1 (v + 3) b (by omega)).2
  rw [rgV hv] at this
  exact this
theorem MV_of {μ : pm_T} {h : ah_T} (G : GM μ) (R : SRq μ h) : MV μ h := ⟨R.1, G, R.2.2.2.2⟩
theorem juF_b {μ : pm_T} (G : GM μ) : (juF μ (μ 0 7).toNat).length ≤ 6404 := by
  have b := G.1.1
  have a := juF_l G (μ 0 7).toNat (by omega)
  have d : ∀ n, n ≤ 4 → LBj n ≤ 6404 := by decide
  exact Nat.le_trans a (d _ (by omega))
theorem SR_c {μ : pm_T} {s : Nat} {h h' : ah_T} (R : SRq μ h) (k : kF FC s h h') : SRq μ h' := KS_s2 R (fun a j q1 q2 => ⟨congrFun (k.2 a (Or.inr (by omega))).1 j, congrFun (k.2 a (Or.inr (by omega))).2.1 j⟩)
theorem cv_eq {z w : Int} (e : Int32.ofInt z = Int32.ofInt w) (h1 : (-2147483648) ≤ z ∧ z ≤ 2147483647) (h2 : (-2147483648) ≤ w ∧ w ≤ 2147483647) : z = w := (i32_eq (by unfold i32; omega) (by unfold i32; omega)).mp e
theorem e_PM_judge {G : cx_T} {s : Nat} {h : ah_T} {μ : pm_T} (hx : xi s h) (hm : mi h) (C : CKn μ (97 - s) h) (R : SRq μ h) : con G 6 0 0 m_PM_judge [av_R (some 0)] h (fun r h' => ∃ z, r = some (av_I z) ∧ ((-2147483648) ≤ z ∧ z ≤ 2147483647) ∧ kF FC s h h' ∧ z = ((juF μ (μ 0 7).toNat).length : Int) ∧ SRq μ h') := by
  have hb0 := hb_xm hx hm
  have V := CV_of hx C R
  have lb := juF_b V.2.2.1
  have t : con G 6 0 0 m_PM_judge [av_R (some 0)] h (fun r h' => r = some (av_I ((juF μ (μ 0 7).toNat).length : Int)) ∧ hb s h') := by
    refine c_PM_judge hb0 ?_
    unfold B_PM_judge_0
    refine con_mono (t_Judge_hear hb0 V) ?_
    rintro r h' ⟨rfl, hb', -⟩
    exact ⟨_, rfl, hb', rfl, hb'⟩
  refine con_mono (con_conj (h2 := h) (s_PM_judge hx) t) ?_
  rintro r h' ⟨⟨z, rfl, q2, kc⟩, r2, h2, ⟨rfl, hb2⟩, er, S⟩
  exact ⟨z, rfl, q2, kc, cv_eq (cv_I er rfl) q2 (by omega), SR_c R kc⟩
theorem e_MD_judge {G : cx_T} {s : Nat} {h : ah_T} {μ : pm_T} (hx : xi s h) (hm : mi h) (hKS : KS h) (GG : GM μ) (R : SRq μ h) : con G 6 0 0 m_MD_judge [av_R (some 170)] h (fun r h' => ∃ z, r = some (av_I z) ∧ ((-2147483648) ≤ z ∧ z ≤ 2147483647) ∧ (h'.2.1 170 80 ≤ 8000) ∧ kM (pm [65, 66, 80] [221, 222, 223, 224]) h h' ∧ z = ((juF μ (μ 0 7).toNat).length : Int)) := by
  have hb0 := hb_xm hx hm
  have lb := juF_b GG
  refine con_mono (con_conj (h2 := h) (s_MD_judge hm hKS) (t_MD_judge hb0 (MV_of GG R))) ?_
  rintro r h' ⟨⟨z, rfl, q2, q3, kn⟩, r2, h2, ⟨rfl, hb2, -⟩, er, S⟩
  exact ⟨z, rfl, q2, q3, kn, cv_eq (cv_I er rfl) q2 (by omega)⟩
