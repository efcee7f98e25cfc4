/-! ===== judge, the class: two voices; a BAR ===== -/
theorem pr_b {a b d : Int} (h : 0 ≤ a ∧ a ≤ 1000 * b) (hb : 1 ≤ b ∧ b ≤ 1000000) (hd : 1 ≤ d ∧ d ≤ 1000000) : 0 ≤ a * d ∧ a * d ≤ 1000000000000000 := by
  have h1 : 0 ≤ a * d := Int.mul_nonneg h.1 (by omega)
  have h2 : a * d ≤ 1000000000 * 1000000 := Int.mul_le_mul (by omega) hd.2 (by omega) (by omega)
  omega
/-- an event of this voice sounds lower than this one does at its highest, while both last -/
def CRo (μ : pm_T) (o n e j : Nat) : Prop := (j : Int) < μ (10 + o) 0 ∧ 1 ≤ pt μ o j ∧ SL μ n e o (j + 1) ∧ SL μ o j n (e + 1) ∧ ky μ o j 0 < ky μ n e (pt μ n e - 1).toNat
def CRs (μ : pm_T) (o n e : Nat) : Prop := 1 ≤ pt μ n e ∧ ∃ j, CRo μ o n e j
/-- the first event of the other voice that has not ended -/
def SNe (μ : pm_T) (o n e i : Nat) : Prop := (i : Int) ≤ μ (10 + o) 0 ∧ (∀ j, j < i → SE μ o (j + 1) n e) ∧ ((i : Int) < μ (10 + o) 0 → SL μ n e o (i + 1))
section
variable {G : cx_T} {s c n e : Nat} {h : ah_T} {μ : pm_T}
theorem j_compare {o i : Nat} (hb0 : hb s h) (H : CV μ c h) (ho : (o : Int) < μ 0 7) (hi : (i : Int) ≤ μ (10 + o) 0) (hn : (n : Int) < μ 0 7) (he : (e : Int) ≤ μ (10 + n) 0) : con G 1 0 0 m_Judge_compareStarts [av_R (some (c + 7 + 14 * o)), av_I (i : Int), av_R (some (c + 7 + 14 * n)), av_I (e : Int)] h (fun r h' => ∃ z : Int, r = some (av_I z) ∧ hb s h' ∧ h' = h ∧ (z < 0 ↔ SL μ o i n e) ∧ (0 < z ↔ SL μ n e o i)) := by
  obtain ⟨hv, -, -, hE, -⟩ := CV_v H hn
  obtain ⟨hvo, -, -, hO, -⟩ := CV_v H ho
  obtain ⟨t1, t2⟩ := CV_t H ho hi
  obtain ⟨t3, t4⟩ := CV_t H hn he
  have b1 := GM_b H.2.2.1 ho i
  have b2 := GM_b H.2.2.1 hn e
  refine c_Judge_compareStarts hvo hv hb0 (fun _ _ => ?_)
  unfold B_Judge_compareStarts_0
  refine ⟨by omega, ?_⟩
  rw [tn_c, tn_c]
  intro x2 e2 _ _
  obtain rfl := e2.trans t1
  refine ⟨by omega, fun x5 e5 _ _ x7 e7 => ?_⟩
  obtain rfl := e5.trans t4
  have p1 := pr_b b1.1 b1.2 b2.2
  refine ⟨by omega, fun x10 e10 _ _ x12 e12 _ _ x13 e13 => ?_⟩
  obtain rfl := e10.trans t3
  obtain rfl := e12.trans t2
  have p2 := pr_b b2.1 b2.2 b1.2
  refine ⟨by omega, ?_⟩
  refine con_mono s_JLong_compare ?_
  rintro r h2 ⟨z, rfl, z1, ⟨q1, q2, q3⟩, rfl⟩
  refine ⟨z, rfl, hb0, z, rfl, hb0, rfl, ?_⟩
  unfold SL
  omega
theorem j_first {o i : Nat} (hb0 : hb s h) (H : CV μ c h) (ho : (o : Int) < μ 0 7) (hi : (i : Int) ≤ μ (10 + o) 0) (hn : (n : Int) < μ 0 7) (he : (e : Int) < μ (10 + n) 0) (hs : ∀ j, j < i → SE μ o (j + 1) n e) : con G 2 0 0 m_Judge_firstNotEnded [av_R (some (c + 7 + 14 * o)), av_I (i : Int), av_R (some (c + 7 + 14 * n)), av_I (e : Int)] h (fun r h' => ∃ k : Nat, r = some (av_I (k : Int)) ∧ hb s h' ∧ h' = h ∧ SNe μ o n e k) := by
  obtain ⟨hv, -, -, hE, -⟩ := CV_v H hn
  obtain ⟨hvo, h14, -, hO, -⟩ := CV_v H ho
  refine c_Judge_firstNotEnded hvo hv (X3 := fun v4 hh => hh = h ∧ ∃ k : Nat, v4 = (k : Int) ∧ (k : Int) ≤ μ (10 + o) 0 ∧ ∀ j, j < k → SE μ o (j + 1) n e) ?_ hb0 (fun _ _ => ?_)
  · refine lp_Judge_firstNotEnded_3 (a1 := (i : Int)) hvo hv _ (fun v4 _ => (301 - v4).toNat) ?_
    rintro v4 hh hb1 ⟨rfl, k, rfl, hk, al⟩
    unfold B_Judge_firstNotEnded_3 B_Judge_firstNotEnded_31
    intro x1 e1 _ _
    have ex := e1.trans h14
    subst ex
    refine ⟨fun q => ⟨k, rfl, hb1, rfl, hk, al, fun q2 => by omega⟩, fun q => ⟨⟨by omega, by omega⟩, ?_⟩⟩
    rw [show (k : Int) + 1 = ((k + 1 : Nat) : Int) by omega]
    refine con_mono (j_compare hb1 H ho (i := k + 1) (by omega) hn (Int.le_of_lt he)) ?_
    rintro r h2 ⟨z, rfl, hb2, rfl, z1, z2⟩
    refine ⟨z, rfl, hb2, fun q2 => ⟨k, rfl, hb2, rfl, hk, al, fun _ => z2.mp q2⟩, fun q2 => ⟨⟨rfl, k + 1, rfl, by omega, fun j hj => ?_⟩, by omega⟩⟩
    by_cases cj : j = k
    · subst cj
      exact SL_n.mp (fun w => q2 (z2.mpr w))
    · exact al j (by omega)
  · unfold B_Judge_firstNotEnded_0
    exact ⟨rfl, i, rfl, hi, hs⟩
theorem j_crossed {o i : Nat} (hb0 : hb s h) (H : CV μ c h) (ho : (o : Int) < μ 0 7) (hn : (n : Int) < μ 0 7) (he : (e : Int) < μ (10 + n) 0) (hS : SNe μ o n e i) : con G 2 0 0 m_Judge_isCrossed [av_R (some (c + 7 + 14 * o)), av_I (i : Int), av_R (some (c + 7 + 14 * n)), av_I (e : Int)] h (fun r h' => ∃ z : Int, r = some (av_I z) ∧ hb s h' ∧ h' = h ∧ ((z = 0 ∧ ¬ CRs μ o n e) ∨ (z = 1 ∧ CRs μ o n e))) := by
  obtain ⟨hv, -, -, hE, -⟩ := CV_v H hn
  obtain ⟨hvo, h14, -, hO, -⟩ := CV_v H ho
  have GG := H.2.2.1
  refine c_Judge_isCrossed hvo hv (X13 := fun v4 hh => hh = h ∧ 1 ≤ pt μ n e ∧ ∃ k : Nat, v4 = (k : Int) ∧ i ≤ k ∧ (k : Int) ≤ μ (10 + o) 0 ∧ ∀ j, j < k → ¬ CRo μ o n e j) ?_ hb0 (fun _ _ => ?_)
  · refine lp_Judge_isCrossed_13 (a1 := (i : Int)) hvo hv _ (fun v4 _ => (301 - v4).toNat) ?_
    rintro v4 hh hb1 ⟨rfl, hp, k, rfl, hik, hk, al⟩
    unfold B_Judge_isCrossed_13 B_Judge_isCrossed_66 B_Judge_isCrossed_60
    have step : ¬ CRo μ o n e k → ∀ j, j < k + 1 → ¬ CRo μ o n e j := fun q j hj => by
      by_cases cj : j = k
      · subst cj; exact q
      · exact al j (by omega)
    intro x1 e1 _ _
    have ex := e1.trans h14
    subst ex
    refine ⟨fun q => ⟨0, rfl, hb1, rfl, Or.inl ⟨rfl, ?_⟩⟩, fun q => ⟨⟨by omega, by omega⟩, ?_⟩⟩
    · rintro ⟨-, j, hj⟩
      exact al j (by have := hj.1; omega) hj
    have hk' : (k : Int) < μ (10 + o) 0 := by omega
    rw [show (e : Int) + 1 = ((e + 1 : Nat) : Int) by omega]
    refine con_mono (j_compare hb1 H ho (i := k) hk hn (e := e + 1) (by omega)) ?_
    rintro r h2 ⟨z, rfl, hb2, rfl, z1, z2⟩
    refine ⟨z, rfl, hb2, fun q2 => ⟨0, rfl, hb2, rfl, Or.inl ⟨rfl, ?_⟩⟩, fun q2 => ?_⟩
    · rintro ⟨-, j, hj⟩
      by_cases cj : j < k
      · exact al j cj hj
      · have a1 : SE μ n (e + 1) o k := SL_n.mp (fun w => by have := z1.mpr w; omega)
        have a2 := GM_m GG ho (i := k) j (by omega) (Int.le_of_lt hj.1)
        exact SL_n.mpr (SE_le GG hn ho ho a1 a2) hj.2.2.2.1
    have s1 : SL μ o k n (e + 1) := z1.mp (by omega)
    refine con_mono (j_isRest hb2 H ho hk') ?_
    rintro r h3 ⟨y, rfl, hb3, rfl, y1⟩
    refine ⟨y, rfl, hb3, fun q3 => ?_, fun q3 => ⟨⟨by omega, by omega⟩, ⟨rfl, hp, k + 1, by omega, by omega, by omega, step (fun w => q3 (y1.mpr w.2.1))⟩, by omega⟩⟩
    have hpo := y1.mp q3
    refine con_mono (j_lowest hb3 H ho hk' hpo) ?_
    rintro r h4 ⟨lo, rfl, hb4, rfl, l1⟩
    refine ⟨lo, rfl, hb4, ?_⟩
    refine con_mono (j_highest hb4 H hn he hp) ?_
    rintro r h5 ⟨hi, rfl, hb5, rfl, l2⟩
    refine ⟨hi, rfl, hb5, fun q4 => ⟨⟨by omega, by omega⟩, ⟨rfl, hp, k + 1, by omega, by omega, by omega, step (fun w => ?_)⟩, by omega⟩, fun q4 => ⟨1, rfl, hb5, rfl, Or.inr ⟨rfl, hp, k, hk', hpo, ?_, s1, by omega⟩⟩⟩
    · have := w.2.2.2.2
      omega
    · by_cases ck : i = k
      · subst ck
        exact hS.2.2 hk'
      · exact SL_le GG hn ho ho (hS.2.2 (by omega)) (GM_m GG ho (k + 1) (by omega) (by omega))
  · unfold B_Judge_isCrossed_0
    refine con_mono (j_isRest hb0 H hn he) ?_
    rintro r h2 ⟨z, rfl, hb2, rfl, z1⟩
    refine ⟨z, rfl, hb2, fun q => ⟨rfl, z1.mp q, i, rfl, Nat.le_refl _, hS.1, fun j hj w => ?_⟩, fun q => ⟨0, rfl, hb2, rfl, Or.inl ⟨rfl, fun w => q (z1.mpr w.1)⟩⟩⟩
    exact SL_n.mpr (hS.2.1 j hj) w.2.2.1
end
