/-! ===== judge, the reference: two voices, ties, bars ===== -/
theorem nx300 (n e : Nat) : (300 * (n : Int) + (e : Int)).toNat = 300 * n + e := by omega
section
variable {G : cx_T} {s n e : Nat} {h : ah_T} {μ : pm_T}
theorem m_crosses {o : Nat} (hb0 : hb s h) (H : MV μ h) (hn : (n : Int) < μ 0 7) (he : (e : Int) < μ (10 + n) 0) (ho : (o : Int) < μ 0 7) (hp : 1 ≤ pt μ n e) : con G 4 0 0 m_MD_crosses [av_R (some 170), av_I (300 * (n : Int) + (e : Int)), av_I (o : Int)] h (fun r h' => ∃ z : Int, r = some (av_I z) ∧ hb s h' ∧ fr JWs h h' ∧ h'.2.1 = h.2.1 ∧ ((z = 0 ∧ ¬ CRs μ o n e) ∨ (z = 1 ∧ CRs μ o n e))) := by
  obtain ⟨hO1, -, hO, -, o4⟩ := MV_n H ho
  refine c_MD_crosses (X2 := fun v3 hh => fr JWs h hh ∧ hh.2.1 = h.2.1 ∧ ∃ k : Nat, v3 = (k : Int) ∧ (k : Int) ≤ μ (10 + o) 0 ∧ ∀ j, j < k → ¬ CRo μ o n e j) ?_ hb0 (fun _ _ => ?_)
  · refine lp_MD_crosses_2 _ (fun v3 _ => (301 - v3).toNat) ?_
    rintro v3 hh hb1 ⟨f, ei, k, rfl, hk, al⟩
    have H1 := MV_f H f JWs_w
    have step : ¬ CRo μ o n e k → ∀ j, j < k + 1 → ¬ CRo μ o n e j := fun q j hj => by
      by_cases cj : j = k
      · subst cj; exact q
      · exact al j (by omega)
    unfold B_MD_crosses_2 B_MD_crosses_67
    refine ⟨by omega, ?_⟩
    rw [tn_c]
    intro x2 e2 _ _
    have ex := e2.trans (MV_n H1 ho).1
    subst ex
    refine ⟨fun q => ⟨0, rfl, hb1, f, ei, Or.inl ⟨rfl, ?_⟩⟩, fun q => ⟨⟨by omega, by omega⟩, ⟨by omega, by omega⟩, by omega, ?_⟩⟩
    · rintro ⟨-, j, hj⟩
      exact al j (by have := hj.1; omega) hj
    have hk' : (k : Int) < μ (10 + o) 0 := by omega
    rw [nx300]
    intro x7 e7 _ _
    have ex := e7.trans (MV_e H1 ho hk').1.1
    subst ex
    refine ⟨fun q2 => ⟨⟨by omega, by omega⟩, ⟨f, ei, k + 1, by omega, by omega, step (fun w => by have := w.2.1; omega)⟩, by omega⟩, fun q2 => ?_⟩
    refine con_mono (m_isAhead hb1 H1 hn he ho hk') ?_
    rintro r h2 ⟨z, rfl, hb2, f2, i2, z1⟩
    have f2' := fr_t f f2 (fun _ _ w => w)
    have H2 := MV_f H1 f2 JWs_w
    refine ⟨z, rfl, hb2, fun q3 => ?_, fun q3 => ⟨⟨by omega, by omega⟩, ⟨f2', i2.trans ei, k + 1, by omega, by omega, step (fun w => q3 (z1.mpr w.2.2.2.1))⟩, by omega⟩⟩
    refine con_mono (m_isAhead hb2 H2 ho hk' hn he) ?_
    rintro r h3 ⟨z', rfl, hb3, f3, i3, z2⟩
    have f3' := fr_t f2' f3 (fun _ _ w => w)
    have H3 := MV_f H2 f3 JWs_w
    have i3' := i3.trans (i2.trans ei)
    refine ⟨z', rfl, hb3, fun q4 => ?_, fun q4 => ⟨⟨by omega, by omega⟩, ⟨f3', i3', k + 1, by omega, by omega, step (fun w => q4 (z2.mpr w.2.2.1))⟩, by omega⟩⟩
    refine con_mono (m_lowest hb3 H3 ho hk' (by omega)) ?_
    rintro r h4 ⟨lo, rfl, hb4, rfl, l1⟩
    refine ⟨lo, rfl, hb4, ?_⟩
    refine con_mono (m_highest hb4 H3 hn he hp) ?_
    rintro r h5 ⟨hi, rfl, hb5, rfl, l2⟩
    exact ⟨hi, rfl, hb5, fun q5 => ⟨⟨by omega, by omega⟩, ⟨f3', i3', k + 1, by omega, by omega, step (fun w => by have := w.2.2.2.2; omega)⟩, by omega⟩, fun q5 => ⟨1, rfl, hb5, f3', i3', Or.inr ⟨rfl, hp, k, hk', by omega, z2.mp q4, z1.mp q3, by omega⟩⟩⟩
  · unfold B_MD_crosses_0
    exact ⟨fr_0, rfl, 0, rfl, by omega, fun j hj => by omega⟩
theorem SE_u {o i j : Nat} (GG : GM μ) (ho : (o : Int) < μ 0 7) (hn : (n : Int) < μ 0 7) (hi : (i : Int) < μ (10 + o) 0) (hj : (j : Int) < μ (10 + o) 0) (a1 : SE μ o i n e) (a2 : SE μ n e o i) (b1 : SE μ o j n e) (b2 : SE μ n e o j) : i = j := by
  by_cases c1 : i < j
  · exact absurd (SE_le GG ho hn ho b1 a2) (SE_n.mpr (GM_l GG ho c1 (by omega)))
  · by_cases c2 : j < i
    · exact absurd (SE_le GG ho hn ho a1 b2) (SE_n.mpr (GM_l GG ho c2 (by omega)))
    · omega
theorem m_goesAlong {o : Nat} (hb0 : hb s h) (H : MV μ h) (hn : (n : Int) < μ 0 7) (he : (e : Int) < μ (10 + n) 0) (ho : (o : Int) < μ 0 7) (h1e : 1 ≤ e) : con G 1 0 0 m_MD_goesAlong [av_R (some 170), av_I (300 * (n : Int) + (e : Int)), av_I (o : Int)] h (fun r h' => ∃ z : Int, r = some (av_I z) ∧ hb s h' ∧ h' = h ∧ ((z = 0 ∧ ¬ PAs μ o n e) ∨ (z = 1 ∧ PAs μ o n e))) := by
  have GG := H.2.1
  obtain ⟨hO1, -, hO, -, o4⟩ := MV_n H ho
  obtain ⟨hN1, -, hN, -, n4⟩ := MV_n H hn
  have he1 : ((e - 1 : Nat) : Int) < μ (10 + n) 0 := by omega
  obtain ⟨⟨y1, -, -⟩, ⟨z0, z1, -⟩, -⟩ := MV_e H hn he
  obtain ⟨⟨y1', -, -⟩, -⟩ := MV_e H hn he1
  have bn := GM_b GG hn e
  refine c_MD_goesAlong (X2 := fun v3 hh => hh = h ∧ ∃ k : Nat, v3 = (k : Int) ∧ 1 ≤ k ∧ (∀ j, j < k → ¬ PAo μ o n e j) ∧ (k : Int) ≤ 301) ?_ hb0 (fun _ _ => ?_)
  · refine lp_MD_goesAlong_2 _ (fun v3 _ => (302 - v3).toNat) ?_
    rintro v3 hh hb1 ⟨rfl, k, rfl, k1, al, k3⟩
    unfold B_MD_goesAlong_2
    refine ⟨by omega, ?_⟩
    rw [tn_c]
    intro x2 e2 _ _
    have ex := e2.trans hO1
    subst ex
    refine ⟨fun q => ⟨0, rfl, hb1, rfl, Or.inl ⟨rfl, ?_⟩⟩, fun q => ⟨⟨by omega, by omega⟩, ⟨by omega, by omega⟩, by omega, ?_⟩⟩
    · rintro ⟨-, j, hj⟩
      exact al j (by have := hj.1.2; omega) hj
    have hk' : (k : Int) < μ (10 + o) 0 := by omega
    have hk1 : ((k - 1 : Nat) : Int) < μ (10 + o) 0 := by omega
    obtain ⟨⟨v1, -, -⟩, ⟨w0, w1, -⟩, -⟩ := MV_e H ho hk'
    obtain ⟨⟨v1', -, -⟩, -⟩ := MV_e H ho hk1
    have bo := GM_b GG ho k
    rw [nx300, nx300]
    intro x7 e7 _ _ x10 e10 _ _
    obtain rfl := e7.trans w0
    obtain rfl := e10.trans w1
    refine ⟨by omega, fun x12 e12 _ _ x15 e15 _ _ => ?_⟩
    obtain rfl := e12.trans z0
    obtain rfl := e15.trans z1
    have p1 := pr_b bo.1 bo.2 bn.2
    have p2 := pr_b bn.1 bn.2 bo.2
    refine con_mono (m_compare hb1 (by omega) (by omega)) ?_
    rintro r h2 ⟨z, rfl, hb2, rfl, g1, g2⟩
    refine ⟨z, rfl, hb2, fun q2 => ?_, fun q2 => ⟨⟨by omega, by omega⟩, ⟨rfl, k + 1, by omega, by omega, fun j hj => ?_, by omega⟩, by omega⟩⟩
    rotate_left
    · by_cases cj : j = k
      · subst cj
        intro w
        have w1 := w.2.1.1
        have w2 := w.2.1.2
        unfold SE at w1 w2
        omega
      · exact al j (by omega)
    have q2' := g1.mp q2
    have s1 : SE μ o k n e := by unfold SE; omega
    have s2 : SE μ n e o k := by unfold SE; omega
    have uni : PAs μ o n e → PAo μ o n e k := fun ⟨_, j, b⟩ => by
      have := SE_u GG ho hn b.1.2 hk' b.2.1.1 b.2.1.2 s1 s2
      subst this
      exact b
    have no : ¬ PAo μ o n e k → ∃ z : Int, some (av_I 0) = some (av_I z) ∧ hb s h2 ∧ h2 = h2 ∧ ((z = 0 ∧ ¬ PAs μ o n e) ∨ (z = 1 ∧ PAs μ o n e)) := fun q => ⟨0, rfl, hb2, rfl, Or.inl ⟨rfl, fun w => q (uni w)⟩⟩
    unfold B_MD_goesAlong_103 B_MD_goesAlong_104 B_MD_goesAlong_172 B_MD_goesAlong_191 B_MD_goesAlong_192
    intro x20 e20 _ _
    obtain rfl := e20.trans v1
    have out : ¬ PAo μ o n e k → ∀ {A : Prop}, ((0 : Int) = 0 → ∃ z : Int, some (av_I 0) = some (av_I z) ∧ hb s h2 ∧ h2 = h2 ∧ ((z = 0 ∧ ¬ PAs μ o n e) ∨ (z = 1 ∧ PAs μ o n e))) ∧ (¬ (0 : Int) = 0 → A) := fun q A => ⟨fun _ => no q, fun w => absurd rfl w⟩
    refine ⟨fun q3 => out (fun w => by have := w.2.2.1.2.2.1; omega), fun q3 => ⟨⟨by omega, by omega⟩, by omega, ?_⟩⟩
    rw [show (300 * (o : Int) + (k : Int) - 1).toNat = 300 * o + (k - 1) by omega, show (300 * (n : Int) + (e : Int) - 1).toNat = 300 * n + (e - 1) by omega]
    intro x23 e23 _ _
    obtain rfl := e23.trans v1'
    refine ⟨fun q4 => out (fun w => by have := w.2.2.1.2.2.2; omega), fun q4 x26 e26 _ _ => ?_⟩
    obtain rfl := e26.trans y1
    refine ⟨fun q5 => out (fun w => by have := w.2.2.1.1; omega), fun q5 => ⟨⟨by omega, by omega⟩, by omega, fun x29 e29 _ _ => ?_⟩⟩
    obtain rfl := e29.trans y1'
    refine ⟨fun q6 => out (fun w => by have := w.2.2.1.2.1; omega), fun q6 => ⟨fun c => absurd c (by decide), fun _ => ?_⟩⟩
    have p1 : 1 ≤ pt μ n e := by omega
    have p2 : 1 ≤ pt μ n (e - 1) := by omega
    have p3 : 1 ≤ pt μ o k := by omega
    have p4 : 1 ≤ pt μ o (k - 1) := by omega
    have k1 := ky_b (k := 0) (p := 0) GG hn he (by omega)
    have k2 := ky_b (k := 0) (p := 0) GG hn he1 (by omega)
    have k3 := ky_b (k := 0) (p := 0) GG ho hk' (by omega)
    have k4 := ky_b (k := 0) (p := 0) GG ho hk1 (by omega)
    have eo : 300 * (o : Int) + (k : Int) - 1 = 300 * (o : Int) + ((k - 1 : Nat) : Int) := by omega
    have en : 300 * (n : Int) + (e : Int) - 1 = 300 * (n : Int) + ((e - 1 : Nat) : Int) := by omega
    refine con_mono (m_lowest hb2 H ho hk' p3) ?_
    rintro r h7 ⟨a, rfl, hb7, rfl, rfl⟩
    refine ⟨_, rfl, hb7, ?_⟩
    refine con_mono (m_lowest hb7 H hn he p1) ?_
    rintro r h8 ⟨b, rfl, hb8, rfl, rfl⟩
    refine ⟨_, rfl, hb8, ⟨by omega, by omega⟩, ?_⟩
    refine con_mono (m_modulo hb8) ?_
    rintro r h9 ⟨f1, rfl, hb9, rfl, f1e⟩
    refine ⟨_, rfl, hb9, ⟨by omega, by omega⟩, ?_⟩
    rw [eo]
    refine con_mono (m_lowest hb9 H ho hk1 p4) ?_
    rintro r h10 ⟨a', rfl, hb10, rfl, rfl⟩
    refine ⟨_, rfl, hb10, ⟨by omega, by omega⟩, ?_⟩
    rw [en]
    refine con_mono (m_lowest hb10 H hn he1 p2) ?_
    rintro r h11 ⟨b', rfl, hb11, rfl, rfl⟩
    refine ⟨_, rfl, hb11, ⟨by omega, by omega⟩, ?_⟩
    refine con_mono (m_modulo hb11) ?_
    rintro r h12 ⟨f2, rfl, hb12, rfl, f2e⟩
    have last : (f1 = 0 ∨ f1 = 7) → f1 = f2 → B_MD_goesAlong_172 G s (300 * (n : Int) + (e : Int)) (o : Int) h12 (fun r h' => ∃ z : Int, r = some (av_I z) ∧ hb s h' ∧ h' = h12 ∧ ((z = 0 ∧ ¬ PAs μ o n e) ∨ (z = 1 ∧ PAs μ o n e))) := by
      intro g1 g2
      unfold B_MD_goesAlong_172 B_MD_goesAlong_191 B_MD_goesAlong_192
      refine con_mono (m_lowest hb12 H hn he p1) ?_
      rintro r h13 ⟨u, rfl, hb13, rfl, rfl⟩
      refine ⟨_, rfl, hb13, ⟨by omega, by omega⟩, ?_⟩
      rw [en]
      refine con_mono (m_lowest hb13 H hn he1 p2) ?_
      rintro r h14 ⟨u', rfl, hb14, rfl, rfl⟩
      refine ⟨_, rfl, hb14, fun g3 => ⟨Or.inl rfl, no (fun w => w.2.2.2.2.2 g3)⟩, fun g3 => ⟨Or.inr rfl, 1, rfl, hb14, rfl, Or.inr ⟨rfl, h1e, k, ⟨by omega, hk'⟩, ⟨s1, s2⟩, ⟨p1, p2, p3, p4⟩, ?_, ?_, g3⟩⟩⟩
      · rw [← f1e, ← f2e]; exact g2
      · rw [← f1e]; exact g1
    unfold B_MD_goesAlong_172 B_MD_goesAlong_191 B_MD_goesAlong_192 at last
    rw [en] at last
    refine ⟨_, rfl, hb12, fun g => ⟨fun g2 => last (Or.inl g2) g, fun g2 => ⟨fun g3 => last (Or.inr g3) g, fun g3 => ⟨Or.inl rfl, no (fun w => ?_)⟩⟩⟩, fun g => ⟨Or.inl rfl, no (fun w => ?_)⟩⟩
    · have w := w.2.2.2.2.1
      rw [← f1e] at w
      omega
    · have w := w.2.2.2.1
      rw [← f1e, ← f2e] at w
      exact g w
  · unfold B_MD_goesAlong_0
    exact ⟨rfl, 1, rfl, Nat.le_refl _, fun j hj w => by have := w.1.1; omega, by omega⟩
theorem m_firstOf {b : Nat} (hb0 : hb s h) (H : MV μ h) (hn : (n : Int) < μ 0 7) (hb1 : (b : Int) < μ (10 + n) 1) : con G 0 0 0 m_MD_firstOf [av_R (some 170), av_I (n : Int), av_I (b : Int)] h (fun r h' => r = some (av_I (brE μ n b : Int)) ∧ hb s h' ∧ h' = h) := by
  have GG := H.2.1
  obtain ⟨hN1, -, hN, -, n4⟩ := MV_n H hn
  have V := GG.1.2 n hn
  have v2 := V.2.2.1 b hb1
  have eb : brE μ n b = (μ (100 + 40 * n + 30) b).toNat := by unfold brE; rw [if_pos hb1]
  refine c_MD_firstOf (X2 := fun v3 hh => hh = h ∧ ∃ k : Nat, v3 = (k : Int) ∧ k ≤ brE μ n b) ?_ hb0 (fun _ _ => ?_)
  · refine lp_MD_firstOf_2 _ (fun v3 _ => (301 - v3).toNat) ?_
    rintro v3 hh hb2 ⟨rfl, k, rfl, hk⟩
    unfold B_MD_firstOf_2 B_MD_firstOf_34
    refine ⟨by omega, ?_⟩
    rw [tn_c]
    intro x2 e2 _ _
    have ex := e2.trans hN1
    subst ex
    refine ⟨fun q => ⟨?_, hb2, rfl⟩, fun q => ⟨⟨by omega, by omega⟩, ⟨by omega, by omega⟩, by omega, ?_⟩⟩
    · rw [show brE μ n b = k by omega]
    have hk' : (k : Int) < μ (10 + n) 0 := by omega
    rw [nx300]
    intro x7 e7 _ _
    have ex := e7.trans (MV_e H hn hk').1.2.2
    subst ex
    have iff := (V.2.2.2 k hk').2 b hb1
    refine ⟨fun q2 => ⟨?_, hb2, rfl⟩, fun q2 => ⟨⟨by omega, by omega⟩, ⟨rfl, k + 1, by omega, ?_⟩, by omega⟩⟩
    · have := iff.mpr q2
      rw [show brE μ n b = k by omega]
    · have : ¬ μ (100 + 40 * n + 30) b ≤ (k : Int) := fun w => q2 (iff.mp w)
      omega
  · unfold B_MD_firstOf_0
    exact ⟨rfl, 0, rfl, Nat.zero_le _⟩
end

/-! ===== judge, the reference: ties, bars, the list ===== -/
section
variable {G : cx_T} {s n e : Nat} {h : ah_T} {μ : pm_T}
def GO28 (μ : pm_T) (n e : Nat) (h : ah_T) (v3 v4 v5 : Int) (hh : ah_T) : Prop := hh = h ∧ v3 = 300 * (n : Int) + (e : Int) ∧ ∃ k : Nat, v5 = (k : Int) ∧ (k : Int) ≤ pt μ n e ∧ ((v4 = 1 ∧ ∀ j, j < k → Hky μ n (e + 1) (ky μ n e j)) ∨ (v4 = 0 ∧ ∃ j, j < k ∧ ¬ Hky μ n (e + 1) (ky μ n e j)))
theorem m_goesOn (hb0 : hb s h) (H : MV μ h) (hn : (n : Int) < μ 0 7) (he : (e : Int) < μ (10 + n) 0) : con G 0 0 0 m_MD_goesOn [av_R (some 170), av_I (n : Int), av_I (e : Int)] h (fun r h' => ∃ z : Int, r = some (av_I z) ∧ hb s h' ∧ h' = h ∧ ((z = 0 ∧ ¬ Hld μ n e) ∨ (z = 1 ∧ Hld μ n e))) := by
  obtain ⟨hN1, -, hN, -, n4⟩ := MV_n H hn
  obtain ⟨⟨y1, -, -⟩, -, yb, yk⟩ := MV_e H hn he
  refine c_MD_goesOn (X28 := fun v3 v4 v5 hh => GO28 μ n e h v3 v4 v5 hh ∧ (e : Int) + 1 < μ (10 + n) 0) ?_ hb0 (fun _ _ => ?_)
  · have key : ∀ (N : Nat) (v3 v4 v5 : Int) (hh : ah_T), hb s hh → (GO28 μ n e h v3 v4 v5 hh ∧ (e : Int) + 1 < μ (10 + n) 0) → (10 - v5).toNat < N → aw G (rm_R 0 0 0) m_MD_goesOn 0 0 28 [some (av_R (some 170)), none, none, some (av_I v3), some (av_I v4), some (av_I v5), none, none] [] hh (fun r h' => ∃ z : Int, r = some (av_I z) ∧ hb s h' ∧ h' = h ∧ ((z = 0 ∧ ¬ Hld μ n e) ∨ (z = 1 ∧ Hld μ n e))) := by
      intro N
      induction N with
      | zero => intro v3 v4 v5 hh _ _ q; omega
      | succ N ih =>
        rintro v3 v4 v5 hh hbh ⟨⟨rfl, rfl, k, rfl, hk, al⟩, hl⟩ hN'
        have he1 : ((e + 1 : Nat) : Int) < μ (10 + n) 0 := by omega
        obtain ⟨⟨u1, -, -⟩, -, ub, uk⟩ := MV_e H hn he1
        have in45 : (k : Int) < pt μ n e → ∀ (a3 a4 a5 a6 a7 : Int) (h' : ah_T), hb s h' → (h' = hh ∧ a3 = 300 * (n : Int) + (e : Int) ∧ a4 = v4 ∧ a5 = (k : Int) ∧ ∃ j : Nat, a7 = (j : Int) ∧ (j : Int) ≤ pt μ n (e + 1) ∧ ((a6 = 1 ∧ Hky μ n (e + 1) (ky μ n e k)) ∨ (a6 = 0 ∧ ∀ i, i < j → ky μ n (e + 1) i ≠ ky μ n e k))) → aw G (rm_R 0 0 0) m_MD_goesOn 0 0 45 [some (av_R (some 170)), none, none, some (av_I a3), some (av_I a4), some (av_I a5), some (av_I a6), some (av_I a7)] [] h' (fun r h' => ∃ z : Int, r = some (av_I z) ∧ hb s h' ∧ h' = hh ∧ ((z = 0 ∧ ¬ Hld μ n e) ∨ (z = 1 ∧ Hld μ n e))) := by
          intro hkl
          refine lp_MD_goesOn_45 (a1 := (n : Int)) (a2 := (e : Int)) (X28 := fun b3 b4 b5 h' => (GO28 μ n e hh b3 b4 b5 h' ∧ (e : Int) + 1 < μ (10 + n) 0) ∧ b5 = (k : Int) + 1) (fun b3 b4 b5 h' hb' x => ih b3 b4 b5 h' hb' x.1 (by have := x.2; omega)) _ (fun _ _ _ _ a7 _ => (10 - a7).toNat) ?_
          rintro a3 a4 a5 a6 a7 h' hb' ⟨rfl, rfl, rfl, rfl, j, rfl, hj, a6c⟩
          unfold B_MD_goesOn_45 B_MD_goesOn_117 B_MD_goesOn_118 B_MD_goesOn_90 B_MD_goesOn_95
          refine ⟨⟨by omega, by omega⟩, by omega, ?_⟩
          rw [show (300 * (n : Int) + (e : Int) + 1).toNat = 300 * n + (e + 1) by omega]
          intro x3 e3 _ _
          obtain rfl := e3.trans u1
          have fin0 : ¬ Hky μ n (e + 1) (ky μ n e k) ∨ a4 = 0 → ((-2147483648) ≤ ((k : Int) + 1) ∧ ((k : Int) + 1) ≤ 2147483647) ∧ ((GO28 μ n e h' (300 * (n : Int) + (e : Int)) 0 ((k : Int) + 1) h' ∧ (e : Int) + 1 < μ (10 + n) 0) ∧ (k : Int) + 1 = (k : Int) + 1) := fun w => by
            refine ⟨⟨by omega, by omega⟩, ⟨⟨rfl, rfl, k + 1, by omega, by omega, Or.inr ⟨rfl, ?_⟩⟩, hl⟩, rfl⟩
            rcases w with w | w
            · exact ⟨k, by omega, w⟩
            · rcases al with ⟨a, -⟩ | ⟨-, i, i1, i2⟩
              · omega
              · exact ⟨i, by omega, i2⟩
          refine ⟨fun q => ⟨fun q2 => fin0 (Or.inr q2), fun q2 => ⟨fun q3 => fin0 (Or.inl ?_), fun q3 => ⟨⟨by omega, by omega⟩, ⟨⟨rfl, rfl, k + 1, by omega, by omega, Or.inl ⟨rfl, ?_⟩⟩, hl⟩, rfl⟩⟩⟩, fun q => ⟨fun q2 => ?_, fun q2 => ?_⟩⟩
          · rintro ⟨i, i1, i2⟩
            rcases a6c with ⟨a, -⟩ | ⟨-, a⟩
            · omega
            · exact a i (by omega) i2
          · intro i hi
            by_cases ci : i = k
            · subst ci
              rcases a6c with ⟨-, a⟩ | ⟨a, -⟩
              · exact a
              · exact absurd a q3
            · rcases al with ⟨-, a⟩ | ⟨a, -⟩
              · exact a i (by omega)
              · exact absurd a q2
          · refine ⟨⟨by omega, by omega⟩, ⟨by omega, by omega⟩, ⟨by omega, by omega⟩, by omega, ?_⟩
            rw [show (4 * (300 * (n : Int) + (e : Int)) + (j : Int) + 4).toNat = 4 * (300 * n + (e + 1)) + j by omega]
            intro x9 e9 _ _
            obtain rfl := e9.trans (uk j (by omega))
            refine ⟨⟨by omega, by omega⟩, by omega, ?_⟩
            rw [show (4 * (300 * (n : Int) + (e : Int)) + (k : Int)).toNat = 4 * (300 * n + e) + k by omega]
            intro x13 e13 _ _
            obtain rfl := e13.trans (yk k hkl)
            refine ⟨fun q3 => ⟨⟨by omega, by omega⟩, ⟨rfl, rfl, rfl, rfl, j + 1, by omega, by omega, Or.inl ⟨rfl, j, by omega, q3⟩⟩, by omega⟩, fun q3 => ⟨⟨by omega, by omega⟩, ⟨rfl, rfl, rfl, rfl, j + 1, by omega, by omega, Or.inr ⟨rfl, fun i hi => ?_⟩⟩, by omega⟩⟩
            by_cases ci : i = j
            · subst ci; exact q3
            · rcases a6c with ⟨a, -⟩ | ⟨-, a⟩
              · omega
              · exact a i (by omega)
          · refine ⟨⟨by omega, by omega⟩, ⟨rfl, rfl, rfl, rfl, j + 1, by omega, by omega, Or.inl ⟨rfl, ?_⟩⟩, by omega⟩
            rcases a6c with ⟨-, a⟩ | ⟨a, -⟩
            · exact a
            · exact absurd a q2
        by_cases hkl : (k : Int) < pt μ n e
        · refine b_MD_goesOn_28 (a1 := (n : Int)) (a2 := (e : Int)) (in45 hkl) hbh ?_
          unfold B_MD_goesOn_28
          refine ⟨by omega, ?_⟩
          rw [nx300]
          intro x2 e2 _ _
          obtain rfl := e2.trans y1
          exact ⟨fun q => by omega, fun q => ⟨rfl, rfl, rfl, rfl, 0, rfl, by omega, Or.inr ⟨rfl, fun i hi => by omega⟩⟩⟩
        · refine b_MD_goesOn_28 (a1 := (n : Int)) (a2 := (e : Int)) (X45 := fun _ _ _ _ _ _ => False) (fun _ _ _ _ _ _ _ x => x.elim) hbh ?_
          unfold B_MD_goesOn_28
          refine ⟨by omega, ?_⟩
          rw [nx300]
          intro x2 e2 _ _
          obtain rfl := e2.trans y1
          refine ⟨fun q => ⟨by rcases al with ⟨a, -⟩ | ⟨a, -⟩ <;> omega, v4, rfl, hbh, rfl, ?_⟩, fun q => hkl (by omega)⟩
          rcases al with ⟨a, b⟩ | ⟨a, i, i1, i2⟩
          · exact Or.inr ⟨a, hl, fun i hi => b i (by omega)⟩
          · exact Or.inl ⟨a, fun w => i2 (w.2 i (by omega))⟩
    exact fun v3 v4 v5 hh hbh x => key _ v3 v4 v5 hh hbh x (Nat.lt_succ_self _)
  · unfold B_MD_goesOn_0
    refine ⟨⟨by omega, by omega⟩, by omega, ?_⟩
    rw [tn_c]
    intro x3 e3 _ _
    obtain rfl := e3.trans hN1
    exact ⟨fun q => ⟨0, rfl, hb0, rfl, Or.inl ⟨rfl, fun w => by have := w.1; omega⟩⟩, fun q => ⟨⟨by omega, by omega⟩, ⟨by omega, by omega⟩, ⟨rfl, rfl, 0, rfl, yb.1, Or.inl ⟨rfl, fun j hj => by omega⟩⟩, by omega⟩⟩
theorem m_isWhole {b : Nat} (hb0 : hb s h) (H : MV μ h) (hn : (n : Int) < μ 0 7) (hb1 : (b : Int) < μ (10 + n) 1) : con G 3 0 0 m_MD_isWhole [av_R (some 170), av_I (n : Int), av_I (b : Int)] h (fun r h' => ∃ z : Int, r = some (av_I z) ∧ hb s h' ∧ fr JWs h h' ∧ h'.2.1 = h.2.1 ∧ ((z = 0 ∧ ¬ WHo μ n b) ∨ (z = 1 ∧ WHo μ n b))) := by
  obtain ⟨-, hN2, hN, hB, n4⟩ := MV_n H hn
  have GG := H.2.1
  have T := GG.2.1
  obtain ⟨T1, T2⟩ := H.2.2 (by omega)
  obtain ⟨c1, c2⟩ := MV_b H hn (b := b) (Int.le_of_lt hb1)
  obtain ⟨c3, c4⟩ := MV_b H hn (b := b + 1) (by omega)
  have b0 := GM_b GG hn (brE μ n b)
  have b1 := GM_b GG hn (brE μ n (b + 1))
  have wb := whp_b GG (b := b) hn
  have eW : WHo μ n b ↔ (whT μ n b = whB μ n b ∨ (whT μ n b < whB μ n b ∧ (b = 0 ∨ (b : Int) = μ (10 + n) 1 - 1))) := Iff.rfl
  unfold whT whB at eW
  generalize brE μ n b = i at *
  generalize brE μ n (b + 1) = j at *
  have p1 := pr_b b1.1 b1.2 b0.2
  have p2 := pr_b b0.1 b0.2 b1.2
  have p3 : 1 ≤ smB μ n j * smB μ n i ∧ smB μ n j * smB μ n i ≤ 1000000000000 := by
    have h1 := Int.mul_le_mul b1.2.1 b0.2.1 (by omega) (by omega)
    have h2 : smB μ n j * smB μ n i ≤ 1000000 * 1000000 := Int.mul_le_mul b1.2.2 b0.2.2 (by omega) (by omega)
    omega
  refine c_MD_isWhole hb0 (fun _ _ => ?_)
  unfold B_MD_isWhole_0
  refine ⟨⟨by omega, by omega⟩, ⟨by omega, by omega⟩, ⟨by omega, by omega⟩, by omega, ?_⟩
  rw [show (102 * (n : Int) + (b : Int) + 1).toNat = 102 * n + (b + 1) by omega, show (102 * (n : Int) + (b : Int)).toNat = 102 * n + b by omega]
  intro x5 e5 _ _ x8 e8 _ _
  obtain rfl := e5.trans c3
  obtain rfl := e8.trans c4
  refine ⟨by omega, fun x10 e10 _ _ => ?_⟩
  obtain rfl := e10.trans c1
  refine ⟨⟨by omega, by omega⟩, fun x14 e14 _ _ => ?_⟩
  obtain rfl := e14.trans c2
  have en : -smT μ n i * smB μ n j = -(smT μ n i * smB μ n j) := Int.neg_mul _ _
  refine con_mono (t_MD_sum hb0 (by omega) (by rw [en]; omega) (by rw [en]; omega) (by omega)) ?_
  rintro r h2 ⟨rfl, hb2, f2, t1, t2, t3⟩
  have ex : smT μ n j * smB μ n i + -smT μ n i * smB μ n j = smT μ n j * smB μ n i - smT μ n i * smB μ n j := by rw [en]; omega
  rw [ex] at t1 t2
  have xl : smT μ n j * smB μ n i - smT μ n i * smB μ n j ≤ 1000000000000000 := by omega
  generalize smT μ n j * smB μ n i - smT μ n i * smB μ n j = x at *
  generalize smB μ n j * smB μ n i = y at *
  obtain ⟨r1, r2, g, g1, gx, gy⟩ := rd_pos wb p3.1
  refine ⟨rfl, hb2, fun x18 e18 _ _ x19 e19 _ _ x21 e21 _ _ x23 e23 _ _ => ?_⟩
  obtain rfl := e18.trans t1
  obtain rfl := e19.trans t2
  obtain rfl := e21.trans ((congrFun (congrFun t3 173) 0).trans T1)
  obtain rfl := e23.trans ((congrFun (congrFun t3 174) 0).trans T2)
  generalize hX : rdT x y = X at *
  generalize hY : rdB x y = Y at *
  have q1 : 0 ≤ X * μ 0 2 ∧ X * μ 0 2 ≤ 1000000000000000 * 32 := ⟨Int.mul_nonneg r1.1 (by have := T.2.1; omega), Int.mul_le_mul (by omega) T.2.1.2 (by have := T.2.1; omega) (by omega)⟩
  have q2 : 0 ≤ μ 0 1 * Y ∧ μ 0 1 * Y ≤ 32 * 1000000000000 := ⟨Int.mul_nonneg (by have := T.1; omega) (by omega), Int.mul_le_mul T.1.2 (by omega) (by omega) (by omega)⟩
  have eq1 : x * μ 0 2 = g * (X * μ 0 2) := by rw [← Int.mul_assoc, ← gx]
  have eq2 : y * μ 0 1 = g * (μ 0 1 * Y) := by rw [Int.mul_comm (μ 0 1), ← Int.mul_assoc, ← gy]
  have cmpe : (x * μ 0 2 = y * μ 0 1 ↔ X * μ 0 2 = μ 0 1 * Y) ∧ (x * μ 0 2 < y * μ 0 1 ↔ X * μ 0 2 < μ 0 1 * Y) := by
    rw [eq1, eq2]
    refine ⟨⟨fun w => Int.eq_of_mul_eq_mul_left (by omega) w, fun w => by rw [w]⟩, ⟨fun w => Int.lt_of_mul_lt_mul_left w (by omega), fun w => Int.mul_lt_mul_of_pos_left w (by omega)⟩⟩
  rw [cmpe.1, cmpe.2] at eW
  refine con_mono (m_compare hb2 (by omega) (by omega)) ?_
  rintro r h3 ⟨z, rfl, hb3, rfl, z1, z2⟩
  have f3 : fr JWs h h3 := fr_w f2 (fun a k w => w)
  rw [← z1, ← z2] at eW
  unfold B_MD_isWhole_94 B_MD_isWhole_98 B_MD_isWhole_99
  have yes : WHo μ n b → ((1 : Int) = 0 ∨ (1 : Int) = 1) ∧ ∃ z : Int, some (av_I 1) = some (av_I z) ∧ hb s h3 ∧ fr JWs h h3 ∧ h3.2.1 = h.2.1 ∧ ((z = 0 ∧ ¬ WHo μ n b) ∨ (z = 1 ∧ WHo μ n b)) := fun w => ⟨Or.inr rfl, 1, rfl, hb3, f3, t3, Or.inr ⟨rfl, w⟩⟩
  have no : ¬ WHo μ n b → ((0 : Int) = 0 ∨ (0 : Int) = 1) ∧ ∃ z : Int, some (av_I 0) = some (av_I z) ∧ hb s h3 ∧ fr JWs h h3 ∧ h3.2.1 = h.2.1 ∧ ((z = 0 ∧ ¬ WHo μ n b) ∨ (z = 1 ∧ WHo μ n b)) := fun w => ⟨Or.inl rfl, 0, rfl, hb3, f3, t3, Or.inl ⟨rfl, w⟩⟩
  refine ⟨z, rfl, hb3, fun q => yes (eW.mpr (Or.inl q)), fun q => ⟨fun q2 => no (fun w => ?_), fun q2 => ⟨fun q3 => yes (eW.mpr (Or.inr ⟨by omega, Or.inl (by omega)⟩)), fun q3 => ⟨by omega, ?_⟩⟩⟩⟩
  · rcases eW.mp w with w | ⟨w, -⟩ <;> omega
  rw [tn_c]
  intro x28 e28 _ _
  obtain rfl := e28.trans ((congrFun (congrFun t3 186) n).trans hN2)
  refine ⟨⟨by omega, by omega⟩, fun q4 => yes (eW.mpr (Or.inr ⟨by omega, Or.inr q4⟩)), fun q4 => no (fun w => ?_)⟩
  rcases eW.mp w with w | ⟨-, w | w⟩ <;> omega
end
