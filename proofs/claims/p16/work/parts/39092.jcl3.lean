/-! ===== judge, the class: parallels; a BAR that is not whole ===== -/
def PAo (μ : pm_T) (o n e j : Nat) : Prop := (1 ≤ j ∧ (j : Int) < μ (10 + o) 0) ∧ (SE μ o j n e ∧ SE μ n e o j) ∧ (1 ≤ pt μ n e ∧ 1 ≤ pt μ n (e - 1) ∧ 1 ≤ pt μ o j ∧ 1 ≤ pt μ o (j - 1)) ∧
  (ky μ o j 0 - ky μ n e 0) % 12 = (ky μ o (j - 1) 0 - ky μ n (e - 1) 0) % 12 ∧ ((ky μ o j 0 - ky μ n e 0) % 12 = 0 ∨ (ky μ o j 0 - ky μ n e 0) % 12 = 7) ∧ ky μ n e 0 ≠ ky μ n (e - 1) 0
def PAs (μ : pm_T) (o n e : Nat) : Prop := 1 ≤ e ∧ ∃ j, PAo μ o n e j
section
variable {G : cx_T} {s c n e : Nat} {h : ah_T} {μ : pm_T}
theorem ky_b {k p : Nat} (H : GM μ) (hn : (n : Int) < μ 0 7) (he : (e : Int) < μ (10 + n) 0) (hp : (p : Int) < pt μ n e) : -2 ≤ ky μ n e p ∧ ky μ n e p ≤ 109 :=
  ((H.2.2 n hn).2.2.2.1 e he).2.2.2.2.2.2.1 p hp |>.1
theorem PA_i {o i j : Nat} (GG : GM μ) (ho : (o : Int) < μ 0 7) (hn : (n : Int) < μ 0 7) (hS : SNe μ o n e i) (P : PAo μ o n e j) : j = i := by
  obtain ⟨⟨p1, p2⟩, ⟨p3, p4⟩, -⟩ := P
  by_cases c1 : j < i
  · have a := hS.2.1 j c1
    have b := GM_s GG ho p2
    exact absurd (SE_le GG ho hn ho a p4) (SE_n.mpr b)
  · by_cases c2 : i < j
    · have a := hS.2.2 (by omega)
      have b := GM_m GG ho (i := i + 1) j (by omega) (by omega)
      exact absurd (SE_le GG ho ho hn b p3) (SE_n.mpr a)
    · omega
theorem j_parallel {o i : Nat} (hb0 : hb s h) (H : CV μ c h) (ho : (o : Int) < μ 0 7) (hn : (n : Int) < μ 0 7) (he : (e : Int) < μ (10 + n) 0) (hS : SNe μ o n e i) : con G 2 0 0 m_Judge_isParallel [av_R (some (c + 7 + 14 * o)), av_I (i : Int), av_R (some (c + 7 + 14 * n)), av_I (e : Int)] h (fun r h' => ∃ z : Int, r = some (av_I z) ∧ hb s h' ∧ h' = h ∧ ((z = 0 ∧ ¬ PAs μ o n e) ∨ (z = 1 ∧ PAs μ o n e))) := by
  obtain ⟨hv, -, -, hE, -⟩ := CV_v H hn
  obtain ⟨hvo, h14, -, hO, -⟩ := CV_v H ho
  have GG := H.2.2.1
  have uni : PAs μ o n e → 1 ≤ e ∧ PAo μ o n e i := fun ⟨a, j, b⟩ => ⟨a, by rw [PA_i GG ho hn hS b] at b; exact b⟩
  refine c_Judge_isParallel hvo hv hb0 (fun _ _ => ?_)
  unfold B_Judge_isParallel_0 B_Judge_isParallel_28 B_Judge_isParallel_66 B_Judge_isParallel_127 B_Judge_isParallel_146 B_Judge_isParallel_147
  have no : ¬ PAs μ o n e → ∃ z : Int, some (av_I 0) = some (av_I z) ∧ hb s h ∧ h = h ∧ ((z = 0 ∧ ¬ PAs μ o n e) ∨ (z = 1 ∧ PAs μ o n e)) := fun q => ⟨0, rfl, hb0, rfl, Or.inl ⟨rfl, q⟩⟩
  refine ⟨fun q => no (fun w => by have := w.1; omega), fun q => ⟨fun q2 => no (fun w => by have := (uni w).2.1.1; omega), fun q2 x1 e1 _ _ => ?_⟩⟩
  have ex := e1.trans h14
  subst ex
  refine ⟨fun q3 => no (fun w => by have := (uni w).2.1.2; omega), fun q3 => ?_⟩
  refine con_mono (j_compare hb0 H ho (i := i) (by omega) hn (e := e) (by omega)) ?_
  rintro r h2 ⟨z, rfl, hb2, rfl, z1, z2⟩
  refine ⟨z, rfl, hb2, fun q4 => ?_, fun q4 => no (fun w => ?_)⟩
  case refine_2 =>
    have w := (uni w).2.2.1
    by_cases c : z < 0
    · exact absurd w.2 (SE_n.mpr (z1.mp c))
    · exact absurd w.1 (SE_n.mpr (z2.mp (by omega)))
  have eq1 : SE μ n e o i := SL_n.mp (fun w => by have := z1.mpr w; omega)
  have eq2 : SE μ o i n e := SL_n.mp (fun w => by have := z2.mpr w; omega)
  refine con_mono (j_isRest hb2 H hn he) ?_
  rintro r h3 ⟨y, rfl, hb3, rfl, y1⟩
  refine ⟨y, rfl, hb3, fun q5 => ⟨⟨by omega, by omega⟩, ?_⟩, fun q5 => no (fun w => q5 (y1.mpr (uni w).2.2.2.1.1))⟩
  have he1 : ((e - 1 : Nat) : Int) < μ (10 + n) 0 := by omega
  have hi1 : ((i - 1 : Nat) : Int) < μ (10 + o) 0 := by omega
  have hi0 : (i : Int) < μ (10 + o) 0 := by omega
  rw [show (e : Int) - 1 = ((e - 1 : Nat) : Int) by omega]
  rw [show (i : Int) - 1 = ((i - 1 : Nat) : Int) by omega]
  refine con_mono (j_isRest hb3 H hn he1) ?_
  rintro r h4 ⟨y', rfl, hb4, rfl, y2⟩
  refine ⟨y', rfl, hb4, fun q6 => ?_, fun q6 => no (fun w => q6 (y2.mpr (uni w).2.2.2.1.2.1))⟩
  refine con_mono (j_isRest hb4 H ho hi0) ?_
  rintro r h5 ⟨y'', rfl, hb5, rfl, y3⟩
  refine ⟨y'', rfl, hb5, fun q7 => ⟨⟨by omega, by omega⟩, ?_⟩, fun q7 => no (fun w => q7 (y3.mpr (uni w).2.2.2.1.2.2.1))⟩
  refine con_mono (j_isRest hb5 H ho hi1) ?_
  rintro r h6 ⟨y''', rfl, hb6, rfl, y4⟩
  refine ⟨y''', rfl, hb6, fun q8 => ?_, fun q8 => no (fun w => q8 (y4.mpr (uni w).2.2.2.1.2.2.2))⟩
  have p1 := y1.mp q5
  have p2 := y2.mp q6
  have p3 := y3.mp q7
  have p4 := y4.mp q8
  have k1 := ky_b (k := 0) (p := 0) GG hn he (by omega)
  have k2 := ky_b (k := 0) (p := 0) GG hn he1 (by omega)
  have k3 := ky_b (k := 0) (p := 0) GG ho hi0 (by omega)
  have k4 := ky_b (k := 0) (p := 0) GG ho hi1 (by omega)
  refine con_mono (j_lowest hb6 H ho hi0 p3) ?_
  rintro r h7 ⟨a, rfl, hb7, rfl, rfl⟩
  refine ⟨_, rfl, hb7, ?_⟩
  refine con_mono (j_lowest hb7 H hn he p1) ?_
  rintro r h8 ⟨b, rfl, hb8, rfl, rfl⟩
  refine ⟨_, rfl, hb8, ⟨by omega, by omega⟩, ?_⟩
  refine con_mono (s_JMath_floorMod (by decide) (by decide)) ?_
  rintro r h9 ⟨f1, rfl, -, ⟨-, f1e⟩, rfl⟩
  refine ⟨_, rfl, hb8, ?_⟩
  refine con_mono (j_lowest hb8 H ho hi1 p4) ?_
  rintro r h10 ⟨a', rfl, hb10, rfl, rfl⟩
  refine ⟨_, rfl, hb10, ?_⟩
  refine con_mono (j_lowest hb10 H hn he1 p2) ?_
  rintro r h11 ⟨b', rfl, hb11, rfl, rfl⟩
  refine ⟨_, rfl, hb11, ⟨by omega, by omega⟩, ?_⟩
  refine con_mono (s_JMath_floorMod (by decide) (by decide)) ?_
  rintro r h12 ⟨f2, rfl, -, ⟨-, f2e⟩, rfl⟩
  have last : (f1 = 0 ∨ f1 = 7) → f1 = f2 → con G 1 0 0 m_Voice_lowestKey [av_R (some (c + 7 + 14 * n)), av_I (e : Int)] h11 (fun r h1 => ∃ z3 : Int, r = some (av_I z3) ∧ hb s h1 ∧ ((-2147483648) ≤ ((e : Int) - 1) ∧ ((e : Int) - 1) ≤ 2147483647) ∧ con G 1 0 0 m_Voice_lowestKey [av_R (some (c + 7 + 14 * n)), av_I ((e : Int) - 1)] h1 (fun r h5 => ∃ z7 : Int, r = some (av_I z7) ∧ hb s h5 ∧ ((z3 = z7 → (((0 : Int) = 0 ∨ (0 : Int) = 1) ∧ ∃ z : Int, some (av_I 0) = some (av_I z) ∧ hb s h5 ∧ h5 = h11 ∧ ((z = 0 ∧ ¬ PAs μ o n e) ∨ (z = 1 ∧ PAs μ o n e)))) ∧ (¬ z3 = z7 → (((1 : Int) = 0 ∨ (1 : Int) = 1) ∧ ∃ z : Int, some (av_I 1) = some (av_I z) ∧ hb s h5 ∧ h5 = h11 ∧ ((z = 0 ∧ ¬ PAs μ o n e) ∨ (z = 1 ∧ PAs μ o n e))))))) := by
    intro g1 g2
    refine con_mono (j_lowest hb11 H hn he p1) ?_
    rintro r h13 ⟨u, rfl, hb13, rfl, rfl⟩
    refine ⟨_, rfl, hb13, ⟨by omega, by omega⟩, ?_⟩
    rw [show (e : Int) - 1 = ((e - 1 : Nat) : Int) by omega]
    refine con_mono (j_lowest hb13 H hn he1 p2) ?_
    rintro r h14 ⟨u', rfl, hb14, rfl, rfl⟩
    refine ⟨_, rfl, hb14, fun g3 => ⟨Or.inl rfl, 0, rfl, hb14, rfl, Or.inl ⟨rfl, fun w => (uni w).2.2.2.2.2.2 g3⟩⟩, fun g3 => ⟨Or.inr rfl, 1, rfl, hb14, rfl, Or.inr ⟨rfl, by omega, i, ⟨by omega, hi0⟩, ⟨eq2, eq1⟩, ⟨p1, p2, p3, p4⟩, ?_, ?_, g3⟩⟩⟩
    · rw [← f1e, ← f2e]; exact g2
    · rw [← f1e]; exact g1
  refine ⟨_, rfl, hb11, fun g => ⟨fun g2 => ?_, fun g2 => ⟨fun g3 => ?_, fun g3 => ⟨Or.inl rfl, no (fun w => ?_)⟩⟩⟩, fun g => ⟨Or.inl rfl, no (fun w => ?_)⟩⟩
  · have := last (Or.inl g2) g
    rw [show (e : Int) - 1 = ((e - 1 : Nat) : Int) by omega] at this
    exact this
  · have := last (Or.inr g3) g
    rw [show (e : Int) - 1 = ((e - 1 : Nat) : Int) by omega] at this
    exact this
  · have w := (uni w).2.2.2.2.2.1
    rw [← f1e] at w
    omega
  · have w := (uni w).2.2.2.2.1
    rw [← f1e, ← f2e] at w
    exact g w
end
