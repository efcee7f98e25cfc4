/-! ===== judge, the class: a voice, all voices ===== -/
/-- both sides of the comparison of a BAR with the TIME -/
def whT (μ : pm_T) (n b : Nat) : Int := (smT μ n (brE μ n (b + 1)) * smB μ n (brE μ n b) - smT μ n (brE μ n b) * smB μ n (brE μ n (b + 1))) * μ 0 2
def whB (μ : pm_T) (n b : Nat) : Int := (smB μ n (brE μ n (b + 1)) * smB μ n (brE μ n b)) * μ 0 1
def WHo (μ : pm_T) (n b : Nat) : Prop := whT μ n b = whB μ n b ∨ (whT μ n b < whB μ n b ∧ (b = 0 ∨ (b : Int) = μ (10 + n) 1 - 1))
theorem whp_b {μ : pm_T} (GG : GM μ) {n b : Nat} (hn : (n : Int) < μ 0 7) : 0 ≤ smT μ n (brE μ n (b + 1)) * smB μ n (brE μ n b) - smT μ n (brE μ n b) * smB μ n (brE μ n (b + 1)) := by
  have h := GM_m GG hn (i := brE μ n b) (brE μ n (b + 1)) (brE_m GG hn) (brE_b GG hn)
  unfold SE at h
  omega
section
variable {G : cx_T} {s c n e b : Nat} {h : ah_T} {μ : pm_T} {l : List JQ}
theorem j_bar (hb0 : hb s h) (H : CV μ c h) (hn : (n : Int) < μ 0 7) (hb1 : (b : Int) < μ (10 + n) 1) : con G 1 0 0 m_Voice_compareBar [av_R (some (c + 7 + 14 * n)), av_I (b : Int), av_I (μ 0 1), av_I (μ 0 2)] h (fun r h' => ∃ z : Int, r = some (av_I z) ∧ hb s h' ∧ h' = h ∧ (z = 0 ↔ whT μ n b = whB μ n b) ∧ (z < 0 ↔ whT μ n b < whB μ n b)) := by
  obtain ⟨hv, -, -, hE, hB, -⟩ := CV_v H hn
  have GG := H.2.2.1
  have T := GG.2.1
  have f0 := CV_b H hn (b := b) (Int.le_of_lt hb1)
  have f1 := CV_b H hn (b := b + 1) (by omega)
  have e0 := brE_b GG (b := b) hn
  have e1 := brE_b GG (b := b + 1) hn
  obtain ⟨t1, t2⟩ := CV_t H hn e0
  obtain ⟨t3, t4⟩ := CV_t H hn e1
  have b0 := GM_b GG hn (brE μ n b)
  have b1 := GM_b GG hn (brE μ n (b + 1))
  have wb := whp_b GG (b := b) hn
  unfold whT whB
  generalize brE μ n b = i at *
  generalize brE μ n (b + 1) = j at *
  have p1 := pr_b b1.1 b1.2 b0.2
  have p2 := pr_b b0.1 b0.2 b1.2
  have p3 : 0 ≤ smB μ n j * smB μ n i ∧ smB μ n j * smB μ n i ≤ 1000000000000 := by
    have h1 : 0 ≤ smB μ n j * smB μ n i := Int.mul_nonneg (by omega) (by omega)
    have h2 : smB μ n j * smB μ n i ≤ 1000000 * 1000000 := Int.mul_le_mul b1.2.2 b0.2.2 (by omega) (by omega)
    omega
  refine c_Voice_compareBar hv hb0 (fun _ _ _ => ?_)
  unfold B_Voice_compareBar_0
  refine ⟨⟨by omega, by omega⟩, by omega, ?_⟩
  rw [show ((b : Int) + 1).toNat = b + 1 by omega]
  intro x3 ex3 _ _
  obtain rfl := ex3.trans f1
  refine con_mono (c_Voice_sinceBarTop hv (Q := fun r h' => r = some (av_L (smT μ n j * smB μ n i - smT μ n i * smB μ n j)) ∧ hb s h' ∧ h' = h) hb0 (fun _ _ => ?_)) ?_
  · unfold B_Voice_sinceBarTop_0
    refine ⟨by omega, ?_⟩
    rw [tn_c, tn_c]
    intro x2 e2 _ _
    obtain rfl := e2.trans f0
    refine ⟨by omega, fun x5 e5 _ _ => ⟨by omega, ?_⟩⟩
    rw [tn_c]
    intro x8 e8 _ _ x10 e10
    obtain rfl := e5.trans t3
    obtain rfl := e8.trans t2
    refine ⟨by omega, fun x13 e13 _ _ x15 e15 _ _ x16 e16 => ?_⟩
    obtain rfl := e13.trans t1
    obtain rfl := e15.trans t4
    refine ⟨by omega, by omega, ?_, hb0, rfl⟩
    rw [e10, e16]
  rintro r h2 ⟨rfl, hb2, rfl⟩
  have dl : smT μ n j * smB μ n i - smT μ n i * smB μ n j ≤ 1000000000000000 := by omega
  generalize smT μ n j * smB μ n i - smT μ n i * smB μ n j = d at *
  have pd : 0 ≤ d * μ 0 2 ∧ d * μ 0 2 ≤ 1000000000000000 * 32 := ⟨Int.mul_nonneg wb (by have := T.2.1; omega), Int.mul_le_mul (by omega) T.2.1.2 (by have := T.2.1; omega) (by omega)⟩
  have pe : 0 ≤ (smB μ n j * smB μ n i) * μ 0 1 ∧ (smB μ n j * smB μ n i) * μ 0 1 ≤ 1000000000000 * 32 := ⟨Int.mul_nonneg p3.1 (by have := T.1; omega), Int.mul_le_mul p3.2 T.1.2 (by have := T.1; omega) (by omega)⟩
  refine ⟨_, rfl, hb2, fun x8 e8 => ⟨by omega, ?_⟩⟩
  refine con_mono (c_Voice_sinceBarBottom hv (Q := fun r h' => r = some (av_L (smB μ n j * smB μ n i)) ∧ hb s h' ∧ h' = h2) hb2 (fun _ _ => ?_)) ?_
  · unfold B_Voice_sinceBarBottom_0
    refine ⟨by omega, ?_⟩
    rw [tn_c, tn_c]
    intro x2 e2 _ _
    obtain rfl := e2.trans t4
    refine ⟨by omega, fun x6 e6 _ _ => ?_⟩
    obtain rfl := e6.trans f0
    refine ⟨by omega, ?_⟩
    rw [tn_c]
    intro x8 e8 _ _ x10 e10
    obtain rfl := e8.trans t2
    refine ⟨by omega, ?_, hb2, rfl⟩
    rw [e10]
  rintro r h3 ⟨rfl, hb3, rfl⟩
  refine ⟨_, rfl, hb3, fun x13 e13 => ⟨by omega, ?_⟩⟩
  refine con_mono s_JLong_compare ?_
  rintro r h4 ⟨z, rfl, z1, ⟨g1, g2, g3⟩, rfl⟩
  refine ⟨z, rfl, hb3, z, rfl, hb3, rfl, ?_⟩
  rw [e8] at g1 g2 g3
  rw [e13] at g1 g2 g3
  omega
theorem j_whole (hb0 : hb s h) (H : CV μ c h) (hn : (n : Int) < μ 0 7) (hb1 : (b : Int) < μ (10 + n) 1) : con G 2 0 0 m_Judge_isWhole [av_R (some c), av_R (some (c + 7 + 14 * n)), av_I (b : Int)] h (fun r h' => ∃ z : Int, r = some (av_I z) ∧ hb s h' ∧ h' = h ∧ ((z = 0 ∧ ¬ WHo μ n b) ∨ (z = 1 ∧ WHo μ n b))) := by
  obtain ⟨hv, -, h16, hE, hB, -⟩ := CV_v H hn
  have C := H.2.1
  refine c_Judge_isWhole H.1 hv hb0 (fun _ => ?_)
  unfold B_Judge_isWhole_0 B_Judge_isWhole_36 B_Judge_isWhole_40 B_Judge_isWhole_41
  intro x1 e1 _ _ x2 e2 _ _
  obtain rfl := e1.trans C.1.2.1
  obtain rfl := e2.trans C.1.2.2.1
  refine con_mono (j_bar hb0 H hn hb1) ?_
  rintro r h2 ⟨z, rfl, hb2, rfl, z1, z2⟩
  have yes : WHo μ n b → ((1 : Int) = 0 ∨ (1 : Int) = 1) ∧ ∃ z : Int, some (av_I 1) = some (av_I z) ∧ hb s h2 ∧ h2 = h2 ∧ ((z = 0 ∧ ¬ WHo μ n b) ∨ (z = 1 ∧ WHo μ n b)) := fun w => ⟨Or.inr rfl, 1, rfl, hb2, rfl, Or.inr ⟨rfl, w⟩⟩
  have no : ¬ WHo μ n b → ((0 : Int) = 0 ∨ (0 : Int) = 1) ∧ ∃ z : Int, some (av_I 0) = some (av_I z) ∧ hb s h2 ∧ h2 = h2 ∧ ((z = 0 ∧ ¬ WHo μ n b) ∨ (z = 1 ∧ WHo μ n b)) := fun w => ⟨Or.inl rfl, 0, rfl, hb2, rfl, Or.inl ⟨rfl, w⟩⟩
  refine ⟨z, rfl, hb2, fun q => yes (Or.inl (z1.mp q)), fun q => ⟨fun q2 => no (fun w => ?_), fun q2 => ⟨fun q3 => yes (Or.inr ⟨z2.mp (by omega), Or.inl (by omega)⟩), fun q3 x6 e6 _ _ => ?_⟩⟩⟩
  · rcases w with w | ⟨w, -⟩
    · exact q (z1.mpr w)
    · have := z2.mpr w
      omega
  · have ex := e6.trans h16
    subst ex
    refine ⟨⟨by omega, by omega⟩, fun q4 => yes (Or.inr ⟨z2.mp (by omega), Or.inr q4⟩), fun q4 => no (fun w => ?_)⟩
    rcases w with w | ⟨-, w | w⟩
    · exact q (z1.mpr w)
    · omega
    · omega
end
