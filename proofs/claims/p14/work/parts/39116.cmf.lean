/-! ===== compareFractions, exact ===== -/
theorem cf_q {p q r t : Int} (hp : 0 ≤ p) (hq : 1 ≤ q) (hr : 0 ≤ r) (ht : 1 ≤ t) :
    (p / q < r / t → p * t < r * q) ∧ (p / q = r / t → (p * t - r * q = (p % q) * t - (r % t) * q)) := by
  have ep : p = q * (p / q) + p % q := (Int.mul_ediv_add_emod p q).symm
  have er : r = t * (r / t) + r % t := (Int.mul_ediv_add_emod r t).symm
  have p1 := Int.emod_nonneg p (show q ≠ 0 by omega)
  have p2 := Int.emod_lt_of_pos p (show 0 < q by omega)
  have r1 := Int.emod_nonneg r (show t ≠ 0 by omega)
  have r2 := Int.emod_lt_of_pos r (show 0 < t by omega)
  generalize p / q = Q at *
  generalize r / t = R at *
  generalize p % q = x at *
  generalize r % t = y at *
  constructor
  · intro h
    have h1 : q * (Q + 1) * t ≤ q * R * t := Int.mul_le_mul_of_nonneg_right (Int.mul_le_mul_of_nonneg_left (by omega) (by omega)) (by omega)
    have h2 : p * t < q * (Q + 1) * t := Int.mul_lt_mul_of_pos_right (by rw [Int.mul_add]; omega) (by omega)
    have h3 : q * R * t ≤ r * q := by
      have e1 : q * R * t = (t * R) * q := by rw [Int.mul_assoc, Int.mul_comm R t, Int.mul_comm]
      rw [e1]
      exact Int.mul_le_mul_of_nonneg_right (by omega) (by omega)
    omega
  · rintro rfl
    rw [ep, er, Int.add_mul, Int.add_mul]
    have : q * Q * t = t * Q * q := by rw [Int.mul_assoc, Int.mul_comm Q t, Int.mul_comm]
    omega
theorem t_PM_compareFractions {G : cx_T} {s : Nat} {h : ah_T} {a b c d : Int} (hb0 : hb s h) (ha : 0 ≤ a) (hb1 : 1 ≤ b) (hc : 0 ≤ c) (hd : 1 ≤ d) : con G 1 0 0 m_PM_compareFractions [av_L a, av_L b, av_L c, av_L d] h (fun r h' => ∃ z : Int, r = some (av_I z) ∧ hb s h' ∧ h' = h ∧ (z = 0 ↔ a * d = c * b) ∧ (z < 0 ↔ a * d < c * b)) := by
  refine c_PM_compareFractions (X17 := fun v8 v10 v12 v14 v16 hh => hh = h ∧ ∃ k : Nat, v16 = (k : Int) ∧ (0 ≤ v8 ∧ 1 ≤ v10 ∧ 0 ≤ v12 ∧ 1 ≤ v14) ∧ (v8 ≤ 9223372036854775807 ∧ v12 ≤ 9223372036854775807 ∧ v10 ≤ 9223372036854775807 ∧ v14 ≤ 9223372036854775807) ∧ (v10 * 2 ^ (k / 2) ≤ 9223372036854775808 ∧ v14 * 2 ^ (k / 2) ≤ 9223372036854775808) ∧ (1 ≤ k → (v10 < v8 ∧ v14 < v12) ∧ (v8 * 2 ^ ((k - 1) / 2) ≤ 9223372036854775808 ∧ v12 * 2 ^ ((k - 1) / 2) ≤ 9223372036854775808)) ∧ (v8 * v14 = v12 * v10 ↔ a * d = c * b) ∧ (v8 * v14 < v12 * v10 ↔ a * d < c * b)) ?_ hb0 (fun h1 h2 h3 h4 => ?_)
  · refine lp_PM_compareFractions_17 (a0 := a) (a1 := b) (a2 := c) (a3 := d) _ (fun _ _ _ _ v16 _ => (300 - v16).toNat) ?_
    rintro p q r t v16 hh hb2 ⟨rfl, k, rfl, ⟨hp, hq, hr, ht⟩, ⟨bp, br, bq', bt'⟩, ⟨bq, bt⟩, prev, e1, e2⟩
    have k127 : k ≤ 127 := by
      by_cases kk : k ≤ 127
      · exact kk
      · have hk2 : 64 ≤ k / 2 := by omega
        have : (2 : Int) ^ 64 ≤ 2 ^ (k / 2) := by
          have := Nat.pow_le_pow_right (show 0 < 2 by decide) hk2
          exact_mod_cast this
        have m : (1 : Int) * 2 ^ 64 ≤ q * 2 ^ (k / 2) := Int.mul_le_mul hq this (by decide) (by omega)
        have : (2 : Int) ^ 64 = 18446744073709551616 := by decide
        omega
    unfold B_PM_compareFractions_17 B_PM_compareFractions_97 B_PM_compareFractions_127
    obtain ⟨cq1, cq2⟩ := cf_q hp hq hr ht
    obtain ⟨cr1, -⟩ := cf_q hr ht hp hq
    have m1 := Int.emod_nonneg p (show q ≠ 0 by omega)
    have m2 := Int.emod_lt_of_pos p (show 0 < q by omega)
    have m3 := Int.emod_nonneg r (show t ≠ 0 by omega)
    have m4 := Int.emod_lt_of_pos r (show 0 < t by omega)
    refine ⟨fun w => by omega, fun w => ⟨fun w2 => by omega, fun w2 => ⟨fun w3 => by omega, fun w3 => ⟨by omega, fun x3 e3 _ _ => ⟨by omega, fun x4 e4 _ _ => ⟨by omega, fun x5 e5 _ _ => ⟨by omega, fun x6 e6 _ _ => ?_⟩⟩⟩⟩⟩⟩⟩
    rw [w64_d hp bp hq] at e3
    rw [w64_d hr br ht] at e4
    rw [Int.tmod_eq_emod_of_nonneg hp] at e5
    rw [Int.tmod_eq_emod_of_nonneg hr] at e6
    have x5n : 0 ≤ x5 := by omega
    have x6n : 0 ≤ x6 := by omega
    refine ⟨fun eq => ?_, fun ne => ?_⟩
    · have key := cq2 (by omega)
      rw [← e5, ← e6] at key
      have last : (x5 = 0 ∨ x6 = 0) → con G 0 0 0 m_JLong_compare [av_L x5, av_L x6] hh (fun r h1 => ∃ z3 : Int, r = some (av_I z3) ∧ hb s h1 ∧ ∃ z : Int, some (av_I z3) = some (av_I z) ∧ hb s h1 ∧ h1 = hh ∧ (z = 0 ↔ a * d = c * b) ∧ (z < 0 ↔ a * d < c * b)) := by
        intro z0
        refine con_mono s_JLong_compare ?_
        rintro rr h5 ⟨z, rfl, -, ⟨g1, g2, g3⟩, rfl⟩
        refine ⟨z, rfl, hb2, z, rfl, hb2, rfl, ?_⟩
        have y5 : x5 ≤ x5 * t := by
          have := Int.mul_le_mul_of_nonneg_left ht x5n
          omega
        have y6 : x6 ≤ x6 * q := by
          have := Int.mul_le_mul_of_nonneg_left hq x6n
          omega
        rw [← e1, ← e2]
        rcases z0 with z0 | z0
        · rw [z0, Int.zero_mul] at key
          subst z0
          by_cases c6 : x6 = 0
          · subst c6
            rw [Int.zero_mul] at key
            have := g2 rfl
            omega
          · have := g1 (by omega)
            omega
        · rw [z0, Int.zero_mul] at key
          subst z0
          by_cases c5 : x5 = 0
          · subst c5
            rw [Int.zero_mul] at key
            have := g2 rfl
            omega
          · have := g3 (by omega)
            omega
      refine ⟨fun z5 => last (Or.inl z5), fun z5 => ⟨fun z6 => last (Or.inr z6), fun z6 => ⟨⟨by omega, by omega⟩, ⟨rfl, k + 1, by omega, ⟨by omega, by omega, by omega, by omega⟩, ⟨by omega, by omega, by omega, by omega⟩, ?_, fun _ => ⟨⟨by omega, by omega⟩, ?_⟩, ?_, ?_⟩, by omega⟩⟩⟩
      · by_cases k0 : k = 0
        · subst k0
          show x6 * 1 ≤ _ ∧ x5 * 1 ≤ _
          omega
        · obtain ⟨⟨pq, rt⟩, u1, u2⟩ := prev (by omega)
          have e2k : (k + 1) / 2 = (k - 1) / 2 + 1 := by omega
          rw [e2k, Int.pow_succ]
          have pp : (0 : Int) ≤ 2 ^ ((k - 1) / 2) := by
            have : (0 : Int) < 2 ^ ((k - 1) / 2) := Int.pow_pos (by decide)
            omega
          have d5 : x5 * 2 ≤ p := by
            have dv := Int.mul_ediv_add_emod p q
            have q1 : 1 ≤ p / q := (Int.le_ediv_iff_mul_le (by omega)).mpr (by omega)
            have := Int.mul_le_mul_of_nonneg_left q1 (show 0 ≤ q by omega)
            omega
          have d6 : x6 * 2 ≤ r := by
            have dv := Int.mul_ediv_add_emod r t
            have q1 : 1 ≤ r / t := (Int.le_ediv_iff_mul_le (by omega)).mpr (by omega)
            have := Int.mul_le_mul_of_nonneg_left q1 (show 0 ≤ t by omega)
            omega
          have f5 : x5 * (2 ^ ((k - 1) / 2) * 2) = x5 * 2 * 2 ^ ((k - 1) / 2) := by rw [Int.mul_comm (2 ^ ((k - 1) / 2)) 2, Int.mul_assoc]
          have f6 : x6 * (2 ^ ((k - 1) / 2) * 2) = x6 * 2 * 2 ^ ((k - 1) / 2) := by rw [Int.mul_comm (2 ^ ((k - 1) / 2)) 2, Int.mul_assoc]
          have g5 := Int.mul_le_mul_of_nonneg_right d5 pp
          have g6 := Int.mul_le_mul_of_nonneg_right d6 pp
          rw [f5, f6]
          omega
      · rw [show (k + 1 - 1) / 2 = k / 2 by omega]
        exact ⟨bt, bq⟩
      · rw [← e1, Int.mul_comm t x5, Int.mul_comm q x6]; omega
      · rw [← e2, Int.mul_comm t x5, Int.mul_comm q x6]; omega
    · refine con_mono s_JLong_compare ?_
      rintro rr h5 ⟨z, rfl, -, ⟨g1, g2, g3⟩, rfl⟩
      refine ⟨z, rfl, hb2, z, rfl, hb2, rfl, ?_⟩
      rw [← e1, ← e2]
      by_cases lt : x3 < x4
      · have := cq1 (by omega)
        have := g1 lt
        omega
      · have := cr1 (by omega)
        have := g3 (by omega)
        omega
  · unfold B_PM_compareFractions_0
    unfold i64 at *
    exact ⟨rfl, 0, rfl, ⟨ha, hb1, hc, hd⟩, ⟨by omega, by omega, by omega, by omega⟩, ⟨by show b * 1 ≤ _; omega, by show d * 1 ≤ _; omega⟩, fun w => by omega, Iff.rfl, Iff.rfl⟩
