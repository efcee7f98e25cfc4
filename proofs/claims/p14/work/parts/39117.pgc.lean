/-! ===== page, the class: signs of an event, the cost of a line ===== -/
theorem nat_wh {k : Int} (h0 : 0 ≤ k) (h7 : k < 7) : ([0, 2, 4, 5, 7, 9, 11] : List Int).getD k.toNat 0 = wh ((k + 2) % 7 + 65) := by
  obtain rfl | rfl | rfl | rfl | rfl | rfl | rfl : k = 0 ∨ k = 1 ∨ k = 2 ∨ k = 3 ∨ k = 4 ∨ k = 5 ∨ k = 6 := by omega
  all_goals decide
theorem sgk_b {v st : Int} (h1 : -2 ≤ v ∧ v ≤ 109) (h2 : 0 ≤ st ∧ st ≤ 62) : 0 ≤ sgk v st ∧ sgk v st ≤ 200 := by
  have w := wh_b (b := (st % 7 + 2) % 7 + 65)
  unfold sgk
  split <;> omega
theorem sgm_b {μ : pm_T} {R e : Nat} (h : ∀ p : Nat, (p : Int) < μ (R + 4) e → (-2 ≤ μ (R + (10 + p)) e ∧ μ (R + (10 + p)) e ≤ 109) ∧ 0 ≤ μ (R + (20 + p)) e ∧ μ (R + (20 + p)) e ≤ 62) : ∀ k : Nat, (k : Int) ≤ μ (R + 4) e → 0 ≤ sgm μ R e k ∧ sgm μ R e k ≤ 200 * (k : Int)
  | 0, _ => by rw [sgm]; omega
  | k + 1, hk => by
    have ih := sgm_b h k (by omega)
    have := sgk_b (h k (by omega)).1 (h k (by omega)).2
    rw [sgm]
    omega
theorem j_signs {G : cx_T} {s c n e : Nat} {h : ah_T} {μ : pm_T} (hb0 : hb s h) (H : CV μ c h) (hn : (n : Int) < μ 0 7) (he : (e : Int) < μ (10 + n) 0) : con G 1 0 0 m_Voice_signsOf [av_R (some (c + 7 + 14 * n)), av_I (e : Int)] h (fun r h' => r = some (av_I (μ (100 + 40 * n + 9) e)) ∧ hb s h' ∧ h' = h) := by
  have E := CV_e H hn he
  have M := E.2.2.2.1
  have hM := M.1
  have bd := M.2.2.2.2.2.2.1
  have eq9 := M.2.2.2.2.2.2.2
  have sb := sgm_b bd
  refine c_Voice_signsOf E.1 (X4 := fun v2 v3 hh => hh = h ∧ ∃ k : Nat, v3 = (k : Int) ∧ (k : Int) ≤ μ (100 + 40 * n + 4) e ∧ v2 = sgm μ (100 + 40 * n) e k) ?_ hb0 (fun _ => ?_)
  · refine lp_Voice_signsOf_4 E.1 _ (fun _ v3 _ => (5 - v3).toNat) ?_
    rintro v2 v3 hh hb1 ⟨rfl, k, rfl, hk, rfl⟩
    have sk := sb k hk
    unfold B_Voice_signsOf_4
    refine con_mono (t_Voice_pitchesOf hb1 E) ?_
    rintro r h2 ⟨hb2, rfl, rfl⟩
    refine ⟨_, rfl, hb2, fun q => ⟨?_, hb2, rfl⟩, fun q => ?_⟩
    · rw [eq9, show (μ (100 + 40 * n + 4) e).toNat = k by omega]
    have bk := bd k (by omega)
    have s1 := sb (k + 1) (by omega)
    refine con_mono (t_Voice_stepOf hb2 E (p := k) (by omega)) ?_
    rintro r h3 ⟨hb3, rfl, rfl⟩
    refine ⟨_, rfl, hb3, ?_⟩
    refine con_mono (s_JMath_floorDiv (by decide) (by decide)) ?_
    rintro r h4 ⟨z9, rfl, -, e9, rfl⟩
    have e9 : z9 = μ (100 + 40 * n + (20 + k)) e / 7 := e9
    refine ⟨_, rfl, hb3, by omega, ?_⟩
    refine con_mono (s_JMath_floorMod (by decide) (by decide)) ?_
    rintro r h5 ⟨z13, rfl, -, ⟨-, e13⟩, rfl⟩
    refine ⟨_, rfl, hb3, by omega, fun x14 e14 => ?_⟩
    have ex : x14 = wh ((μ (100 + 40 * n + (20 + k)) e % 7 + 2) % 7 + 65) := by
      rw [e14, nat_wh (by omega) (by omega), e13]
    have wb := wh_b (b := (μ (100 + 40 * n + (20 + k)) e % 7 + 2) % 7 + 65)
    refine ⟨by omega, ?_⟩
    refine con_mono (t_Voice_keyOf hb3 E (p := k) (by omega)) ?_
    rintro r h6 ⟨hb6, rfl, rfl⟩
    refine ⟨_, rfl, hb6, by omega, fun x20 e20 _ _ => ?_⟩
    have es : x20 = sgk (μ (100 + 40 * n + (10 + k)) e) (μ (100 + 40 * n + (20 + k)) e) := by
      rw [e20, ex, e9]
      unfold sgk
      split
      · rw [if_pos (by omega)]; omega
      · rw [if_neg (by omega), w32_id (by unfold i32; omega)]; omega
    have er : sgm μ (100 + 40 * n) e (k + 1) = sgm μ (100 + 40 * n) e k + sgk (μ (100 + 40 * n + (10 + k)) e) (μ (100 + 40 * n + (20 + k)) e) := rfl
    exact ⟨by omega, by omega, ⟨rfl, k + 1, by omega, by omega, by rw [er, es]⟩, by omega⟩
  · unfold B_Voice_signsOf_0
    exact ⟨rfl, 0, rfl, by omega, rfl⟩
/-- the cost of a line with this much left -/
def lnC (left : Int) (last : Bool) : Int := if left < 0 then 10000 + left * left else if last then 0 else left * left
theorem j_lineCost {G : cx_T} {s : Nat} {h : ah_T} {a b : Int} (hb0 : hb s h) (ha : -1000000 ≤ a ∧ a ≤ 1000000) : con G 0 0 0 m_Page_lineCost [av_L a, av_I b] h (fun r h' => r = some (av_L (lnC a (decide (b ≠ 0)))) ∧ hb s h' ∧ h' = h) := by
  have sq : 0 ≤ a * a ∧ a * a ≤ 1000000000000 := by
    by_cases c : 0 ≤ a
    · exact ⟨Int.mul_nonneg c c, by have := Int.mul_le_mul ha.2 ha.2 c (by decide); omega⟩
    · have e : a * a = (-a) * (-a) := by rw [Int.neg_mul_neg]
      rw [e]
      exact ⟨Int.mul_nonneg (by omega) (by omega), by have := Int.mul_le_mul (show -a ≤ 1000000 by omega) (show -a ≤ 1000000 by omega) (by omega) (by decide); omega⟩
  refine c_Page_lineCost hb0 (fun _ _ => ?_)
  unfold B_Page_lineCost_0 B_Page_lineCost_25 lnC
  refine ⟨fun q => ⟨fun q2 x2 e2 => ⟨by omega, ?_, hb0, rfl⟩, fun q2 => ⟨?_, hb0, rfl⟩⟩, fun q x4 e4 => ⟨by omega, by omega, ?_, hb0, rfl⟩⟩
  · rw [e2, if_neg (by omega), if_neg (by simp [q2])]
  · rw [if_neg (by omega), if_pos (by simp [q2])]
  · rw [if_pos (by omega), e4, Int.add_comm]
