/-! ===== beam, the class ===== -/
section
variable {G : cx_T} {s c n b : Nat} {h : ah_T} {μ : pm_T}
theorem j_shorts {f t : Nat} (hb0 : hb s h) (H : CV μ c h) (hn : (n : Int) < μ 0 7) (hft : f ≤ t) (ht : (t : Int) ≤ μ (10 + n) 0) : con G 3 0 0 m_Beams_shortOnes [av_R (some (c + 7 + 14 * n)), av_I (f : Int), av_I (t : Int)] h (fun r h' => r = some (av_I (cntS μ n f (t - f) : Int)) ∧ hb s h' ∧ h' = h) := by
  obtain ⟨hv, -, -, hE, hB, n4⟩ := CV_v H hn
  refine c_Beams_shortOnes (a1 := (f : Int)) hv (X5 := fun v3 v4 hh => hh = h ∧ ∃ k : Nat, v4 = ((f + k : Nat) : Int) ∧ f + k ≤ t ∧ v3 = (cntS μ n f k : Int) ∧ cntS μ n f k ≤ k) ?_ hb0 (fun _ _ => ?_)
  · refine lp_Beams_shortOnes_5 (a1 := (f : Int)) hv _ (fun _ v4 _ => (400 - v4).toNat) ?_
    rintro v3 v4 hh hb1 ⟨rfl, k, rfl, hk, rfl, ck⟩
    unfold B_Beams_shortOnes_5 B_Beams_shortOnes_26
    refine ⟨fun q => ⟨?_, hb1, rfl⟩, fun q => ?_⟩
    · rw [show t - f = k by omega]
    refine con_mono (j_short hb1 H hn (e := f + k) (by omega)) ?_
    rintro r h2 ⟨z, rfl, hb2, rfl, zz⟩
    refine ⟨z, rfl, hb2, fun q2 => ⟨⟨by omega, by omega⟩, ⟨by omega, by omega⟩, ⟨rfl, k + 1, by omega, by omega, ?_, ?_⟩, by omega⟩, fun q2 => ⟨⟨by omega, by omega⟩, ⟨by omega, by omega⟩, ⟨rfl, k + 1, by omega, by omega, ?_, ?_⟩, by omega⟩⟩
    all_goals rw [cntS]
    · rw [dif_f (by rcases zz with ⟨-, x⟩ | ⟨x, -⟩; exact x; omega)]; omega
    · rw [dif_f (by rcases zz with ⟨-, x⟩ | ⟨x, -⟩; exact x; omega)]; omega
    · rw [dif_t (by rcases zz with ⟨x, -⟩ | ⟨-, x⟩; exact absurd x q2; exact x)]; omega
    · rw [dif_t (by rcases zz with ⟨x, -⟩ | ⟨-, x⟩; exact absurd x q2; exact x)]; omega
  · unfold B_Beams_shortOnes_0
    exact ⟨rfl, 0, rfl, by omega, rfl, Nat.le_refl _⟩
theorem t_Beams_find (hb0 : hb s h) (H : CV μ c h) (hn : (n : Int) < μ 0 7) (hb1 : (b : Int) < μ (10 + n) 1) : con G 4 0 0 m_Beams_find [av_R (some 146), av_R (some (c + 7 + 14 * n)), av_I (b : Int), av_I (μ 0 2)] h (fun r h' => r = some (av_I (bmC μ n b)) ∧ hb s h' ∧ fr JWb h h' ∧ (14 < cntS μ n (brE μ n b) (brE μ n (b + 1) - brE μ n b) → h' = h) ∧ (¬ 14 < cntS μ n (brE μ n b) (brE μ n (b + 1) - brE μ n b) → GLc (cutC μ n (brE μ n b) (brE μ n (b + 1)) (csC μ n (brE μ n b) (brE μ n (b + 1) - brE μ n b))).2 h')) := by
  obtain ⟨hv, -, -, hE, hB, n4⟩ := CV_v H hn
  have GG := H.2.2.1
  have f0 := CV_b H hn (b := b) (Int.le_of_lt hb1)
  have f1 := CV_b H hn (b := b + 1) (by omega)
  have e1 := brE_b GG (b := b + 1) hn
  have em := brE_m GG (b := b) hn
  have eB : bmC μ n b = dif (14 < cntS μ n (brE μ n b) (brE μ n (b + 1) - brE μ n b)) (-4) (cutC μ n (brE μ n b) (brE μ n (b + 1)) (csC μ n (brE μ n b) (brE μ n (b + 1) - brE μ n b))).1 := rfl
  generalize hf : brE μ n b = f at *
  generalize brE μ n (b + 1) = t at *
  by_cases big : 14 < cntS μ n f (t - f)
  all_goals refine c_Beams_find (X50 := fun v5 v6 v7 v8 hh => ¬ 14 < cntS μ n f (t - f) ∧ v5 = (t : Int) ∧ fr JWb h hh ∧ ∃ k : Nat, v8 = ((f + k : Nat) : Int) ∧ ((f + k ≤ t ∧ v6 = (csC μ n f k).1 ∧ v7 = ((csC μ n f k).2.1 : Int) ∧ GLc (csC μ n f k).2.2 hh) ∨ (f + k = t + 1 ∧ v6 = (cutC μ n f t (csC μ n f (t - f))).1 ∧ GLc (cutC μ n f t (csC μ n f (t - f))).2 hh))) hv ?_ hb0 (fun _ _ => ?_)
  case pos.refine_1 => exact fun _ _ _ _ _ _ x => absurd big x.1
  case neg.refine_1 =>
    refine lp_Beams_find_50 hv _ (fun _ _ _ v8 _ => (400 - v8).toNat) ?_
    rintro v5 v6 v7 v8 hh hb2 ⟨-, rfl, fw, k, rfl, st⟩
    have H1 := CV_f H fw JWb_43
    unfold B_Beams_find_50 B_Beams_find_73 B_Beams_find_95
    rcases st with ⟨kt, rfl, rfl, J⟩ | ⟨kt, rfl, J⟩
    rotate_left
    · exact ⟨fun q => ⟨by rw [eB, dif_f big], hb2, fw, fun x => absurd x big, fun _ => J⟩, fun q => by omega⟩
    obtain ⟨⟨i1, i2⟩, i3, i4, i5, i6⟩ := csC_b (f := f) GG hn k (by omega)
    have cm := cntS_m (μ := μ) (n := n) (f := f) (k := k) (t - f) (by omega)
    obtain ⟨⟨x1, x2⟩, x3⟩ := cut_b (f := f) GG hn (z := f + k) (q := csC μ n f k) (by omega) i2 i3
    have run : ∀ {h1 : ah_T}, hb s h1 → h1 = hh → con G 2 0 0 m_Beams_cutRun [av_R (some 146), av_R (some (c + 7 + 14 * n)), av_I (b : Int), av_I ((csC μ n f k).2.1 : Int), av_I ((f + k : Nat) : Int), av_I (μ 0 2)] h1 (fun r h1 => ∃ z3 : Int, r = some (av_I z3) ∧ hb s h1 ∧ (csC μ n f k).1 + z3 = (cutC μ n f (f + k) (csC μ n f k)).1 ∧ fr JWb h h1 ∧ GLc (cutC μ n f (f + k) (csC μ n f k)).2 h1) := by
      rintro h1 hb3 rfl
      refine con_mono (j_cut hb3 H1 hn hb1 (a0 := (csC μ n f k).2.1) (z := f + k) (L := f + k - (csC μ n f k).2.1) (by rw [hf]; exact i1) (by omega) (by omega) (fun e q1 q2 => (i3 e q1 q2).1) J (by omega)) ?_
      rintro r h2 ⟨rfl, hb4, f4, J4⟩
      rw [hf] at J4 ⊢
      exact ⟨_, rfl, hb4, rfl, fr_t fw f4 (fun _ _ w => w), J4⟩
    have nxt : ∀ {h1 : ah_T} {z3 : Int}, (csC μ n f k).1 + z3 = (cutC μ n f (f + k) (csC μ n f k)).1 → fr JWb h h1 → GLc (cutC μ n f (f + k) (csC μ n f k)).2 h1 → (f + k < t → ¬ Shr μ n (f + k)) → ((-2147483648) ≤ ((csC μ n f k).1 + z3) ∧ ((csC μ n f k).1 + z3) ≤ 2147483647) ∧ ((-2147483648) ≤ (((f + k : Nat) : Int) + 1) ∧ (((f + k : Nat) : Int) + 1) ≤ 2147483647) ∧ ((-2147483648) ≤ (((f + k : Nat) : Int) + 1) ∧ (((f + k : Nat) : Int) + 1) ≤ 2147483647) ∧ ((¬ 14 < cntS μ n f (t - f) ∧ (t : Int) = (t : Int) ∧ fr JWb h h1 ∧ ∃ k' : Nat, ((f + k : Nat) : Int) + 1 = ((f + k' : Nat) : Int) ∧ ((f + k' ≤ t ∧ (csC μ n f k).1 + z3 = (csC μ n f k').1 ∧ ((f + k : Nat) : Int) + 1 = ((csC μ n f k').2.1 : Int) ∧ GLc (csC μ n f k').2.2 h1) ∨ (f + k' = t + 1 ∧ (csC μ n f k).1 + z3 = (cutC μ n f t (csC μ n f (t - f))).1 ∧ GLc (cutC μ n f t (csC μ n f (t - f))).2 h1))) ∧ (400 - (((f + k : Nat) : Int) + 1)).toNat < (400 - ((f + k : Nat) : Int)).toNat) := by
      intro h1 z3 ez f1 J1 ns
      refine ⟨by rw [ez]; omega, by omega, by omega, ⟨big, rfl, f1, k + 1, by omega, ?_⟩, by omega⟩
      by_cases c : f + k < t
      · refine Or.inl ⟨by omega, ?_, ?_, ?_⟩
        · rw [csC, dif_f (ns c)]; exact ez
        · rw [csC, dif_f (ns c)]; dsimp only; omega
        · rw [csC, dif_f (ns c)]; exact J1
      · obtain rfl : t = f + k := by omega
        rw [show f + k - f = k by omega]
        exact Or.inr ⟨by omega, ez, J1⟩
    refine ⟨fun q => by omega, fun q => ⟨fun q2 => ?_, fun q2 => ?_⟩⟩
    · refine con_mono (run hb2 rfl) ?_
      rintro r h2 ⟨z3, rfl, hb3, ez, f3, J3⟩
      exact ⟨z3, rfl, hb3, nxt ez f3 J3 (fun w => by omega)⟩
    · refine con_mono (j_short hb2 H1 hn (e := f + k) (by omega)) ?_
      rintro r h2 ⟨z, rfl, hb3, rfl, zz⟩
      refine ⟨z, rfl, hb3, fun q3 => ?_, fun q3 => ⟨by omega, ⟨big, rfl, fw, k + 1, by omega, Or.inl ⟨by omega, ?_⟩⟩, by omega⟩⟩
      · refine con_mono (run hb3 rfl) ?_
        rintro r h4 ⟨z3, rfl, hb4, ez, f4, J4⟩
        refine ⟨z3, rfl, hb4, nxt ez f4 J4 (fun _ => ?_)⟩
        rcases zz with ⟨-, x⟩ | ⟨x, -⟩
        · exact x
        · omega
      · have ys : Shr μ n (f + k) := by
          rcases zz with ⟨x, -⟩ | ⟨-, x⟩
          · exact absurd x q3
          · exact x
        rw [csC, dif_t ys]
        exact ⟨rfl, rfl, J⟩
  all_goals
    unfold B_Beams_find_0
    refine ⟨by omega, ?_⟩
    rw [tn_c, show ((b : Int) + 1).toNat = b + 1 by omega]
    intro x2 e2 _ _
    obtain rfl := e2.trans f0
    refine ⟨⟨by omega, by omega⟩, by omega, fun x6 e6 _ _ => ?_⟩
    obtain rfl := e6.trans f1
    refine con_mono (j_shorts hb0 H hn em e1) ?_
    rintro r h8 ⟨rfl, hb8, rfl⟩
    refine ⟨_, rfl, hb8, fun q => ?_, fun q => ?_⟩
  · exact absurd big (by omega)
  · exact ⟨by rw [eB, dif_t big], hb8, fr_0, fun _ => rfl, fun x => absurd big x⟩
  · intro h11 e11
    refine ⟨big, rfl, fr_i fr_0 e11 (by omega), 0, by omega, Or.inl ⟨em, rfl, rfl, mv_i e11, fun k v hk => by cases hk⟩⟩
  · exact absurd (show 14 < cntS μ n f (t - f) by omega) big
theorem t_PM_beam {v w : Int} {s : Nat} {h : ah_T} (hb0 : hb s h) (H : CV μ (97 - s) h) : con G 5 0 0 m_PM_beam [av_R (some 0), av_I v, av_I w] h (fun r h' => r = some (av_I (bmv μ v w)) ∧ hb s h' ∧ fr JWb h h') := by
  have C := H.2.1
  have b4 := H.2.2.1.1.1
  refine c_PM_beam hb0 (fun _ _ => ?_)
  unfold B_PM_beam_0 B_PM_beam_25 bmv
  refine con_mono (t_Score_voiceAt hb0 H.1 C) ?_
  rintro r h2 ⟨hb2, rfl, ⟨q1, q2, rfl⟩ | ⟨q1, rfl⟩⟩
  · obtain ⟨n, rfl⟩ : ∃ n : Nat, v = n := ⟨v.toNat, by omega⟩
    rw [tn_c]
    obtain ⟨hv, -, h16, -⟩ := CV_v H q2
    refine ⟨_, rfl, hb2, Or.inr ⟨_, rfl, hv, fun c => ⟨?_, hb2, fr_0⟩, fun c x5 e5 _ _ => ?_⟩⟩
    · rw [dif_f (by omega)]
    have ex := e5.trans h16
    subst ex
    refine ⟨fun c2 x8 e8 _ _ => ?_, fun c2 => ⟨?_, hb2, fr_0⟩⟩
    · obtain ⟨b, rfl⟩ : ∃ b : Nat, w = b := ⟨w.toNat, by omega⟩
      have ex := e8.trans C.1.2.2.1
      subst ex
      refine con_mono (t_Beams_find hb2 H q2 c2) ?_
      rintro r h9 ⟨rfl, hb9, f9, -⟩
      refine ⟨_, rfl, hb9, ?_, hb9, f9⟩
      rw [tn_c, dif_t ⟨⟨by omega, q2⟩, by omega, c2⟩]
    · rw [dif_f (by omega)]
  · exact ⟨_, rfl, hb2, Or.inl ⟨rfl, by rw [dif_f (fun x => q1 x.1)], hb2, fr_0⟩⟩
end

/-! ===== beam, the reference: one event, one GROUP ===== -/
theorem MV_e2 {μ : pm_T} {n e : Nat} {h : ah_T} (H : MV μ h) (hn : (n : Int) < μ 0 7) (he : (e : Int) < μ (10 + n) 0) : h.2.1 197 (300 * n + e) = nmb μ n e ∧ (1 ≤ pt μ n e → h.2.1 193 (4 * (300 * n + e)) = sp0 μ n e) := by
  obtain ⟨⟨-, -, -, y4, -⟩, -, -, k⟩ := (H.1.2.2.2.2.2 n hn).2.2.1 e he
  exact ⟨y4, fun hp => (k 0 (by unfold pt at hp; omega)).2⟩
/-- one more, or a whole number of beats -/
theorem div_b {x y t : Int} (hx : 0 ≤ x) (hy : 1 ≤ y) (ht : 1 ≤ t) : rdB (rdT x y * t) (rdB x y) = 1 ↔ x * t % y = 0 := by
  obtain ⟨r1, r2, g, g1, gx, gy⟩ := rd_pos hx hy
  generalize rdT x y = X at *
  generalize rdB x y = Y at *
  have e1 : x * t % y = g * (X * t % Y) := by
    rw [gx, gy, Int.mul_assoc, Int.mul_emod_mul_of_pos _ _ (by omega)]
  have e2 : x * t % y = 0 ↔ X * t % Y = 0 := by
    rw [e1]
    refine ⟨fun w => ?_, fun w => by rw [w, Int.mul_zero]⟩
    rcases Int.mul_eq_zero.mp w with w | w
    · omega
    · exact w
  rw [e2]
  obtain ⟨h1, h2⟩ := gc_e (X * t) Y
  constructor
  · intro w
    rw [w, Int.mul_one] at h2
    exact Int.emod_eq_zero_of_dvd (by rw [h2]; exact Int.gcd_dvd_left _ _)
  · intro w
    have d : Y ∣ X * t := Int.dvd_of_emod_eq_zero w
    have gY : (Int.gcd (X * t) Y : Int) = Y := by
      have a : Int.gcd (X * t) Y = Y.natAbs := Int.gcd_eq_right_iff_dvd (by omega) |>.mpr d |> (fun q => by omega)
      omega
    unfold rdB
    rw [gY]
    exact Int.ediv_self (by omega)
section
variable {G : cx_T} {s n b : Nat} {h : ah_T} {μ : pm_T}
theorem m_short {e : Nat} (hb0 : hb s h) (H : MV μ h) (hn : (n : Int) < μ 0 7) (he : (e : Int) < μ (10 + n) 0) : con G 0 0 0 m_MD_isShort [av_R (some 170), av_I (300 * (n : Int) + (e : Int))] h (fun r h' => ∃ z : Int, r = some (av_I z) ∧ hb s h' ∧ h' = h ∧ ((z = 0 ∧ ¬ Shr μ n e) ∨ (z = 1 ∧ Shr μ n e))) := by
  obtain ⟨-, -, hE, -, n4⟩ := MV_n H hn
  refine c_MD_isShort hb0 (fun _ => ?_)
  unfold B_MD_isShort_0 B_MD_isShort_24 B_MD_isShort_25
  refine ⟨by omega, ?_⟩
  rw [nx300]
  intro x2 e2 _ _
  obtain rfl := e2.trans (MV_e H hn he).1.1
  refine ⟨fun q => ⟨Or.inl rfl, 0, rfl, hb0, rfl, Or.inl ⟨rfl, fun w => by have := w.1; omega⟩⟩, fun q x5 e5 _ _ => ?_⟩
  obtain rfl := e5.trans (MV_e2 H hn he).1
  exact ⟨fun q2 => ⟨Or.inl rfl, 0, rfl, hb0, rfl, Or.inl ⟨rfl, fun w => by have := w.2; omega⟩⟩, fun q2 => ⟨Or.inr rfl, 1, rfl, hb0, rfl, Or.inr ⟨rfl, by omega, by omega⟩⟩⟩
theorem m_group {a k : Nat} (hb0 : hb s h) (H : MV μ h) (hn : (n : Int) < μ 0 7) (hb1 : (b : Int) < μ (10 + n) 1) (hf : brE μ n b ≤ a) (hz : ((a + k : Nat) : Int) < μ (10 + n) 0) (hs : ∀ e, a ≤ e → e ≤ a + k → 1 ≤ pt μ n e) (hk : k ≤ 5) : con G 3 0 0 m_MD_groupCost [av_R (some 170), av_I (n : Int), av_I (b : Int), av_I (a : Int), av_I ((k : Int) + 1)] h (fun r h' => r = some (av_I (if k = 0 then 3 else togC (jnC μ n (brE μ n b)) a k)) ∧ hb s h' ∧ fr JWs h h' ∧ h'.2.1 = h.2.1) := by
  obtain ⟨-, -, hE, hB, n4⟩ := MV_n H hn
  have GG := H.2.1
  have T := GG.2.1
  obtain ⟨T1, T2⟩ := H.2.2 (by omega)
  have hj : ∀ i, i < k → 0 ≤ jnC μ n (brE μ n b) (a + i + 1) ∧ jnC μ n (brE μ n b) (a + i + 1) ≤ 61 := fun i hi => jnC_b GG hn (by omega) (hs _ (by omega) (by omega)) (hs (a + i + 1 - 1) (by omega) (by omega))
  have tb := togC_b (jc := jnC μ n (brE μ n b)) (a := a) (M := k) hj
  refine c_MD_groupCost (X24 := fun v5 v6 v7 hh => fr JWs h hh ∧ hh.2.1 = h.2.1 ∧ v6 = 102 * (n : Int) + (b : Int) ∧ 1 ≤ k ∧ ∃ i : Nat, v7 = ((a + i + 1 : Nat) : Int) ∧ i ≤ k ∧ v5 = togC (jnC μ n (brE μ n b)) a i) ?_ hb0 (fun _ _ _ _ => ?_)
  · refine lp_MD_groupCost_24 (a1 := (n : Int)) (a2 := (b : Int)) (a3 := (a : Int)) (a4 := (k : Int) + 1) _ (fun _ _ v7 _ => (400 - v7).toNat) ?_
    rintro v5 v6 v7 hh hb2 ⟨f, ei, rfl, k1, i, rfl, hi, rfl⟩
    have H1 := MV_f H f JWs_w
    have ti := tb i hi
    unfold B_MD_groupCost_24
    refine ⟨⟨by omega, by omega⟩, fun q => ⟨?_, hb2, f, ei⟩, fun q => ⟨⟨by omega, by omega⟩, ⟨by omega, by omega⟩, by omega, ?_⟩⟩
    · obtain rfl : i = k := by omega
      rw [if_neg (by omega)]
    have he : ((a + i + 1 : Nat) : Int) < μ (10 + n) 0 := by omega
    have he1 : ((a + i : Nat) : Int) < μ (10 + n) 0 := by omega
    have hp := hs (a + i + 1) (by omega) (by omega)
    have hp1 := hs (a + i) (by omega) (by omega)
    have hp1' : 1 ≤ pt μ n (a + i + 1 - 1) := hp1
    have xy := xy_b GG hn (f := brE μ n b) (e := a + i + 1) (by omega) (Int.le_of_lt he)
    have s1 := sp_b GG hn he hp
    have s2 := sp_b GG hn he1 hp1
    obtain ⟨c1, c2⟩ := MV_b H1 hn (b := b) (Int.le_of_lt hb1)
    obtain ⟨-, ⟨w0, w1, -⟩, -⟩ := MV_e H1 hn he
    rw [nx300, show (102 * (n : Int) + (b : Int)).toNat = 102 * n + b by omega]
    intro x5 e5 _ _ x8 e8 _ _
    obtain rfl := e5.trans w0
    obtain rfl := e8.trans w1
    refine ⟨by omega, fun x10 e10 _ _ => ?_⟩
    obtain rfl := e10.trans c1
    have b0 := GM_b GG hn (brE μ n b)
    have b1 := GM_b GG hn (a + i + 1)
    have p1 := pr_b b1.1 b1.2 b0.2
    have p2 := pr_b b0.1 b0.2 b1.2
    refine ⟨⟨by omega, by omega⟩, fun x14 e14 _ _ => ?_⟩
    obtain rfl := e14.trans c2
    have en : -smT μ n (brE μ n b) * smB μ n (a + i + 1) = -(smT μ n (brE μ n b) * smB μ n (a + i + 1)) := Int.neg_mul _ _
    have ex : smT μ n (a + i + 1) * smB μ n (brE μ n b) + -smT μ n (brE μ n b) * smB μ n (a + i + 1) = xBr μ n (brE μ n b) (a + i + 1) := by rw [en]; unfold xBr; omega
    have ey : smB μ n (a + i + 1) * smB μ n (brE μ n b) = yBr μ n (brE μ n b) (a + i + 1) := rfl
    refine con_mono (t_MD_sum hb2 (by omega) (by rw [en]; omega) (by rw [ex]; omega) (by rw [ey]; omega)) ?_
    rintro r h15 ⟨rfl, hb15, f15, t1, t2, t3⟩
    rw [ex, ey] at t1 t2
    obtain ⟨r1, r2, -⟩ := rd_pos xy.1.1 xy.2.1
    have dv := div_b (t := μ 0 2) xy.1.1 xy.2.1 T.2.1.1
    have j1 : jnC μ n (brE μ n b) (a + i + 1) = (if rdB (rdT (xBr μ n (brE μ n b) (a + i + 1)) (yBr μ n (brE μ n b) (a + i + 1)) * μ 0 2) (rdB (xBr μ n (brE μ n b) (a + i + 1)) (yBr μ n (brE μ n b) (a + i + 1))) = 1 then 2 else 0) + (if nmb μ n (a + i + 1) = nmb μ n (a + i) then 0 else 1) + (if 0 < absI (sp0 μ n (a + i + 1) - sp0 μ n (a + i)) - 4 then absI (sp0 μ n (a + i + 1) - sp0 μ n (a + i)) - 4 else 0) := by
      unfold jnC
      by_cases w : xBr μ n (brE μ n b) (a + i + 1) * μ 0 2 % yBr μ n (brE μ n b) (a + i + 1) = 0
      · rw [if_pos w, if_pos (dv.mpr w)]; rfl
      · rw [if_neg w, if_neg (fun q => w (dv.mp q))]; rfl
    clear dv
    have xb : xBr μ n (brE μ n b) (a + i + 1) ≤ 1000000000000000 := xy.1.2
    have yb := xy.2.2
    generalize rdT (xBr μ n (brE μ n b) (a + i + 1)) (yBr μ n (brE μ n b) (a + i + 1)) = X at *
    generalize rdB (xBr μ n (brE μ n b) (a + i + 1)) (yBr μ n (brE μ n b) (a + i + 1)) = Y at *
    refine ⟨rfl, hb15, fun x18 e18 _ _ x20 e20 _ _ x21 e21 => ?_⟩
    have ex18 := (e18.trans t1).symm
    subst ex18
    obtain rfl := e20.trans ((congrFun (congrFun (t3.trans ei) 174) 0).trans T2)
    have q1 : 0 ≤ X * μ 0 2 ∧ X * μ 0 2 ≤ 1000000000000000 * 32 := ⟨Int.mul_nonneg r1.1 (by have := T.2.1; omega), Int.mul_le_mul (by omega) T.2.1.2 (by have := T.2.1; omega) (by omega)⟩
    refine ⟨by omega, fun x23 e23 _ _ => ?_⟩
    have ex23 := (e23.trans t2).symm
    subst ex23
    subst e21
    refine con_mono (t_MD_fraction hb15 q1.1 r2.1) ?_
    rintro r h24 ⟨rfl, hb24, f24, u1, u2, u3⟩
    have ei24 : h24.2.1 = h.2.1 := u3.trans (t3.trans ei)
    have f24' : fr JWs h h24 := fr_t (fr_t f f15 (fun _ _ w => w)) f24 (fun _ _ w => w)
    have ii : ∀ x k, h24.2.1 x k = hh.2.1 x k := fun x k => by rw [ei24, ei]
    refine ⟨rfl, hb24, fun x27 e27 _ _ => ?_⟩
    obtain rfl := e27.trans u2
    have H24 := MV_f H f24' JWs_w
    have m1 := MV_e2 H24 hn he
    have m2 := MV_e2 H24 hn he1
    have ts : togC (jnC μ n (brE μ n b)) a (i + 1) = togC (jnC μ n (brE μ n b)) a i + jnC μ n (brE μ n b) (a + i + 1) := rfl
    have jb := hj i (by omega)
    have mid : ∀ t1 : Int, t1 = (if rdB (X * μ 0 2) Y = 1 then 2 else 0) → B_MD_groupCost_112 G s (n : Int) (b : Int) (a : Int) ((k : Int) + 1) (102 * (n : Int) + (b : Int)) ((a + i + 1 : Nat) : Int) (300 * (n : Int) + ((a + i + 1 : Nat) : Int)) (togC (jnC μ n (brE μ n b)) a i) t1 h24 (fun r h' => r = some (av_I (if k = 0 then 3 else togC (jnC μ n (brE μ n b)) a k)) ∧ hb s h' ∧ fr JWs h h' ∧ h'.2.1 = h.2.1) (fun v5' v6' v7' h' => (fr JWs h h' ∧ h'.2.1 = h.2.1 ∧ v6' = 102 * (n : Int) + (b : Int) ∧ 1 ≤ k ∧ ∃ i' : Nat, v7' = ((a + i' + 1 : Nat) : Int) ∧ i' ≤ k ∧ v5' = togC (jnC μ n (brE μ n b)) a i') ∧ (400 - v7').toNat < (400 - ((a + i + 1 : Nat) : Int)).toNat) := by
      intro t1 et
      have t1b : t1 = 0 ∨ t1 = 2 := by
        rw [et]
        split
        · exact Or.inr rfl
        · exact Or.inl rfl
      rw [← et] at j1
      clear et
      have last : ∀ t2 : Int, t2 = (if nmb μ n (a + i + 1) = nmb μ n (a + i) then 0 else 1) → B_MD_groupCost_141 G s (n : Int) (b : Int) (a : Int) ((k : Int) + 1) (102 * (n : Int) + (b : Int)) ((a + i + 1 : Nat) : Int) (300 * (n : Int) + ((a + i + 1 : Nat) : Int)) (togC (jnC μ n (brE μ n b)) a i + t1) t2 h24 (fun r h' => r = some (av_I (if k = 0 then 3 else togC (jnC μ n (brE μ n b)) a k)) ∧ hb s h' ∧ fr JWs h h' ∧ h'.2.1 = h.2.1) (fun v5' v6' v7' h' => (fr JWs h h' ∧ h'.2.1 = h.2.1 ∧ v6' = 102 * (n : Int) + (b : Int) ∧ 1 ≤ k ∧ ∃ i' : Nat, v7' = ((a + i' + 1 : Nat) : Int) ∧ i' ≤ k ∧ v5' = togC (jnC μ n (brE μ n b)) a i') ∧ (400 - v7').toNat < (400 - ((a + i + 1 : Nat) : Int)).toNat) := by
        intro t2 et2
        have t2b : t2 = 0 ∨ t2 = 1 := by
          rw [et2]
          split
          · exact Or.inl rfl
          · exact Or.inr rfl
        rw [← et2] at j1
        clear et2
        have fin : ∀ t3 : Int, t3 = (if 0 < absI (sp0 μ n (a + i + 1) - sp0 μ n (a + i)) - 4 then absI (sp0 μ n (a + i + 1) - sp0 μ n (a + i)) - 4 else 0) → B_MD_groupCost_198 G s (n : Int) (b : Int) (a : Int) ((k : Int) + 1) (102 * (n : Int) + (b : Int)) ((a + i + 1 : Nat) : Int) (togC (jnC μ n (brE μ n b)) a i + t1 + t2) t3 h24 (fun r h' => r = some (av_I (if k = 0 then 3 else togC (jnC μ n (brE μ n b)) a k)) ∧ hb s h' ∧ fr JWs h h' ∧ h'.2.1 = h.2.1) (fun v5' v6' v7' h' => (fr JWs h h' ∧ h'.2.1 = h.2.1 ∧ v6' = 102 * (n : Int) + (b : Int) ∧ 1 ≤ k ∧ ∃ i' : Nat, v7' = ((a + i' + 1 : Nat) : Int) ∧ i' ≤ k ∧ v5' = togC (jnC μ n (brE μ n b)) a i') ∧ (400 - v7').toNat < (400 - ((a + i + 1 : Nat) : Int)).toNat) := by
          intro t3 et3
          rw [← et3] at j1
          unfold B_MD_groupCost_198
          refine ⟨⟨by omega, by omega⟩, ⟨by omega, by omega⟩, ⟨f24', ei24, rfl, k1, i + 1, by omega, by omega, ?_⟩, by omega⟩
          rw [ts, j1]
          omega
        unfold B_MD_groupCost_141 B_MD_groupCost_180
        refine ⟨⟨by omega, by omega⟩, ⟨by omega, by omega⟩, by omega, ?_⟩
        rw [show (4 * (300 * (n : Int) + ((a + i + 1 : Nat) : Int))).toNat = 4 * (300 * n + (a + i + 1)) by omega]
        intro x4 e4 _ _
        obtain rfl := e4.trans (m1.2 hp)
        refine ⟨⟨by omega, by omega⟩, by omega, ?_⟩
        rw [show (4 * (300 * (n : Int) + ((a + i + 1 : Nat) : Int)) - 4).toNat = 4 * (300 * n + (a + i)) by omega]
        intro x8 e8 _ _
        obtain rfl := e8.trans (m2.2 hp1)
        refine ⟨⟨by omega, by omega⟩, fun q => ⟨fun q2 => fin 0 ?_, fun q2 => ⟨⟨by omega, by omega⟩, fin _ ?_⟩⟩, fun q => ⟨⟨by omega, by omega⟩, fun q2 => fin 0 ?_, fun q2 => ⟨⟨by omega, by omega⟩, fin _ ?_⟩⟩⟩
        all_goals unfold absI
        · rw [if_pos q, if_neg (by omega)]
        · rw [if_pos q, if_pos (by omega)]
        · rw [if_neg q, if_neg (by omega)]
        · rw [if_neg q, if_pos (by omega)]; omega
      unfold B_MD_groupCost_112
      refine ⟨⟨by omega, by omega⟩, by omega, ?_⟩
      rw [nx300]
      intro x3 e3 _ _
      obtain rfl := e3.trans m1.1
      refine ⟨⟨by omega, by omega⟩, by omega, ?_⟩
      rw [show (300 * (n : Int) + ((a + i + 1 : Nat) : Int) - 1).toNat = 300 * n + (a + i) by omega]
      intro x7 e7 _ _
      obtain rfl := e7.trans m2.1
      refine ⟨fun q => last 0 ?_, fun q => last 1 ?_⟩
      · rw [if_pos q]
      · rw [if_neg q]
    refine ⟨fun q => mid 2 ?_, fun q => mid 0 ?_⟩
    · rw [if_pos q]
    · rw [if_neg q]
  · unfold B_MD_groupCost_0
    refine ⟨fun q => ?_, fun q => ⟨⟨by omega, by omega⟩, ⟨by omega, by omega⟩, ⟨by omega, by omega⟩, ⟨fr_0, rfl, rfl, by omega, 0, by omega, by omega, rfl⟩⟩⟩
    rw [if_pos (by omega)]
    exact ⟨rfl, hb0, fr_0, rfl⟩
end

/-! ===== beam, the reference: a run ===== -/
def GLm (l : List Int) (h : ah_T) : Prop := h.2.1 170 85 = (l.length : Int) ∧ ∀ (k : Nat) (v : Int), l[k]? = some v → h.2.1 225 k = v
abbrev JWr : Nat → Nat → Prop := fun a k => (a = 170 ∧ (k = 65 ∨ k = 66 ∨ k = 85)) ∨ (225 ≤ a ∧ a ≤ 227)
theorem JWr_w : ∀ a k, JWr a k → a = 170 ∨ 201 ≤ a := by
  intro a k w
  rcases w with w | w <;> omega
theorem fr_sr {h h' : ah_T} (f : fr JWs h h') : fr JWr h h' := fr_w f (fun a k w => by obtain ⟨w1, w2⟩ := w; omega)
def BTm (jc : Nat → Int) (z L r : Nat) (h : ah_T) : Prop := ∀ k, k ≤ r → h.2.1 226 (L - k) = leaC jc z k ∧ (1 ≤ k → h.2.1 227 (L - k) = takC jc z k)
section
variable {G : cx_T} {s n b : Nat} {h : ah_T} {μ : pm_T} {l : List Int}
theorem m_run {a0 z L : Nat} (hb0 : hb s h) (H : MV μ h) (hn : (n : Int) < μ 0 7) (hb1 : (b : Int) < μ (10 + n) 1) (hf : brE μ n b ≤ a0) (hz : (z : Int) ≤ μ (10 + n) 0) (hL : z = a0 + L) (hL1 : 1 ≤ L) (hs : ∀ e, a0 ≤ e → e < z → 1 ≤ pt μ n e) (J : GLm l h) (hl : l.length + L ≤ 14) :
    con G 4 0 0 m_MD_run [av_R (some 170), av_I (n : Int), av_I (b : Int), av_I (a0 : Int), av_I (z : Int)] h (fun r h' => r = some (av_I (leaC (jnC μ n (brE μ n b)) z L)) ∧ hb s h' ∧ fr JWr h h' ∧ GLm (l ++ grpC (jnC μ n (brE μ n b)) z L L) h') := by
  obtain ⟨-, -, hE, hB, n4⟩ := MV_n H hn
  have GG := H.2.1
  have hj : ∀ e, z - L < e → e < z → 0 ≤ jnC μ n (brE μ n b) e ∧ jnC μ n (brE μ n b) e ≤ 61 := fun e h1 h2 => jnC_b GG hn (by omega) (hs e (by omega) h2) (hs (e - 1) (by omega) (by omega))
  have lb := leaC_b (jc := jnC μ n (brE μ n b)) (z := z) (r := L) (by omega) hj
  have l131 : ∀ (v5 : Int) (hh : ah_T), hb s hh → (fr JWr h hh ∧ BTm (jnC μ n (brE μ n b)) z L L hh ∧ ∃ (q : Nat) (em : List Int), v5 = (z : Int) - q ∧ q ≤ L ∧ GLm (l ++ em) hh ∧ em ++ grpC (jnC μ n (brE μ n b)) z q q = grpC (jnC μ n (brE μ n b)) z L L ∧ em.length + q ≤ L) → aw G (rm_R 4 0 0) m_MD_run 0 0 131 [some (av_R (some 170)), none, none, some (av_I (a0 : Int)), some (av_I (z : Int)), some (av_I v5), none, none, none] [] hh (fun r h' => r = some (av_I (leaC (jnC μ n (brE μ n b)) z L)) ∧ hb s h' ∧ fr JWr h h' ∧ GLm (l ++ grpC (jnC μ n (brE μ n b)) z L L) h') := by
    refine lp_MD_run_131 (a1 := (n : Int)) (a2 := (b : Int)) _ (fun v5 _ => (400 - v5).toNat) ?_
    rintro v5 hh hb1' ⟨f, T, q, em, rfl, hq, J1, ee, el⟩
    unfold B_MD_run_131
    refine ⟨fun w x2 e2 _ _ => ?_, fun w x4 e4 _ _ => ?_⟩
    · obtain rfl : q = 0 := by omega
      have t := (T L (Nat.le_refl _)).1
      rw [Nat.sub_self] at t
      rw [e2, t]
      refine ⟨rfl, hb1', f, ?_⟩
      rw [← ee, show grpC (jnC μ n (brE μ n b)) z 0 0 = [] from rfl, List.append_nil]
      exact J1
    obtain rfl := e4.trans J1.1
    have ll : (l ++ em).length = l.length + em.length := List.length_append
    have tb := takC_b (jc := jnC μ n (brE μ n b)) (z := z) (r := q) (by omega)
    refine ⟨⟨by omega, by omega⟩, by omega, fun x7 e7 _ _ => ⟨by omega, fun h10 e10 => ⟨⟨by omega, by omega⟩, fun h14 e14 => ?_⟩⟩⟩
    have ex7 : x7 = takC (jnC μ n (brE μ n b)) z q := by
      rw [e7, show ((z : Int) - q - (a0 : Int)).toNat = L - q by omega]
      exact (T q hq).2 (by omega)
    subst ex7
    rw [tn_c] at e10
    refine ⟨⟨by omega, by omega⟩, ⟨fr_i (fr_i f e10 (by omega)) e14 (by omega), fun k hk => ?_, q - (takC (jnC μ n (brE μ n b)) z q).toNat, em ++ [takC (jnC μ n (brE μ n b)) z q], by omega, by omega, ?_, ?_, ?_⟩, by omega⟩
    · rw [mm_i e14 (by omega), mm_i e10 (by omega), mm_i e14 (by omega), mm_i e10 (by omega)]
      exact T k hk
    · rw [← List.append_assoc]
      refine ⟨by rw [mv_i e14]; simp only [List.length_append, List.length_cons, List.length_nil] at *; omega, fun k v hk => ?_⟩
      rw [mm_i e14 (by omega)]
      by_cases ck : k = (l ++ em).length
      · subst ck
        rw [List.getElem?_concat_length] at hk
        obtain rfl := Option.some.inj hk
        exact mv_i e10
      · have kl : k < (l ++ em).length := by
          by_cases cc : k < (l ++ em).length
          · exact cc
          · rw [List.getElem?_eq_none (by rw [List.length_append]; show (l ++ em).length + 1 ≤ k; omega)] at hk
            cases hk
        rw [List.getElem?_append_left kl] at hk
        rw [mm_i e10 (by omega)]
        exact J1.2 k v hk
    · rw [List.append_assoc, ← ee, grpC_s (r := q) (by omega)]
      rfl
    · rw [List.length_append]
      show em.length + 1 + _ ≤ _
      omega
  have key : ∀ (N : Nat) (v5 : Int) (hh : ah_T), hb s hh → (fr JWr h hh ∧ GLm l hh ∧ ∃ r : Nat, r ≤ L ∧ v5 = (z : Int) - 1 - r ∧ BTm (jnC μ n (brE μ n b)) z L r hh) → (v5 + 1 - (a0 : Int)).toNat < N → aw G (rm_R 4 0 0) m_MD_run 0 0 16 [some (av_R (some 170)), some (av_I (n : Int)), some (av_I (b : Int)), some (av_I (a0 : Int)), some (av_I (z : Int)), some (av_I v5), none, none, none] [] hh (fun r h' => r = some (av_I (leaC (jnC μ n (brE μ n b)) z L)) ∧ hb s h' ∧ fr JWr h h' ∧ GLm (l ++ grpC (jnC μ n (brE μ n b)) z L L) h') := by
    intro N
    induction N with
    | zero => intro v5 hh _ _ q; omega
    | succ N ih =>
      rintro v5 hh hbh ⟨f, J1, r, hr, rfl, T⟩ hN
      by_cases rL : r = L
      · subst rL
        refine b_MD_run_16 (X29 := fun _ _ _ _ => False) (fun _ _ _ _ _ x => x.elim) l131 hbh ?_
        unfold B_MD_run_16
        exact ⟨fun _ => ⟨f, T, r, [], by omega, Nat.le_refl _, by rw [List.append_nil]; exact J1, rfl, by show 0 + _ ≤ _; omega⟩, fun w => by omega⟩
      have W : ∀ k, k < r + 1 → 0 ≤ leaC (jnC μ n (brE μ n b)) z k ∧ leaC (jnC μ n (brE μ n b)) z k ≤ 3 * (k : Int) := fun k hk => lb k (by omega)
      have ic := innC_c (jc := jnC μ n (brE μ n b)) (W := leaC (jnC μ n (brE μ n b)) z) (a := z - (r + 1)) (r := r + 1) (by omega) (fun e h1 h2 => hj e (by omega) (by omega)) W
      have ib := innC_b (jc := jnC μ n (brE μ n b)) (W := leaC (jnC μ n (brE μ n b)) z) (a := z - (r + 1)) (r := r + 1) (by omega)
      have tgb := togC_b (jc := jnC μ n (brE μ n b)) (a := z - (r + 1)) (M := r) (fun k hk => hj _ (by omega) (by omega))
      have in29 : ∀ (v5 v6 v7 : Int) (h' : ah_T), hb s h' → (v5 = (z : Int) - 1 - r ∧ fr JWr h h' ∧ GLm l h' ∧ BTm (jnC μ n (brE μ n b)) z L r h' ∧ ((v6 = -2 ∧ v7 = 1) ∨ ∃ k : Nat, v7 = (k : Int) + 2 ∧ k ≤ 5 ∧ k ≤ r ∧ h'.2.1 226 (L - (r + 1)) = (innC (jnC μ n (brE μ n b)) (leaC (jnC μ n (brE μ n b)) z) (z - (r + 1)) (r + 1) k).1 ∧ v6 = (innC (jnC μ n (brE μ n b)) (leaC (jnC μ n (brE μ n b)) z) (z - (r + 1)) (r + 1) k).2)) → aw G (rm_R 4 0 0) m_MD_run 0 0 29 [some (av_R (some 170)), some (av_I (n : Int)), some (av_I (b : Int)), some (av_I (a0 : Int)), some (av_I (z : Int)), some (av_I v5), some (av_I v6), some (av_I v7), none] [] h' (fun r h' => r = some (av_I (leaC (jnC μ n (brE μ n b)) z L)) ∧ hb s h' ∧ fr JWr h h' ∧ GLm (l ++ grpC (jnC μ n (brE μ n b)) z L L) h') := by
        refine lp_MD_run_29 (X16 := fun v5 hh => (fr JWr h hh ∧ GLm l hh ∧ ∃ r : Nat, r ≤ L ∧ v5 = (z : Int) - 1 - r ∧ BTm (jnC μ n (brE μ n b)) z L r hh) ∧ v5 = (z : Int) - 1 - r - 1) (fun v5 hh hb' x => ih v5 hh hb' x.1 (by have := x.2; omega)) _ (fun _ _ v7 _ => (10 - v7).toNat) ?_
        rintro v5 v6 v7 h' hb' ⟨rfl, f', J', T', st⟩
        have H' := MV_f H f' JWr_w
        unfold B_MD_run_29 B_MD_run_111
        have tel : ∀ {h2 : ah_T} {k : Nat} {sz c : Int}, hb s h2 → fr JWr h h2 → GLm l h2 → BTm (jnC μ n (brE μ n b)) z L r h2 → k ≤ 5 → k ≤ r → c = (innC (jnC μ n (brE μ n b)) (leaC (jnC μ n (brE μ n b)) z) (z - (r + 1)) (r + 1) k).1 → sz = (innC (jnC μ n (brE μ n b)) (leaC (jnC μ n (brE μ n b)) z) (z - (r + 1)) (r + 1) k).2 → sz = (k : Int) + 1 → (10 - ((k : Int) + 2)).toNat < (10 - v7).toNat → B_MD_run_90 G s (n : Int) (b : Int) (a0 : Int) (z : Int) ((z : Int) - 1 - r) sz c h2 (fun r h' => r = some (av_I (leaC (jnC μ n (brE μ n b)) z L)) ∧ hb s h' ∧ fr JWr h h' ∧ GLm (l ++ grpC (jnC μ n (brE μ n b)) z L L) h') (fun v5' v6' v7' h'' => (v5' = (z : Int) - 1 - r ∧ fr JWr h h'' ∧ GLm l h'' ∧ BTm (jnC μ n (brE μ n b)) z L r h'' ∧ ((v6' = -2 ∧ v7' = 1) ∨ ∃ k : Nat, v7' = (k : Int) + 2 ∧ k ≤ 5 ∧ k ≤ r ∧ h''.2.1 226 (L - (r + 1)) = (innC (jnC μ n (brE μ n b)) (leaC (jnC μ n (brE μ n b)) z) (z - (r + 1)) (r + 1) k).1 ∧ v6' = (innC (jnC μ n (brE μ n b)) (leaC (jnC μ n (brE μ n b)) z) (z - (r + 1)) (r + 1) k).2)) ∧ (10 - v7').toNat < (10 - v7).toNat) := by
          intro h2 k sz c hb2 f2 J2 T2 k5 kr ec es es2 me
          unfold B_MD_run_90 B_MD_run_105
          refine ⟨⟨by omega, by omega⟩, by omega, fun h4 e4 => ⟨⟨by omega, by omega⟩, ⟨rfl, fr_i f2 e4 (by omega), ⟨by rw [mm_i e4 (by omega)]; exact J2.1, fun k v hk => by rw [mm_i e4 (by omega)]; exact J2.2 k v hk⟩, fun k' hk' => ?_, Or.inr ⟨k, by omega, k5, kr, ?_, es⟩⟩, by omega⟩⟩
          · rw [mm_i e4 (by omega), mm_i e4 (by omega)]; exact T2 k' hk'
          · rw [show ((z : Int) - 1 - r - (a0 : Int)).toNat = L - (r + 1) by omega] at e4
            rw [mv_i e4]; exact ec
        have out : ∀ k : Nat, h'.2.1 226 (L - (r + 1)) = (innC (jnC μ n (brE μ n b)) (leaC (jnC μ n (brE μ n b)) z) (z - (r + 1)) (r + 1) k).1 → v6 = (innC (jnC μ n (brE μ n b)) (leaC (jnC μ n (brE μ n b)) z) (z - (r + 1)) (r + 1) k).2 → innC (jnC μ n (brE μ n b)) (leaC (jnC μ n (brE μ n b)) z) (z - (r + 1)) (r + 1) 5 = innC (jnC μ n (brE μ n b)) (leaC (jnC μ n (brE μ n b)) z) (z - (r + 1)) (r + 1) k → ((-2147483648) ≤ ((z : Int) - 1 - r - (a0 : Int)) ∧ ((z : Int) - 1 - r - (a0 : Int)) ≤ 2147483647) ∧ (0 ≤ ((z : Int) - 1 - r - (a0 : Int)) ∧ ((z : Int) - 1 - r - (a0 : Int)) < 340) ∧ ∀ h4 : ah_T, h4 = st_i h' 227 ((z : Int) - 1 - r - (a0 : Int)).toNat v6 → ((-2147483648) ≤ ((z : Int) - 1 - r - 1) ∧ ((z : Int) - 1 - r - 1) ≤ 2147483647) ∧ ((fr JWr h h4 ∧ GLm l h4 ∧ ∃ r' : Nat, r' ≤ L ∧ (z : Int) - 1 - r - 1 = (z : Int) - 1 - r' ∧ BTm (jnC μ n (brE μ n b)) z L r' h4) ∧ (z : Int) - 1 - r - 1 = (z : Int) - 1 - r - 1) := by
          intro k c8 c9 eq
          refine ⟨⟨by omega, by omega⟩, by omega, fun h4 e4 => ⟨⟨by omega, by omega⟩, ⟨fr_i f' e4 (by omega), ⟨by rw [mm_i e4 (by omega)]; exact J'.1, fun k v hk => by rw [mm_i e4 (by omega)]; exact J'.2 k v hk⟩, r + 1, by omega, by omega, fun k' hk' => ?_⟩, rfl⟩⟩
          rw [show ((z : Int) - 1 - r - (a0 : Int)).toNat = L - (r + 1) by omega] at e4
          by_cases ck : k' = r + 1
          · subst ck
            unfold leaC takC
            rw [tab_s, eq, mm_i e4 (by omega), mv_i e4]
            exact ⟨c8, fun _ => c9⟩
          · rw [mm_i e4 (by omega), mm_i e4 (by omega)]
            exact T' k' (by omega)
        rcases st with ⟨rfl, rfl⟩ | ⟨k, rfl, k5, kr, c8, c9⟩
        · refine ⟨fun w => by omega, fun w => ⟨⟨by omega, by omega⟩, fun w2 => by omega, fun w2 => ?_⟩⟩
          have gg := m_group (G := G) (a := z - (r + 1)) (k := 0) hb' H' hn hb1 (by omega) (by omega) (fun e q1 q2 => hs e (by omega) (by omega)) (by decide)
          rw [show ((z - (r + 1) : Nat) : Int) = (z : Int) - 1 - r by omega] at gg
          refine con_mono gg ?_
          rintro rr h2 ⟨rfl, hb2, f2, i2⟩
          have wr := W r (by omega)
          refine ⟨_, rfl, hb2, ⟨by omega, by omega⟩, by omega, fun x7 e7 _ _ => ?_⟩
          rw [show ((z : Int) - 1 - r + 1 - (a0 : Int)).toNat = L - r by omega, i2] at e7
          obtain rfl := e7.trans (T' r (Nat.le_refl _)).1
          rw [if_pos rfl]
          have e0 : innC (jnC μ n (brE μ n b)) (leaC (jnC μ n (brE μ n b)) z) (z - (r + 1)) (r + 1) 0 = (3 + leaC (jnC μ n (brE μ n b)) z r, 1) := rfl
          refine ⟨⟨by omega, by omega⟩, fun _ => tel (k := 0) hb2 (fr_t f' (fr_sr f2) (fun _ _ w => w)) ⟨by rw [i2]; exact J'.1, fun k v hk => by rw [i2]; exact J'.2 k v hk⟩ (fun k' hk' => by rw [i2]; exact T' k' hk') (by decide) (Nat.zero_le _) (by rw [e0]) (by rw [e0]) rfl (by omega), fun w3 => absurd (show (-2 : Int) < 0 by decide) w3⟩
        · have ibk := ib k
          refine ⟨fun w => out k c8 c9 (by rw [show k = 5 by omega]), fun w => ⟨⟨by omega, by omega⟩, fun w2 => out k c8 c9 (innC_e 5 k5 (by omega)), fun w2 => ?_⟩⟩
          have gg := m_group (G := G) (a := z - (r + 1)) (k := k + 1) hb' H' hn hb1 (by omega) (by omega) (fun e q1 q2 => hs e (by omega) (by omega)) (by omega)
          rw [show ((z - (r + 1) : Nat) : Int) = (z : Int) - 1 - r by omega, show ((k + 1 : Nat) : Int) + 1 = (k : Int) + 2 by omega, if_neg (by omega)] at gg
          refine con_mono gg ?_
          rintro rr h2 ⟨rfl, hb2, f2, i2⟩
          have tk1 := tgb (k + 1) (by omega)
          have wk := W (r + 1 - (k + 2)) (by omega)
          have ick := ic k
          refine ⟨_, rfl, hb2, ⟨by omega, by omega⟩, by omega, fun x7 e7 _ _ => ?_⟩
          rw [show ((z : Int) - 1 - r + ((k : Int) + 2) - (a0 : Int)).toNat = L - (r + 1 - (k + 2)) by omega, i2] at e7
          obtain rfl := e7.trans (T' _ (by omega)).1
          have inS : innC (jnC μ n (brE μ n b)) (leaC (jnC μ n (brE μ n b)) z) (z - (r + 1)) (r + 1) (k + 1) = (if k + 2 ≤ r + 1 ∧ togC (jnC μ n (brE μ n b)) (z - (r + 1)) (k + 1) + leaC (jnC μ n (brE μ n b)) z (r + 1 - (k + 2)) ≤ (innC (jnC μ n (brE μ n b)) (leaC (jnC μ n (brE μ n b)) z) (z - (r + 1)) (r + 1) k).1 then (togC (jnC μ n (brE μ n b)) (z - (r + 1)) (k + 1) + leaC (jnC μ n (brE μ n b)) z (r + 1 - (k + 2)), ((k + 2 : Nat) : Int)) else innC (jnC μ n (brE μ n b)) (leaC (jnC μ n (brE μ n b)) z) (z - (r + 1)) (r + 1) k) := rfl
          have f2' := fr_t f' (fr_sr f2) (fun _ _ w => w)
          have J2 : GLm l h2 := ⟨by rw [i2]; exact J'.1, fun k v hk => by rw [i2]; exact J'.2 k v hk⟩
          have T2 : BTm (jnC μ n (brE μ n b)) z L r h2 := fun k' hk' => by rw [i2]; exact T' k' hk'
          by_cases k6 : k = 5
          · subst k6; omega
          refine ⟨⟨by omega, by omega⟩, fun w3 => by omega, fun w3 => ⟨⟨by omega, by omega⟩, by omega, fun x12 e12 _ _ => ?_⟩⟩
          rw [show ((z : Int) - 1 - r - (a0 : Int)).toNat = L - (r + 1) by omega, i2] at e12
          obtain rfl := e12.trans c8
          refine ⟨fun w4 => ?_, fun w4 => tel (k := k + 1) hb2 f2' J2 T2 (by omega) (by omega) (by rw [inS, if_pos ⟨by omega, by omega⟩]) (by rw [inS, if_pos ⟨by omega, by omega⟩]; dsimp only; omega) (by omega) (by omega)⟩
          unfold B_MD_run_105
          refine ⟨⟨by omega, by omega⟩, ⟨rfl, f2', J2, T2, Or.inr ⟨k + 1, by omega, by omega, by omega, ?_, ?_⟩⟩, by omega⟩
          · rw [inS, if_neg (fun w => by have := w.2; omega), i2]; exact c8
          · rw [inS, if_neg (fun w => by have := w.2; omega)]; exact c9
      refine b_MD_run_16 (X131 := fun _ _ => False) in29 (fun _ _ _ x => x.elim) hbh ?_
      unfold B_MD_run_16
      exact ⟨fun w => by omega, fun w => ⟨rfl, f, J1, T, Or.inl ⟨rfl, rfl⟩⟩⟩
  refine c_MD_run (X16 := fun v5 hh => fr JWr h hh ∧ GLm l hh ∧ ∃ r : Nat, r ≤ L ∧ v5 = (z : Int) - 1 - r ∧ BTm (jnC μ n (brE μ n b)) z L r hh) (fun v5 hh hb' x => key ((v5 + 1 - (a0 : Int)).toNat + 1) v5 hh hb' x (Nat.lt_succ_self _)) hb0 (fun _ _ _ _ => ?_)
  unfold B_MD_run_0
  refine ⟨⟨by omega, by omega⟩, by omega, fun h4 e4 => ⟨⟨by omega, by omega⟩, fr_i fr_0 e4 (by omega), ⟨by rw [mm_i e4 (by omega)]; exact J.1, fun k v hk => by rw [mm_i e4 (by omega)]; exact J.2 k v hk⟩, 0, Nat.zero_le _, by omega, fun k hk => ?_⟩⟩
  have : k = 0 := by omega
  subst this
  rw [show ((z : Int) - (a0 : Int)).toNat = L - 0 by omega] at e4
  exact ⟨mv_i e4, fun q => by omega⟩
end

/-! ===== beam, the reference ===== -/
section
variable {G : cx_T} {s n b : Nat} {h : ah_T} {μ : pm_T}
theorem m_firstA (hb0 : hb s h) (H : MV μ h) (hn : (n : Int) < μ 0 7) (hb1 : (b : Int) ≤ μ (10 + n) 1) : con G 0 0 0 m_MD_firstOf [av_R (some 170), av_I (n : Int), av_I (b : Int)] h (fun r h' => r = some (av_I (brE μ n b : Int)) ∧ hb s h' ∧ h' = h) := by
  by_cases c : (b : Int) < μ (10 + n) 1
  · exact m_firstOf hb0 H hn c
  have GG := H.2.1
  obtain ⟨hN1, -, hN, -, n4⟩ := MV_n H hn
  have V := GG.1.2 n hn
  have eb : brE μ n b = (μ (10 + n) 0).toNat := by unfold brE; rw [if_neg c]
  refine c_MD_firstOf (X2 := fun v3 hh => hh = h ∧ ∃ k : Nat, v3 = (k : Int) ∧ (k : Int) ≤ μ (10 + n) 0) ?_ hb0 (fun _ _ => ?_)
  · refine lp_MD_firstOf_2 _ (fun v3 _ => (301 - v3).toNat) ?_
    rintro v3 hh hb2 ⟨rfl, k, rfl, hk⟩
    unfold B_MD_firstOf_2 B_MD_firstOf_34
    refine ⟨by omega, ?_⟩
    rw [tn_c]
    intro x2 e2 _ _
    have ex := e2.trans hN1
    subst ex
    refine ⟨fun q => ⟨?_, hb2, rfl⟩, fun q => ⟨⟨by omega, by omega⟩, ⟨by omega, by omega⟩, by omega, ?_⟩⟩
    · rw [show brE μ n b = k by omega]
    have hk' : (k : Int) < μ (10 + n) 0 := by omega
    rw [nx300]
    intro x7 e7 _ _
    have ex := e7.trans (MV_e H hn hk').1.2.2
    subst ex
    have lt := (V.2.2.2 k hk').1.2
    exact ⟨fun q2 => by omega, fun q2 => ⟨⟨by omega, by omega⟩, ⟨rfl, k + 1, by omega, by omega⟩, by omega⟩⟩
  · unfold B_MD_firstOf_0
    exact ⟨rfl, 0, rfl, by omega⟩
/-- what the reference knows between two runs -/
def BM6 (μ : pm_T) (n f t : Nat) (v6 : Int) (k : Nat) (h : ah_T) : Prop :=
  (f + k ≤ t ∧ (csC μ n f k).2.1 = f + k ∧ v6 = (csC μ n f k).1 ∧ GLm (csC μ n f k).2.2 h) ∨
  (f + k < t ∧ ¬ Shr μ n (f + k) ∧ (csC μ n f (k + 1)).2.1 = f + k + 1 ∧ v6 = (csC μ n f (k + 1)).1 ∧ GLm (csC μ n f (k + 1)).2.2 h) ∨
  (f + k = t ∧ v6 = (cutC μ n f t (csC μ n f (t - f))).1 ∧ GLm (cutC μ n f t (csC μ n f (t - f))).2 h)
theorem cut_0 {μ : pm_T} {n f z : Nat} {q : Int × Nat × List Int} (h : q.2.1 = z) : cutC μ n f z q = (q.1, q.2.2) := by
  unfold cutC
  rw [h, Nat.sub_self]
  show (q.1 + 0, q.2.2 ++ []) = _
  rw [List.append_nil, Int.add_zero]
theorem csC_s {μ : pm_T} {n f k : Nat} : ∀ m, k ≤ m → (∀ e, f + k ≤ e → e < f + m → Shr μ n e) → csC μ n f m = csC μ n f k
  | 0, h, _ => by
    have : k = 0 := by omega
    subst this; rfl
  | m + 1, h, hs => by
    by_cases c : k = m + 1
    · subst c; rfl
    · rw [csC, dif_t (hs (f + m) (by omega) (by omega))]
      exact csC_s m (by omega) (fun e q1 q2 => hs e q1 (by omega))
theorem t_MD_bar (hb0 : hb s h) (H : MV μ h) (hn : (n : Int) < μ 0 7) (hb1 : (b : Int) < μ (10 + n) 1) : con G 5 0 0 m_MD_beam [av_R (some 170), av_I (n : Int), av_I (b : Int)] h (fun r h' => r = some (av_I (bmC μ n b)) ∧ hb s h' ∧ fr JWr h h' ∧ (14 < cntS μ n (brE μ n b) (brE μ n (b + 1) - brE μ n b) → h' = h) ∧ (¬ 14 < cntS μ n (brE μ n b) (brE μ n (b + 1) - brE μ n b) → GLm (cutC μ n (brE μ n b) (brE μ n (b + 1)) (csC μ n (brE μ n b) (brE μ n (b + 1) - brE μ n b))).2 h')) := by
  obtain ⟨-, hN2, hE, hB, n4⟩ := MV_n H hn
  have GG := H.2.1
  have e1 := brE_b GG (b := b + 1) hn
  have em := brE_m GG (b := b) hn
  have eB : bmC μ n b = dif (14 < cntS μ n (brE μ n b) (brE μ n (b + 1) - brE μ n b)) (-4) (cutC μ n (brE μ n b) (brE μ n (b + 1)) (csC μ n (brE μ n b) (brE μ n (b + 1) - brE μ n b))).1 := rfl
  have first : ∀ {h1 : ah_T}, hb s h1 → h1 = h → con G 0 0 0 m_MD_firstOf [av_R (some 170), av_I (n : Int), av_I (b : Int)] h1 (fun r h' => r = some (av_I (brE μ n b : Int)) ∧ hb s h' ∧ h' = h) := by
    rintro h1 hbh rfl
    exact m_firstA hbh H hn (Int.le_of_lt hb1)
  have second : ∀ {h1 : ah_T}, hb s h1 → h1 = h → con G 0 0 0 m_MD_firstOf [av_R (some 170), av_I (n : Int), av_I ((b : Int) + 1)] h1 (fun r h' => r = some (av_I (brE μ n (b + 1) : Int)) ∧ hb s h' ∧ h' = h) := by
    rintro h1 hbh rfl
    exact m_firstA (b := b + 1) hbh H hn (by omega)
  generalize hf : brE μ n b = f at *
  generalize brE μ n (b + 1) = t at *
  have key : ¬ 14 < cntS μ n f (t - f) → ∀ (N : Nat) (v4 v6 v7 : Int) (hh : ah_T), hb s hh → (v4 = (t : Int) ∧ fr JWr h hh ∧ ∃ k : Nat, v7 = ((f + k : Nat) : Int) ∧ BM6 μ n f t v6 k hh) → (400 - v7).toNat < N → aw G (rm_R 5 0 0) m_MD_beam 0 0 106 [some (av_R (some 170)), some (av_I (n : Int)), some (av_I (b : Int)), none, some (av_I v4), none, some (av_I v6), some (av_I v7), none] [] hh (fun r h' => r = some (av_I (bmC μ n b)) ∧ hb s h' ∧ fr JWr h h' ∧ (14 < cntS μ n f (t - f) → h' = h) ∧ (¬ 14 < cntS μ n f (t - f) → GLm (cutC μ n f t (csC μ n f (t - f))).2 h')) := by
    intro big N
    induction N with
    | zero => intro v4 v6 v7 hh _ _ q; omega
    | succ N ih =>
      rintro v4 v6 v7 hh hbh ⟨rfl, fw, k, rfl, st⟩ hN
      have fin : f + k = t → v6 = (cutC μ n f t (csC μ n f (t - f))).1 ∧ GLm (cutC μ n f t (csC μ n f (t - f))).2 hh := by
        intro ek
        rcases st with ⟨-, a1, rfl, J⟩ | ⟨x, -⟩ | ⟨-, rfl, J⟩
        · have : t - f = k := by omega
          rw [this, ← ek, cut_0 a1]
          exact ⟨rfl, J⟩
        · omega
        · exact ⟨rfl, J⟩
      have kt : f + k ≤ t := by rcases st with ⟨x, -⟩ | ⟨x, -⟩ | ⟨x, -⟩ <;> omega
      by_cases end_ : f + k = t
      · obtain ⟨e6, J⟩ := fin end_
        refine b_MD_beam_106 (X117 := fun _ _ _ _ _ => False) (fun _ _ _ _ _ _ x => x.elim) hbh ?_
        unfold B_MD_beam_106
        exact ⟨fun _ => ⟨by rw [eB, dif_f big, e6], hbh, fw, fun x => absurd x big, fun _ => J⟩, fun w => by omega⟩
      have in117 : ∀ (a4 a6 a7 a8 : Int) (h' : ah_T), hb s h' → (h' = hh ∧ a4 = (t : Int) ∧ a6 = v6 ∧ a7 = ((f + k : Nat) : Int) ∧ ∃ m : Nat, a8 = ((f + m : Nat) : Int) ∧ k ≤ m ∧ f + m ≤ t ∧ ∀ e, f + k ≤ e → e < f + m → Shr μ n e) → aw G (rm_R 5 0 0) m_MD_beam 0 0 117 [some (av_R (some 170)), some (av_I (n : Int)), some (av_I (b : Int)), none, some (av_I a4), none, some (av_I a6), some (av_I a7), some (av_I a8)] [] h' (fun r h' => r = some (av_I (bmC μ n b)) ∧ hb s h' ∧ fr JWr h h' ∧ (14 < cntS μ n f (t - f) → h' = h) ∧ (¬ 14 < cntS μ n f (t - f) → GLm (cutC μ n f t (csC μ n f (t - f))).2 h')) := by
        refine lp_MD_beam_117 (X106 := fun a4 a6 a7 h' => (a4 = (t : Int) ∧ fr JWr h h' ∧ ∃ k' : Nat, a7 = ((f + k' : Nat) : Int) ∧ BM6 μ n f t a6 k' h') ∧ ((f + k : Nat) : Int) + 1 ≤ a7) (fun a4 a6 a7 h' hb' x => ih a4 a6 a7 h' hb' x.1 (by have := x.2; omega)) _ (fun _ _ _ a8 _ => (400 - a8).toNat) ?_
        rintro a4 a6 a7 a8 h' hb' ⟨rfl, rfl, rfl, rfl, m, rfl, km, mt, sh⟩
        have H' := MV_f H fw JWr_w
        unfold B_MD_beam_117 B_MD_beam_145 B_MD_beam_177
        have cut : (f + m < t → ¬ Shr μ n (f + m)) → ((((f + m : Nat) : Int) ≤ ((f + k : Nat) : Int) → ((-2147483648) ≤ (((f + k : Nat) : Int) + 1) ∧ (((f + k : Nat) : Int) + 1) ≤ 2147483647) ∧ (((t : Int) = (t : Int) ∧ fr JWr h h' ∧ ∃ k' : Nat, ((f + k : Nat) : Int) + 1 = ((f + k' : Nat) : Int) ∧ BM6 μ n f t a6 k' h') ∧ ((f + k : Nat) : Int) + 1 ≤ ((f + k : Nat) : Int) + 1)) ∧ (¬ ((f + m : Nat) : Int) ≤ ((f + k : Nat) : Int) → con G 4 0 0 m_MD_run [av_R (some 170), av_I (n : Int), av_I (b : Int), av_I ((f + k : Nat) : Int), av_I ((f + m : Nat) : Int)] h' (fun r h2 => ∃ z4 : Int, r = some (av_I z4) ∧ hb s h2 ∧ ((-2147483648) ≤ (a6 + z4) ∧ (a6 + z4) ≤ 2147483647) ∧ (((t : Int) = (t : Int) ∧ fr JWr h h2 ∧ ∃ k' : Nat, ((f + m : Nat) : Int) = ((f + k' : Nat) : Int) ∧ BM6 μ n f t (a6 + z4) k' h2) ∧ ((f + k : Nat) : Int) + 1 ≤ ((f + m : Nat) : Int))))) := by
          intro ns
          refine ⟨fun q => ⟨⟨by omega, by omega⟩, ⟨rfl, fw, k + 1, by omega, Or.inl ?_⟩, Int.le_refl _⟩, fun q => ?_⟩
          · obtain rfl : m = k := by omega
            have nsk := ns (by omega)
            rcases st with ⟨-, a1, rfl, J⟩ | ⟨-, -, b1, rfl, J⟩ | ⟨x, -⟩
            · have e : csC μ n f (m + 1) = ((csC μ n f m).1, f + m + 1, (csC μ n f m).2.2) := by rw [csC, dif_f nsk, cut_0 a1]
              rw [e]
              exact ⟨by omega, rfl, rfl, J⟩
            · exact ⟨by omega, b1, rfl, J⟩
            · omega
          · have shk := sh (f + k) (Nat.le_refl _) (by omega)
            rcases st with ⟨-, a1, rfl, J⟩ | ⟨-, b0, -⟩ | ⟨x, -⟩
            rotate_left
            · exact absurd shk b0
            · omega
            have es := csC_s (μ := μ) (n := n) (f := f) (k := k) m km sh
            obtain ⟨⟨i1, i2⟩, i3, i4, i5, i6⟩ := csC_b (f := f) GG hn m (by omega)
            have cm := cntS_m (μ := μ) (n := n) (f := f) (k := m) (t - f) (by omega)
            obtain ⟨⟨x1, x2⟩, x3⟩ := cut_b (f := f) GG hn (z := f + m) (q := csC μ n f m) (by omega) i2 i3
            have ea : (csC μ n f m).2.1 = f + k := by rw [es]; exact a1
            have J' : GLm (csC μ n f m).2.2 h' := by rw [es]; exact J
            have e6 : (csC μ n f k).1 = (csC μ n f m).1 := by rw [es]
            refine con_mono (m_run hb' H' hn hb1 (a0 := f + k) (z := f + m) (L := m - k) (by omega) (by omega) (by omega) (by omega) (fun e q1 q2 => (sh e q1 q2).1) J' (by omega)) ?_
            rintro r h2 ⟨rfl, hb2, f2, J2⟩
            rw [hf] at J2 ⊢
            have ec : cutC μ n f (f + m) (csC μ n f m) = ((csC μ n f m).1 + leaC (jnC μ n f) (f + m) (m - k), (csC μ n f m).2.2 ++ grpC (jnC μ n f) (f + m) (m - k) (m - k)) := by
              unfold cutC
              rw [ea, show f + m - (f + k) = m - k by omega]
            have ec1 : (csC μ n f k).1 + leaC (jnC μ n f) (f + m) (m - k) = (cutC μ n f (f + m) (csC μ n f m)).1 := by rw [ec, e6]
            have J3 : GLm (cutC μ n f (f + m) (csC μ n f m)).2 h2 := by rw [ec]; exact J2
            refine ⟨_, rfl, hb2, by rw [ec1]; omega, ⟨rfl, fr_t fw f2 (fun _ _ w => w), m, rfl, ?_⟩, by omega⟩
            rw [ec1]
            by_cases ct : f + m < t
            · have e : csC μ n f (m + 1) = ((cutC μ n f (f + m) (csC μ n f m)).1, f + m + 1, (cutC μ n f (f + m) (csC μ n f m)).2) := by rw [csC, dif_f (ns ct)]
              refine Or.inr (Or.inl ⟨ct, ns ct, ?_, ?_, ?_⟩)
              · rw [e]
              · rw [e]
              · rw [e]; exact J3
            · obtain rfl : t = f + m := by omega
              rw [show f + m - f = m by omega] at *
              exact Or.inr (Or.inr ⟨rfl, by rw [show f + m - f = m by omega], by rw [show f + m - f = m by omega]; exact J3⟩)
        refine ⟨fun q => cut (fun w => by omega), fun q => ⟨⟨by omega, by omega⟩, ⟨by omega, by omega⟩, ?_⟩⟩
        refine con_mono (m_short hb' H' hn (e := f + m) (by omega)) ?_
        rintro r h2 ⟨z, rfl, hb2, rfl, zz⟩
        refine ⟨z, rfl, hb2, fun q2 => cut (fun _ => ?_), fun q2 => ⟨⟨by omega, by omega⟩, ⟨rfl, rfl, rfl, rfl, m + 1, by omega, by omega, by omega, fun e h1 h2 => ?_⟩, by omega⟩⟩
        · rcases zz with ⟨-, x⟩ | ⟨x, -⟩
          · exact x
          · omega
        · by_cases ce : e = f + m
          · subst ce
            rcases zz with ⟨x, -⟩ | ⟨-, x⟩
            · exact absurd x q2
            · exact x
          · exact sh e h1 (by omega)
      refine b_MD_beam_106 in117 hbh ?_
      unfold B_MD_beam_106
      exact ⟨fun w => by omega, fun w => ⟨rfl, rfl, rfl, rfl, k, rfl, Nat.le_refl _, by omega, fun e h1 h2 => by omega⟩⟩
  refine c_MD_beam (X47 := fun v3 v4 v5 v6 hh => hh = h ∧ v3 = (f : Int) ∧ v4 = (t : Int) ∧ ∃ k : Nat, v6 = ((f + k : Nat) : Int) ∧ f + k ≤ t ∧ v5 = (cntS μ n f k : Int) ∧ cntS μ n f k ≤ k) ?_ hb0 (fun _ _ => ?_)
  · refine lp_MD_beam_47 (X106 := fun v4 v6 v7 hh => ¬ 14 < cntS μ n f (t - f) ∧ (v4 = (t : Int) ∧ fr JWr h hh ∧ ∃ k : Nat, v7 = ((f + k : Nat) : Int) ∧ BM6 μ n f t v6 k hh)) (fun v4 v6 v7 hh hb' x => key x.1 ((400 - v7).toNat + 1) v4 v6 v7 hh hb' x.2 (Nat.lt_succ_self _)) _ (fun _ _ _ v6 _ => (400 - v6).toNat) ?_
    rintro v3 v4 v5 v6 hh hb2 ⟨rfl, rfl, rfl, k, rfl, hk, rfl, ck⟩
    unfold B_MD_beam_47 B_MD_beam_76
    refine ⟨fun q => ?_, fun q => ⟨⟨by omega, by omega⟩, ⟨by omega, by omega⟩, ?_⟩⟩
    · have ek : cntS μ n f (t - f) = cntS μ n f k := by rw [show t - f = k by omega]
      refine ⟨fun q2 h1 e1' => ⟨by omega, rfl, fr_i fr_0 e1' (by omega), 0, by omega, Or.inl ⟨em, rfl, rfl, mv_i e1', fun k v hk => by cases hk⟩⟩, fun q2 => ⟨by rw [eB, dif_t (by omega)], hb2, fr_0, fun _ => rfl, fun x => absurd (show 14 < cntS μ n f (t - f) by omega) x⟩⟩
    refine con_mono (m_short hb2 H hn (e := f + k) (by omega)) ?_
    rintro r h2 ⟨z, rfl, hb3, rfl, zz⟩
    refine ⟨z, rfl, hb3, fun q2 => ⟨⟨by omega, by omega⟩, ⟨by omega, by omega⟩, ⟨rfl, rfl, rfl, k + 1, by omega, by omega, ?_, ?_⟩, by omega⟩, fun q2 => ⟨⟨by omega, by omega⟩, ⟨by omega, by omega⟩, ⟨rfl, rfl, rfl, k + 1, by omega, by omega, ?_, ?_⟩, by omega⟩⟩
    all_goals rw [cntS]
    · rw [dif_f (by rcases zz with ⟨-, x⟩ | ⟨x, -⟩; exact x; omega)]; omega
    · rw [dif_f (by rcases zz with ⟨-, x⟩ | ⟨x, -⟩; exact x; omega)]; omega
    · rw [dif_t (by rcases zz with ⟨x, -⟩ | ⟨-, x⟩; exact absurd x q2; exact x)]; omega
    · rw [dif_t (by rcases zz with ⟨x, -⟩ | ⟨-, x⟩; exact absurd x q2; exact x)]; omega
  · unfold B_MD_beam_0
    refine con_mono (t_MD_isVoice hb0 H.1) ?_
    rintro r h2 ⟨hb2, rfl, rfl⟩
    refine ⟨_, rfl, hb2, fun q => ?_, fun q => ⟨fun q2 => by omega, fun q2 => ⟨by omega, ?_⟩⟩⟩
    · rw [if_pos (by omega)] at q
      exact absurd q (by decide)
    rw [tn_c]
    intro x5 e5 _ _
    have ex := e5.trans hN2
    subst ex
    refine ⟨fun q3 => ?_, fun q3 => by omega⟩
    refine con_mono (first hb2 rfl) ?_
    rintro r h7 ⟨rfl, hb7, rfl⟩
    refine ⟨_, rfl, hb7, ⟨by omega, by omega⟩, ?_⟩
    refine con_mono (second hb7 rfl) ?_
    rintro r h11 ⟨rfl, hb11, rfl⟩
    exact ⟨_, rfl, hb11, rfl, rfl, rfl, 0, rfl, em, rfl, Nat.le_refl _⟩
end
