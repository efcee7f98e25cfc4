/-! ===== beam, the class ===== -/
section
variable {G : cx_T} {s c n b : Nat} {h : ah_T} {μ : pm_T}
theorem j_shorts {f t : Nat} (hb0 : hb s h) (H : CV μ c h) (hn : (n : Int) < μ 0 7) (hft : f ≤ t) (ht : (t : Int) ≤ μ (10 + n) 0) : con G 3 0 0 m_Beams_shortOnes [av_R (some (c + 7 + 14 * n)), av_I (f : Int), av_I (t : Int)] h (fun r h' => r = some (av_I (cntS μ n f (t - f) : Int)) ∧ hb s h' ∧ h' = h) := by
  obtain ⟨hv, -, -, hE, hB, n4⟩ := CV_v H hn
  refine c_Beams_shortOnes (a1 := (f : Int)) hv (X5 := fun v3 v4 hh => hh = h ∧ ∃ k : Nat, v4 = ((f + k : Nat) : Int) ∧ f + k ≤ t ∧ v3 = (cntS μ n f k : Int) ∧ cntS μ n f k ≤ k) ?_ hb0 (fun _ _ => ?_)
  · refine lp_Beams_shortOnes_5 (a1 := (f : Int)) hv _ (fun _ v4 _ => (400 - v4).toNat) ?_
    rintro v3 v4 hh hb1 ⟨rfl, k, rfl, hk, rfl, ck⟩
    unfold B_Beams_shortOnes_5 B_Beams_shortOnes_26
    refine ⟨fun q => ⟨?_, hb1, rfl⟩, fun q => ?_⟩
    · rw [show t - f = k by omega]
    refine con_mono (j_short hb1 H hn (e := f + k) (by omega)) ?_
    rintro r h2 ⟨z, rfl, hb2, rfl, zz⟩
    refine ⟨z, rfl, hb2, fun q2 => ⟨⟨by omega, by omega⟩, ⟨by omega, by omega⟩, ⟨rfl, k + 1, by omega, by omega, ?_, ?_⟩, by omega⟩, fun q2 => ⟨⟨by omega, by omega⟩, ⟨by omega, by omega⟩, ⟨rfl, k + 1, by omega, by omega, ?_, ?_⟩, by omega⟩⟩
    all_goals rw [cntS]
    · rw [dif_f (by rcases zz with ⟨-, x⟩ | ⟨x, -⟩; exact x; omega)]; omega
    · rw [dif_f (by rcases zz with ⟨-, x⟩ | ⟨x, -⟩; exact x; omega)]; omega
    · rw [dif_t (by rcases zz with ⟨x, -⟩ | ⟨-, x⟩; exact absurd x q2; exact x)]; omega
    · rw [dif_t (by rcases zz with ⟨x, -⟩ | ⟨-, x⟩; exact absurd x q2; exact x)]; omega
  · unfold B_Beams_shortOnes_0
    exact ⟨rfl, 0, rfl, by omega, rfl, Nat.le_refl _⟩
theorem t_Beams_find (hb0 : hb s h) (H : CV μ c h) (hn : (n : Int) < μ 0 7) (hb1 : (b : Int) < μ (10 + n) 1) : con G 4 0 0 m_Beams_find [av_R (some 146), av_R (some (c + 7 + 14 * n)), av_I (b : Int), av_I (μ 0 2)] h (fun r h' => r = some (av_I (bmC μ n b)) ∧ hb s h' ∧ fr JWb h h' ∧ (14 < cntS μ n (brE μ n b) (brE μ n (b + 1) - brE μ n b) → h' = h) ∧ (¬ 14 < cntS μ n (brE μ n b) (brE μ n (b + 1) - brE μ n b) → GLc (cutC μ n (brE μ n b) (brE μ n (b + 1)) (csC μ n (brE μ n b) (brE μ n (b + 1) - brE μ n b))).2 h')) := by
  obtain ⟨hv, -, -, hE, hB, n4⟩ := CV_v H hn
  have GG := H.2.2.1
  have f0 := CV_b H hn (b := b) (Int.le_of_lt hb1)
  have f1 := CV_b H hn (b := b + 1) (by omega)
  have e1 := brE_b GG (b := b + 1) hn
  have em := brE_m GG (b := b) hn
  have eB : bmC μ n b = dif (14 < cntS μ n (brE μ n b) (brE μ n (b + 1) - brE μ n b)) (-4) (cutC μ n (brE μ n b) (brE μ n (b + 1)) (csC μ n (brE μ n b) (brE μ n (b + 1) - brE μ n b))).1 := rfl
  generalize hf : brE μ n b = f at *
  generalize brE μ n (b + 1) = t at *
  by_cases big : 14 < cntS μ n f (t - f)
  all_goals refine c_Beams_find (X50 := fun v5 v6 v7 v8 hh => ¬ 14 < cntS μ n f (t - f) ∧ v5 = (t : Int) ∧ fr JWb h hh ∧ ∃ k : Nat, v8 = ((f + k : Nat) : Int) ∧ ((f + k ≤ t ∧ v6 = (csC μ n f k).1 ∧ v7 = ((csC μ n f k).2.1 : Int) ∧ GLc (csC μ n f k).2.2 hh) ∨ (f + k = t + 1 ∧ v6 = (cutC μ n f t (csC μ n f (t - f))).1 ∧ GLc (cutC μ n f t (csC μ n f (t - f))).2 hh))) hv ?_ hb0 (fun _ _ => ?_)
  case pos.refine_1 => exact fun _ _ _ _ _ _ x => absurd big x.1
  case neg.refine_1 =>
    refine lp_Beams_find_50 hv _ (fun _ _ _ v8 _ => (400 - v8).toNat) ?_
    rintro v5 v6 v7 v8 hh hb2 ⟨-, rfl, fw, k, rfl, st⟩
    have H1 := CV_f H fw JWb_43
    unfold B_Beams_find_50 B_Beams_find_73 B_Beams_find_95
    rcases st with ⟨kt, rfl, rfl, J⟩ | ⟨kt, rfl, J⟩
    rotate_left
    · exact ⟨fun q => ⟨by rw [eB, dif_f big], hb2, fw, fun x => absurd x big, fun _ => J⟩, fun q => by omega⟩
    obtain ⟨⟨i1, i2⟩, i3, i4, i5, i6⟩ := csC_b (f := f) GG hn k (by omega)
    have cm := cntS_m (μ := μ) (n := n) (f := f) (k := k) (t - f) (by omega)
    obtain ⟨⟨x1, x2⟩, x3⟩ := cut_b (f := f) GG hn (z := f + k) (q := csC μ n f k) (by omega) i2 i3
    have run : ∀ {h1 : ah_T}, hb s h1 → h1 = hh → con G 2 0 0 m_Beams_cutRun [av_R (some 146), av_R (some (c + 7 + 14 * n)), av_I (b : Int), av_I ((csC μ n f k).2.1 : Int), av_I ((f + k : Nat) : Int), av_I (μ 0 2)] h1 (fun r h1 => ∃ z3 : Int, r = some (av_I z3) ∧ hb s h1 ∧ (csC μ n f k).1 + z3 = (cutC μ n f (f + k) (csC μ n f k)).1 ∧ fr JWb h h1 ∧ GLc (cutC μ n f (f + k) (csC μ n f k)).2 h1) := by
      rintro h1 hb3 rfl
      refine con_mono (j_cut hb3 H1 hn hb1 (a0 := (csC μ n f k).2.1) (z := f + k) (L := f + k - (csC μ n f k).2.1) (by rw [hf]; exact i1) (by omega) (by omega) (fun e q1 q2 => (i3 e q1 q2).1) J (by omega)) ?_
      rintro r h2 ⟨rfl, hb4, f4, J4⟩
      rw [hf] at J4 ⊢
      exact ⟨_, rfl, hb4, rfl, fr_t fw f4 (fun _ _ w => w), J4⟩
    have nxt : ∀ {h1 : ah_T} {z3 : Int}, (csC μ n f k).1 + z3 = (cutC μ n f (f + k) (csC μ n f k)).1 → fr JWb h h1 → GLc (cutC μ n f (f + k) (csC μ n f k)).2 h1 → (f + k < t → ¬ Shr μ n (f + k)) → ((-2147483648) ≤ ((csC μ n f k).1 + z3) ∧ ((csC μ n f k).1 + z3) ≤ 2147483647) ∧ ((-2147483648) ≤ (((f + k : Nat) : Int) + 1) ∧ (((f + k : Nat) : Int) + 1) ≤ 2147483647) ∧ ((-2147483648) ≤ (((f + k : Nat) : Int) + 1) ∧ (((f + k : Nat) : Int) + 1) ≤ 2147483647) ∧ ((¬ 14 < cntS μ n f (t - f) ∧ (t : Int) = (t : Int) ∧ fr JWb h h1 ∧ ∃ k' : Nat, ((f + k : Nat) : Int) + 1 = ((f + k' : Nat) : Int) ∧ ((f + k' ≤ t ∧ (csC μ n f k).1 + z3 = (csC μ n f k').1 ∧ ((f + k : Nat) : Int) + 1 = ((csC μ n f k').2.1 : Int) ∧ GLc (csC μ n f k').2.2 h1) ∨ (f + k' = t + 1 ∧ (csC μ n f k).1 + z3 = (cutC μ n f t (csC μ n f (t - f))).1 ∧ GLc (cutC μ n f t (csC μ n f (t - f))).2 h1))) ∧ (400 - (((f + k : Nat) : Int) + 1)).toNat < (400 - ((f + k : Nat) : Int)).toNat) := by
      intro h1 z3 ez f1 J1 ns
      refine ⟨by rw [ez]; omega, by omega, by omega, ⟨big, rfl, f1, k + 1, by omega, ?_⟩, by omega⟩
      by_cases c : f + k < t
      · refine Or.inl ⟨by omega, ?_, ?_, ?_⟩
        · rw [csC, dif_f (ns c)]; exact ez
        · rw [csC, dif_f (ns c)]; dsimp only; omega
        · rw [csC, dif_f (ns c)]; exact J1
      · obtain rfl : t = f + k := by omega
        rw [show f + k - f = k by omega]
        exact Or.inr ⟨by omega, ez, J1⟩
    refine ⟨fun q => by omega, fun q => ⟨fun q2 => ?_, fun q2 => ?_⟩⟩
    · refine con_mono (run hb2 rfl) ?_
      rintro r h2 ⟨z3, rfl, hb3, ez, f3, J3⟩
      exact ⟨z3, rfl, hb3, nxt ez f3 J3 (fun w => by omega)⟩
    · refine con_mono (j_short hb2 H1 hn (e := f + k) (by omega)) ?_
      rintro r h2 ⟨z, rfl, hb3, rfl, zz⟩
      refine ⟨z, rfl, hb3, fun q3 => ?_, fun q3 => ⟨by omega, ⟨big, rfl, fw, k + 1, by omega, Or.inl ⟨by omega, ?_⟩⟩, by omega⟩⟩
      · refine con_mono (run hb3 rfl) ?_
        rintro r h4 ⟨z3, rfl, hb4, ez, f4, J4⟩
        refine ⟨z3, rfl, hb4, nxt ez f4 J4 (fun _ => ?_)⟩
        rcases zz with ⟨-, x⟩ | ⟨x, -⟩
        · exact x
        · omega
      · have ys : Shr μ n (f + k) := by
          rcases zz with ⟨x, -⟩ | ⟨-, x⟩
          · exact absurd x q3
          · exact x
        rw [csC, dif_t ys]
        exact ⟨rfl, rfl, J⟩
  all_goals
    unfold B_Beams_find_0
    refine ⟨by omega, ?_⟩
    rw [tn_c, show ((b : Int) + 1).toNat = b + 1 by omega]
    intro x2 e2 _ _
    obtain rfl := e2.trans f0
    refine ⟨⟨by omega, by omega⟩, by omega, fun x6 e6 _ _ => ?_⟩
    obtain rfl := e6.trans f1
    refine con_mono (j_shorts hb0 H hn em e1) ?_
    rintro r h8 ⟨rfl, hb8, rfl⟩
    refine ⟨_, rfl, hb8, fun q => ?_, fun q => ?_⟩
  · exact absurd big (by omega)
  · exact ⟨by rw [eB, dif_t big], hb8, fr_0, fun _ => rfl, fun x => absurd big x⟩
  · intro h11 e11
    refine ⟨big, rfl, fr_i fr_0 e11 (by omega), 0, by omega, Or.inl ⟨em, rfl, rfl, mv_i e11, fun k v hk => by cases hk⟩⟩
  · exact absurd (show 14 < cntS μ n f (t - f) by omega) big
theorem t_PM_beam {v w : Int} {s : Nat} {h : ah_T} (hb0 : hb s h) (H : CV μ (97 - s) h) : con G 5 0 0 m_PM_beam [av_R (some 0), av_I v, av_I w] h (fun r h' => r = some (av_I (bmv μ v w)) ∧ hb s h' ∧ fr JWb h h') := by
  have C := H.2.1
  have b4 := H.2.2.1.1.1
  refine c_PM_beam hb0 (fun _ _ => ?_)
  unfold B_PM_beam_0 B_PM_beam_25 bmv
  refine con_mono (t_Score_voiceAt hb0 H.1 C) ?_
  rintro r h2 ⟨hb2, rfl, ⟨q1, q2, rfl⟩ | ⟨q1, rfl⟩⟩
  · obtain ⟨n, rfl⟩ : ∃ n : Nat, v = n := ⟨v.toNat, by omega⟩
    rw [tn_c]
    obtain ⟨hv, -, h16, -⟩ := CV_v H q2
    refine ⟨_, rfl, hb2, Or.inr ⟨_, rfl, hv, fun c => ⟨?_, hb2, fr_0⟩, fun c x5 e5 _ _ => ?_⟩⟩
    · rw [dif_f (by omega)]
    have ex := e5.trans h16
    subst ex
    refine ⟨fun c2 x8 e8 _ _ => ?_, fun c2 => ⟨?_, hb2, fr_0⟩⟩
    · obtain ⟨b, rfl⟩ : ∃ b : Nat, w = b := ⟨w.toNat, by omega⟩
      have ex := e8.trans C.1.2.2.1
      subst ex
      refine con_mono (t_Beams_find hb2 H q2 c2) ?_
      rintro r h9 ⟨rfl, hb9, f9, -⟩
      refine ⟨_, rfl, hb9, ?_, hb9, f9⟩
      rw [tn_c, dif_t ⟨⟨by omega, q2⟩, by omega, c2⟩]
    · rw [dif_f (by omega)]
  · exact ⟨_, rfl, hb2, Or.inl ⟨rfl, by rw [dif_f (fun x => q1 x.1)], hb2, fr_0⟩⟩
end
