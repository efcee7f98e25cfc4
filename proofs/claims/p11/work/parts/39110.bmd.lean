/-! ===== beam, the reference: one event, one GROUP ===== -/
theorem MV_e2 {μ : pm_T} {n e : Nat} {h : ah_T} (H : MV μ h) (hn : (n : Int) < μ 0 7) (he : (e : Int) < μ (10 + n) 0) : h.2.1 197 (300 * n + e) = nmb μ n e ∧ (1 ≤ pt μ n e → h.2.1 193 (4 * (300 * n + e)) = sp0 μ n e) := by
  obtain ⟨⟨-, -, -, y4, -⟩, -, -, k⟩ := (H.1.2.2.2.2.2 n hn).2.2.1 e he
  exact ⟨y4, fun hp => (k 0 (by unfold pt at hp; omega)).2⟩
/-- one more, or a whole number of beats -/
theorem div_b {x y t : Int} (hx : 0 ≤ x) (hy : 1 ≤ y) (ht : 1 ≤ t) : rdB (rdT x y * t) (rdB x y) = 1 ↔ x * t % y = 0 := by
  obtain ⟨r1, r2, g, g1, gx, gy⟩ := rd_pos hx hy
  generalize rdT x y = X at *
  generalize rdB x y = Y at *
  have e1 : x * t % y = g * (X * t % Y) := by
    rw [gx, gy, Int.mul_assoc, Int.mul_emod_mul_of_pos _ _ (by omega)]
  have e2 : x * t % y = 0 ↔ X * t % Y = 0 := by
    rw [e1]
    refine ⟨fun w => ?_, fun w => by rw [w, Int.mul_zero]⟩
    rcases Int.mul_eq_zero.mp w with w | w
    · omega
    · exact w
  rw [e2]
  obtain ⟨h1, h2⟩ := gc_e (X * t) Y
  constructor
  · intro w
    rw [w, Int.mul_one] at h2
    exact Int.emod_eq_zero_of_dvd (by rw [h2]; exact Int.gcd_dvd_left _ _)
  · intro w
    have d : Y ∣ X * t := Int.dvd_of_emod_eq_zero w
    have gY : (Int.gcd (X * t) Y : Int) = Y := by
      have a : Int.gcd (X * t) Y = Y.natAbs := Int.gcd_eq_right_iff_dvd (by omega) |>.mpr d |> (fun q => by omega)
      omega
    unfold rdB
    rw [gY]
    exact Int.ediv_self (by omega)
section
variable {G : cx_T} {s n b : Nat} {h : ah_T} {μ : pm_T}
theorem m_short {e : Nat} (hb0 : hb s h) (H : MV μ h) (hn : (n : Int) < μ 0 7) (he : (e : Int) < μ (10 + n) 0) : con G 0 0 0 m_MD_isShort [av_R (some 170), av_I (300 * (n : Int) + (e : Int))] h (fun r h' => ∃ z : Int, r = some (av_I z) ∧ hb s h' ∧ h' = h ∧ ((z = 0 ∧ ¬ Shr μ n e) ∨ (z = 1 ∧ Shr μ n e))) := by
  obtain ⟨-, -, hE, -, n4⟩ := MV_n H hn
  refine c_MD_isShort hb0 (fun _ => ?_)
  unfold B_MD_isShort_0 B_MD_isShort_24 B_MD_isShort_25
  refine ⟨by omega, ?_⟩
  rw [nx300]
  intro x2 e2 _ _
  obtain rfl := e2.trans (MV_e H hn he).1.1
  refine ⟨fun q => ⟨Or.inl rfl, 0, rfl, hb0, rfl, Or.inl ⟨rfl, fun w => by have := w.1; omega⟩⟩, fun q x5 e5 _ _ => ?_⟩
  obtain rfl := e5.trans (MV_e2 H hn he).1
  exact ⟨fun q2 => ⟨Or.inl rfl, 0, rfl, hb0, rfl, Or.inl ⟨rfl, fun w => by have := w.2; omega⟩⟩, fun q2 => ⟨Or.inr rfl, 1, rfl, hb0, rfl, Or.inr ⟨rfl, by omega, by omega⟩⟩⟩
theorem m_group {a k : Nat} (hb0 : hb s h) (H : MV μ h) (hn : (n : Int) < μ 0 7) (hb1 : (b : Int) < μ (10 + n) 1) (hf : brE μ n b ≤ a) (hz : ((a + k : Nat) : Int) < μ (10 + n) 0) (hs : ∀ e, a ≤ e → e ≤ a + k → 1 ≤ pt μ n e) (hk : k ≤ 5) : con G 3 0 0 m_MD_groupCost [av_R (some 170), av_I (n : Int), av_I (b : Int), av_I (a : Int), av_I ((k : Int) + 1)] h (fun r h' => r = some (av_I (if k = 0 then 3 else togC (jnC μ n (brE μ n b)) a k)) ∧ hb s h' ∧ fr JWs h h' ∧ h'.2.1 = h.2.1) := by
  obtain ⟨-, -, hE, hB, n4⟩ := MV_n H hn
  have GG := H.2.1
  have T := GG.2.1
  obtain ⟨T1, T2⟩ := H.2.2 (by omega)
  have hj : ∀ i, i < k → 0 ≤ jnC μ n (brE μ n b) (a + i + 1) ∧ jnC μ n (brE μ n b) (a + i + 1) ≤ 61 := fun i hi => jnC_b GG hn (by omega) (hs _ (by omega) (by omega)) (hs (a + i + 1 - 1) (by omega) (by omega))
  have tb := togC_b (jc := jnC μ n (brE μ n b)) (a := a) (M := k) hj
  refine c_MD_groupCost (X24 := fun v5 v6 v7 hh => fr JWs h hh ∧ hh.2.1 = h.2.1 ∧ v6 = 102 * (n : Int) + (b : Int) ∧ 1 ≤ k ∧ ∃ i : Nat, v7 = ((a + i + 1 : Nat) : Int) ∧ i ≤ k ∧ v5 = togC (jnC μ n (brE μ n b)) a i) ?_ hb0 (fun _ _ _ _ => ?_)
  · refine lp_MD_groupCost_24 (a1 := (n : Int)) (a2 := (b : Int)) (a3 := (a : Int)) (a4 := (k : Int) + 1) _ (fun _ _ v7 _ => (400 - v7).toNat) ?_
    rintro v5 v6 v7 hh hb2 ⟨f, ei, rfl, k1, i, rfl, hi, rfl⟩
    have H1 := MV_f H f JWs_w
    have ti := tb i hi
    unfold B_MD_groupCost_24
    refine ⟨⟨by omega, by omega⟩, fun q => ⟨?_, hb2, f, ei⟩, fun q => ⟨⟨by omega, by omega⟩, ⟨by omega, by omega⟩, by omega, ?_⟩⟩
    · obtain rfl : i = k := by omega
      rw [if_neg (by omega)]
    have he : ((a + i + 1 : Nat) : Int) < μ (10 + n) 0 := by omega
    have he1 : ((a + i : Nat) : Int) < μ (10 + n) 0 := by omega
    have hp := hs (a + i + 1) (by omega) (by omega)
    have hp1 := hs (a + i) (by omega) (by omega)
    have hp1' : 1 ≤ pt μ n (a + i + 1 - 1) := hp1
    have xy := xy_b GG hn (f := brE μ n b) (e := a + i + 1) (by omega) (Int.le_of_lt he)
    have s1 := sp_b GG hn he hp
    have s2 := sp_b GG hn he1 hp1
    obtain ⟨c1, c2⟩ := MV_b H1 hn (b := b) (Int.le_of_lt hb1)
    obtain ⟨-, ⟨w0, w1, -⟩, -⟩ := MV_e H1 hn he
    rw [nx300, show (102 * (n : Int) + (b : Int)).toNat = 102 * n + b by omega]
    intro x5 e5 _ _ x8 e8 _ _
    obtain rfl := e5.trans w0
    obtain rfl := e8.trans w1
    refine ⟨by omega, fun x10 e10 _ _ => ?_⟩
    obtain rfl := e10.trans c1
    have b0 := GM_b GG hn (brE μ n b)
    have b1 := GM_b GG hn (a + i + 1)
    have p1 := pr_b b1.1 b1.2 b0.2
    have p2 := pr_b b0.1 b0.2 b1.2
    refine ⟨⟨by omega, by omega⟩, fun x14 e14 _ _ => ?_⟩
    obtain rfl := e14.trans c2
    have en : -smT μ n (brE μ n b) * smB μ n (a + i + 1) = -(smT μ n (brE μ n b) * smB μ n (a + i + 1)) := Int.neg_mul _ _
    have ex : smT μ n (a + i + 1) * smB μ n (brE μ n b) + -smT μ n (brE μ n b) * smB μ n (a + i + 1) = xBr μ n (brE μ n b) (a + i + 1) := by rw [en]; unfold xBr; omega
    have ey : smB μ n (a + i + 1) * smB μ n (brE μ n b) = yBr μ n (brE μ n b) (a + i + 1) := rfl
    refine con_mono (t_MD_sum hb2 (by omega) (by rw [en]; omega) (by rw [ex]; omega) (by rw [ey]; omega)) ?_
    rintro r h15 ⟨rfl, hb15, f15, t1, t2, t3⟩
    rw [ex, ey] at t1 t2
    obtain ⟨r1, r2, -⟩ := rd_pos xy.1.1 xy.2.1
    have dv := div_b (t := μ 0 2) xy.1.1 xy.2.1 T.2.1.1
    have j1 : jnC μ n (brE μ n b) (a + i + 1) = (if rdB (rdT (xBr μ n (brE μ n b) (a + i + 1)) (yBr μ n (brE μ n b) (a + i + 1)) * μ 0 2) (rdB (xBr μ n (brE μ n b) (a + i + 1)) (yBr μ n (brE μ n b) (a + i + 1))) = 1 then 2 else 0) + (if nmb μ n (a + i + 1) = nmb μ n (a + i) then 0 else 1) + (if 0 < absI (sp0 μ n (a + i + 1) - sp0 μ n (a + i)) - 4 then absI (sp0 μ n (a + i + 1) - sp0 μ n (a + i)) - 4 else 0) := by
      unfold jnC
      by_cases w : xBr μ n (brE μ n b) (a + i + 1) * μ 0 2 % yBr μ n (brE μ n b) (a + i + 1) = 0
      · rw [if_pos w, if_pos (dv.mpr w)]; rfl
      · rw [if_neg w, if_neg (fun q => w (dv.mp q))]; rfl
    clear dv
    have xb : xBr μ n (brE μ n b) (a + i + 1) ≤ 1000000000000000 := xy.1.2
    have yb := xy.2.2
    generalize rdT (xBr μ n (brE μ n b) (a + i + 1)) (yBr μ n (brE μ n b) (a + i + 1)) = X at *
    generalize rdB (xBr μ n (brE μ n b) (a + i + 1)) (yBr μ n (brE μ n b) (a + i + 1)) = Y at *
    refine ⟨rfl, hb15, fun x18 e18 _ _ x20 e20 _ _ x21 e21 => ?_⟩
    have ex18 := (e18.trans t1).symm
    subst ex18
    obtain rfl := e20.trans ((congrFun (congrFun (t3.trans ei) 174) 0).trans T2)
    have q1 : 0 ≤ X * μ 0 2 ∧ X * μ 0 2 ≤ 1000000000000000 * 32 := ⟨Int.mul_nonneg r1.1 (by have := T.2.1; omega), Int.mul_le_mul (by omega) T.2.1.2 (by have := T.2.1; omega) (by omega)⟩
    refine ⟨by omega, fun x23 e23 _ _ => ?_⟩
    have ex23 := (e23.trans t2).symm
    subst ex23
    subst e21
    refine con_mono (t_MD_fraction hb15 q1.1 r2.1) ?_
    rintro r h24 ⟨rfl, hb24, f24, u1, u2, u3⟩
    have ei24 : h24.2.1 = h.2.1 := u3.trans (t3.trans ei)
    have f24' : fr JWs h h24 := fr_t (fr_t f f15 (fun _ _ w => w)) f24 (fun _ _ w => w)
    have ii : ∀ x k, h24.2.1 x k = hh.2.1 x k := fun x k => by rw [ei24, ei]
    refine ⟨rfl, hb24, fun x27 e27 _ _ => ?_⟩
    obtain rfl := e27.trans u2
    have H24 := MV_f H f24' JWs_w
    have m1 := MV_e2 H24 hn he
    have m2 := MV_e2 H24 hn he1
    have ts : togC (jnC μ n (brE μ n b)) a (i + 1) = togC (jnC μ n (brE μ n b)) a i + jnC μ n (brE μ n b) (a + i + 1) := rfl
    have jb := hj i (by omega)
    have mid : ∀ t1 : Int, t1 = (if rdB (X * μ 0 2) Y = 1 then 2 else 0) → B_MD_groupCost_112 G s (n : Int) (b : Int) (a : Int) ((k : Int) + 1) (102 * (n : Int) + (b : Int)) ((a + i + 1 : Nat) : Int) (300 * (n : Int) + ((a + i + 1 : Nat) : Int)) (togC (jnC μ n (brE μ n b)) a i) t1 h24 (fun r h' => r = some (av_I (if k = 0 then 3 else togC (jnC μ n (brE μ n b)) a k)) ∧ hb s h' ∧ fr JWs h h' ∧ h'.2.1 = h.2.1) (fun v5' v6' v7' h' => (fr JWs h h' ∧ h'.2.1 = h.2.1 ∧ v6' = 102 * (n : Int) + (b : Int) ∧ 1 ≤ k ∧ ∃ i' : Nat, v7' = ((a + i' + 1 : Nat) : Int) ∧ i' ≤ k ∧ v5' = togC (jnC μ n (brE μ n b)) a i') ∧ (400 - v7').toNat < (400 - ((a + i + 1 : Nat) : Int)).toNat) := by
      intro t1 et
      have t1b : t1 = 0 ∨ t1 = 2 := by
        rw [et]
        split
        · exact Or.inr rfl
        · exact Or.inl rfl
      rw [← et] at j1
      clear et
      have last : ∀ t2 : Int, t2 = (if nmb μ n (a + i + 1) = nmb μ n (a + i) then 0 else 1) → B_MD_groupCost_141 G s (n : Int) (b : Int) (a : Int) ((k : Int) + 1) (102 * (n : Int) + (b : Int)) ((a + i + 1 : Nat) : Int) (300 * (n : Int) + ((a + i + 1 : Nat) : Int)) (togC (jnC μ n (brE μ n b)) a i + t1) t2 h24 (fun r h' => r = some (av_I (if k = 0 then 3 else togC (jnC μ n (brE μ n b)) a k)) ∧ hb s h' ∧ fr JWs h h' ∧ h'.2.1 = h.2.1) (fun v5' v6' v7' h' => (fr JWs h h' ∧ h'.2.1 = h.2.1 ∧ v6' = 102 * (n : Int) + (b : Int) ∧ 1 ≤ k ∧ ∃ i' : Nat, v7' = ((a + i' + 1 : Nat) : Int) ∧ i' ≤ k ∧ v5' = togC (jnC μ n (brE μ n b)) a i') ∧ (400 - v7').toNat < (400 - ((a + i + 1 : Nat) : Int)).toNat) := by
        intro t2 et2
        have t2b : t2 = 0 ∨ t2 = 1 := by
          rw [et2]
          split
          · exact Or.inl rfl
          · exact Or.inr rfl
        rw [← et2] at j1
        clear et2
        have fin : ∀ t3 : Int, t3 = (if 0 < absI (sp0 μ n (a + i + 1) - sp0 μ n (a + i)) - 4 then absI (sp0 μ n (a + i + 1) - sp0 μ n (a + i)) - 4 else 0) → B_MD_groupCost_198 G s (n : Int) (b : Int) (a : Int) ((k : Int) + 1) (102 * (n : Int) + (b : Int)) ((a + i + 1 : Nat) : Int) (togC (jnC μ n (brE μ n b)) a i + t1 + t2) t3 h24 (fun r h' => r = some (av_I (if k = 0 then 3 else togC (jnC μ n (brE μ n b)) a k)) ∧ hb s h' ∧ fr JWs h h' ∧ h'.2.1 = h.2.1) (fun v5' v6' v7' h' => (fr JWs h h' ∧ h'.2.1 = h.2.1 ∧ v6' = 102 * (n : Int) + (b : Int) ∧ 1 ≤ k ∧ ∃ i' : Nat, v7' = ((a + i' + 1 : Nat) : Int) ∧ i' ≤ k ∧ v5' = togC (jnC μ n (brE μ n b)) a i') ∧ (400 - v7').toNat < (400 - ((a + i + 1 : Nat) : Int)).toNat) := by
          intro t3 et3
          rw [← et3] at j1
          unfold B_MD_groupCost_198
          refine ⟨⟨by omega, by omega⟩, ⟨by omega, by omega⟩, ⟨f24', ei24, rfl, k1, i + 1, by omega, by omega, ?_⟩, by omega⟩
          rw [ts, j1]
          omega
        unfold B_MD_groupCost_141 B_MD_groupCost_180
        refine ⟨⟨by omega, by omega⟩, ⟨by omega, by omega⟩, by omega, ?_⟩
        rw [show (4 * (300 * (n : Int) + ((a + i + 1 : Nat) : Int))).toNat = 4 * (300 * n + (a + i + 1)) by omega]
        intro x4 e4 _ _
        obtain rfl := e4.trans (m1.2 hp)
        refine ⟨⟨by omega, by omega⟩, by omega, ?_⟩
        rw [show (4 * (300 * (n : Int) + ((a + i + 1 : Nat) : Int)) - 4).toNat = 4 * (300 * n + (a + i)) by omega]
        intro x8 e8 _ _
        obtain rfl := e8.trans (m2.2 hp1)
        refine ⟨⟨by omega, by omega⟩, fun q => ⟨fun q2 => fin 0 ?_, fun q2 => ⟨⟨by omega, by omega⟩, fin _ ?_⟩⟩, fun q => ⟨⟨by omega, by omega⟩, fun q2 => fin 0 ?_, fun q2 => ⟨⟨by omega, by omega⟩, fin _ ?_⟩⟩⟩
        all_goals unfold absI
        · rw [if_pos q, if_neg (by omega)]
        · rw [if_pos q, if_pos (by omega)]
        · rw [if_neg q, if_neg (by omega)]
        · rw [if_neg q, if_pos (by omega)]; omega
      unfold B_MD_groupCost_112
      refine ⟨⟨by omega, by omega⟩, by omega, ?_⟩
      rw [nx300]
      intro x3 e3 _ _
      obtain rfl := e3.trans m1.1
      refine ⟨⟨by omega, by omega⟩, by omega, ?_⟩
      rw [show (300 * (n : Int) + ((a + i + 1 : Nat) : Int) - 1).toNat = 300 * n + (a + i) by omega]
      intro x7 e7 _ _
      obtain rfl := e7.trans m2.1
      refine ⟨fun q => last 0 ?_, fun q => last 1 ?_⟩
      · rw [if_pos q]
      · rw [if_neg q]
    refine ⟨fun q => mid 2 ?_, fun q => mid 0 ?_⟩
    · rw [if_pos q]
    · rw [if_neg q]
  · unfold B_MD_groupCost_0
    refine ⟨fun q => ?_, fun q => ⟨⟨by omega, by omega⟩, ⟨by omega, by omega⟩, ⟨by omega, by omega⟩, ⟨fr_0, rfl, rfl, by omega, 0, by omega, by omega, rfl⟩⟩⟩
    rw [if_pos (by omega)]
    exact ⟨rfl, hb0, fr_0, rfl⟩
end
