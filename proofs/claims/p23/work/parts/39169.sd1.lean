/-! ===== sample, the class ===== -/
section
variable {G : cx_T} {s c n e : Nat} {h : ah_T} {μ : pm_T} {N R : Int}
theorem x_isReached (hb0 : hb s h) (H : CV μ c h) (hn : (n : Int) < μ 0 7) (he : (e : Int) ≤ μ (10 + n) 0) (hN : 0 ≤ N ∧ N ≤ 2147483647) (hR : 1 ≤ R ∧ R ≤ 10000) : con G 0 0 0 m_Voice_isReached [av_R (some (c + 7 + 14 * n)), av_I (e : Int), av_L N, av_L R] h (fun r h' => ∃ z : Int, r = some (av_I z) ∧ hb s h' ∧ h' = h ∧ ((z = 0 ∧ ¬ Rch μ n e N R) ∨ (z = 1 ∧ Rch μ n e N R))) := by
  obtain ⟨hv, -, -, hE, -⟩ := CV_v H hn
  obtain ⟨t1, t2⟩ := CV_t H hn he
  have b := GM_b H.2.2.1 hn e
  unfold Rch
  refine c_Voice_isReached hv hb0 (fun _ _ _ => ?_)
  unfold B_Voice_isReached_0 B_Voice_isReached_30
  refine ⟨by omega, ?_⟩
  rw [tn_c]
  intro x2 e2 _ _ x4 e4
  obtain rfl := e2.trans t2
  have p1 := mlb hN.1 hN.2 (by omega) b.2.2
  rw [← e4] at p1 ⊢
  refine ⟨⟨by omega, by omega⟩, ?_⟩
  intro x7 e7 _ _
  obtain rfl := e7.trans t1
  refine ⟨⟨by omega, by omega⟩, fun x9 e9 => ?_⟩
  have p2 := mlb (x := 2 * smT μ n e) (X := 2000000000) (by omega) (by omega) (by omega) hR.2
  rw [← e9] at p2 ⊢
  exact ⟨⟨by omega, by omega⟩, fun q => ⟨Or.inl rfl, 0, rfl, hb0, rfl, Or.inl ⟨rfl, by omega⟩⟩, fun q => ⟨Or.inr rfl, 1, rfl, hb0, rfl, Or.inr ⟨rfl, by omega⟩⟩⟩
theorem x_divided {a b : Int} (hb0 : hb s h) (ha : 0 ≤ a) (hb1 : 1 ≤ b) : con G 1 0 0 m_PM_divided [av_L a, av_L b] h (fun r h' => r = some (av_D (dvd a b)) ∧ hb s h' ∧ h' = h) := by
  obtain ⟨y1, y2⟩ := gc_e a b
  have g1 : (Int.gcd a b : Int) ≠ 0 := fun w => by rw [w, Int.zero_mul] at y2; omega
  have g0 : (0 : Int) ≤ (Int.gcd a b : Int) := Int.natCast_nonneg _
  refine c_PM_divided hb0 (fun i1 i2 => ?_)
  unfold i64 at i1 i2
  have D := dvd_b ha hb1 (by omega) (by omega)
  unfold B_PM_divided_0
  refine ⟨fun _ => ?_, fun q => absurd (show (0 : Int) < b by omega) q⟩
  refine con_mono (t_PM_greatestDivisor hb0 ha (by omega)) ?_
  rintro r h2 ⟨z, rfl, hb2, rfl, ez⟩
  have ez' : z = (Int.gcd a b : Int) := by rw [ez]; unfold gdv; rw [if_neg g1]
  refine ⟨z, rfl, hb2, by omega, fun x5 e5 _ _ => ⟨by omega, fun x6 e6 _ _ => ?_⟩⟩
  have q5 : x5 = rdT a b := by rw [e5, w64_d ha (by omega) (by omega), ez']; rfl
  have q6 : x6 = rdB a b := by rw [e6, w64_d (by omega) (by omega) (by omega), ez']; rfl
  rw [q5, q6]
  exact ⟨D.2.1, rfl, hb2, rfl⟩
theorem x_waveAt {key T B : Int} (hb0 : hb s h) (hk : -2 ≤ key ∧ key ≤ 109) (hT : 0 ≤ T ∧ T ≤ 20000000000000) (hB : 1 ≤ B ∧ B ≤ 10000000000) : con G 2 0 0 m_PM_waveAt [av_I key, av_L T, av_L B] h (fun r h' => r = some (av_D (wvk key T B)) ∧ hb s h' ∧ h' = h) := by
  have rt := rt_b (i := key % 12) (by omega) (by omega)
  have kb := kto_b hk.1 hk.2
  have w1 : 1 ≤ B * rlow (key % 12) ∧ B * rlow (key % 12) ≤ 10000000000 * 32 := ⟨by have := Int.mul_le_mul hB.1 rt.2.1 (by decide) (by omega : 0 ≤ B); omega, (mlb (by omega) hB.2 (by omega) rt.2.2).2⟩
  have w2 := Int.emod_nonneg (T * kto key) (by omega : B * rlow (key % 12) ≠ 0)
  have w3 := Int.emod_lt_of_pos (T * kto key) (by omega : 0 < B * rlow (key % 12))
  have w4 := Int.emod_nonneg T (by omega : B * rlow (key % 12) ≠ 0)
  have w5 := Int.emod_lt_of_pos T (by omega : 0 < B * rlow (key % 12))
  have w6 := mlb (x := T % (B * rlow (key % 12))) (X := 320000000000) w4 (by omega) (by omega : 0 ≤ kto key) kb.2
  have fin : ∀ (v9 : Int) (v0 : Int) (h' : ah_T), hb s h' → h' = h → v9 = B * rlow (key % 12) → v0 = T * kto key % (B * rlow (key % 12)) → B_PM_waveAt_75 G s key T B v9 v0 h' (fun r h' => r = some (av_D (wvk key T B)) ∧ hb s h' ∧ h' = h) := by
    rintro v9 v0 h' hb' rfl rfl rfl
    have D := dvd_b w2 w1.1 (by omega) (by omega)
    have W := wvx_b D.1
    unfold B_PM_waveAt_75 B_PM_waveAt_134
    refine con_mono (x_divided hb' w2 w1.1) ?_
    rintro r h5 ⟨rfl, hb5, rfl⟩
    refine ⟨_, rfl, hb5, ?_⟩
    intro x4 e4 _ _
    refine ⟨fun c1 x5 e5 _ _ => ⟨fun c2 => ⟨W.1, W.2.1, ?_, hb5, rfl⟩, fun c2 => ⟨W.1, W.2.2.1, ?_, hb5, rfl⟩⟩, fun c1 => ⟨W.1, ?_, hb5, rfl⟩⟩
    · unfold wvk wvx cmd
      rw [← e4, ← e5, if_pos c1, if_pos c2]
    · unfold wvk wvx cmd
      rw [← e4, ← e5, if_pos c1, if_neg c2]
    · unfold wvk wvx cmd
      rw [← e4, if_neg c1]
  refine c_PM_waveAt hb0 (fun _ _ _ => ?_)
  unfold B_PM_waveAt_0
  refine con_mono (s_JMath_floorMod (by decide) (by decide)) ?_
  rintro r h1 ⟨z3, rfl, q3, ⟨q3b, rfl⟩, rfl⟩
  refine ⟨_, rfl, hb0, ?_⟩
  refine con_mono (s_JMath_floorDiv (by decide) (by decide)) ?_
  rintro r h4 ⟨z6, rfl, q6, rfl, rfl⟩
  refine ⟨_, rfl, hb0, ?_⟩
  intro x7 e7 _ _ x8 e8 _ _
  rw [if_neg (by omega)] at e7
  subst e7
  rw [if_neg (by omega)] at e8
  subst e8
  refine ⟨⟨by omega, by omega⟩, fun x10 e10 _ _ => ?_⟩
  have s8 := sh8 (key / 12 + 1).toNat (by omega)
  rw [show (((key / 12 + 1).toNat : Nat) : Int) = key / 12 + 1 by omega] at s8
  have q10 := e10.trans s8
  refine ⟨⟨by omega, by omega⟩, fun x11 e11 x12 e12 => ?_⟩
  have q12 : x12 = kto key := by rw [e12, q10, e11]; rfl
  refine ⟨⟨by omega, by omega⟩, ⟨by omega, by omega⟩, fun x14 e14 x15 e15 => ?_⟩
  have q15 : x15 = B * rlow (key % 12) := by rw [e15, e14]; rfl
  rw [← q15] at w1 w2 w3 w4 w5 w6
  refine ⟨⟨by omega, by omega⟩, fun q => absurd q (by omega), fun _ => ⟨by omega, fun x18 e18 _ _ x19 e19 => ?_⟩⟩
  have q18 : x18 = T % x15 := by rw [e18, Int.tmod_eq_emod_of_nonneg hT.1]
  rw [q12, q18] at e19
  rw [← e19] at w6
  refine ⟨⟨by omega, by omega⟩, by omega, fun x21 e21 _ _ => ?_⟩
  refine fin _ _ _ hb0 rfl q15 ?_
  rw [e21, Int.tmod_eq_emod_of_nonneg w6.1, e19, ← q15, Int.mul_emod (T % x15), Int.emod_emod, ← Int.mul_emod]
theorem x_addEvent {a : UInt64} {M : Nat} (hb0 : hb s h) (H : CV μ c h) (hn : (n : Int) < μ 0 7) (he : (e : Int) < μ (10 + n) 0) (hN : 0 ≤ N ∧ N ≤ 2147483647) (hR : 1 ≤ R ∧ R ≤ 10000) (h1 : Rch μ n e N R) (h2 : ¬ Rch μ n (e + 1) N R) (ha : fbn a M 193) (hM : M ≤ 9000000) : con G 3 0 0 m_PM_addEvent [av_D a, av_R (some (c + 7 + 14 * n)), av_I (e : Int), av_I N, av_I R] h (fun r h' => r = some (av_D (sdE μ n e N R a (pt μ n e).toNat)) ∧ hb s h' ∧ h' = h) := by
  have E := CV_e H hn he
  obtain ⟨hv, -, -, hE, -⟩ := CV_v H hn
  obtain ⟨t1, t2⟩ := CV_t H hn (e := e) (by omega)
  obtain ⟨bb, qq, y1, y2, y3, ⟨z1, z2, z3, z4⟩, -⟩ := E.2.2.1
  have GG := H.2.2.1
  have b := GM_b GG hn e
  have M4 := E.2.2.2.1
  have L := M4.2.2.2.2.2.1
  have p4 := M4.1
  have sb := sn_b GG hn hN.1 hR h1 h2
  have p1 := mlb hN.1 hN.2 (by omega : 0 ≤ smB μ n e) b.2.2
  have p2 := mlb (x := 2 * smT μ n e) (X := 2000000000) (by omega) (by omega) (by omega) hR.2
  have d1 := dvd_b sb.1.1 sb.2.1 (by omega) (by omega)
  have d2 := dvd_b (a := 2 * μ (100 + 40 * n + 2) e) (b := μ (100 + 40 * n + 3) e) (by omega) L.2.2.1 (by omega) (by omega)
  have F := fad_b d1.1 (d2.2.2 (by omega))
  refine c_PM_addEvent hv (X80 := fun v6 v8 v12 v14 v16 hh => hh = h ∧ v6 = snT μ n e N R ∧ v8 = snB μ n e R ∧ v12 = fad (snT μ n e N R) (snB μ n e R) (μ (100 + 40 * n + 2) e) (μ (100 + 40 * n + 3) e) ∧ ∃ k : Nat, v16 = (k : Int) ∧ (k : Int) ≤ pt μ n e ∧ v14 = sdE μ n e N R a k) ?_ hb0 (fun _ _ _ => ?_)
  · refine lp_PM_addEvent_80 (a0 := a) (a3 := N) (a4 := R) hv _ (fun _ _ _ _ v16 _ => (10 - v16).toNat) ?_
    rintro v6 v8 v12 v14 v16 hh hbh ⟨rfl, rfl, rfl, rfl, k, rfl, hk, rfl⟩
    have eb := sdE_b GG hn he hN.1 hR h1 h2 ha hM
    unfold B_PM_addEvent_80
    refine con_mono (t_Voice_pitchesOf hbh E) ?_
    rintro r h3 ⟨hb3, rfl, rfl⟩
    unfold pt at hk
    refine ⟨_, rfl, hb3, fun q => ⟨?_, hb3, rfl⟩, fun q => ?_⟩
    · rw [show (pt μ n e).toNat = k by unfold pt; omega]
    · refine con_mono (t_Voice_keyOf hb3 E (p := k) (by omega)) ?_
      rintro r h4 ⟨hb4, rfl, rfl⟩
      refine ⟨_, rfl, hb4, ?_⟩
      have K := (M4.2.2.2.2.2.2.1 k (by omega)).1
      refine con_mono (x_waveAt hb4 K sb.1 sb.2) ?_
      rintro r h7 ⟨rfl, hb7, rfl⟩
      have e1 := eb (k + 1) (by unfold pt; omega)
      have w := snw_b (e1.2 k (by omega)) F.2.2
      have ad := fp_add (eb k (by unfold pt; omega)).1 w.2.2 (by omega) (by decide)
      exact ⟨_, rfl, hb7, w.1, w.2.1, ad.2, ⟨by omega, by omega⟩, ⟨rfl, rfl, rfl, rfl, k + 1, by omega, by unfold pt; omega, rfl⟩, by omega⟩
  · unfold B_PM_addEvent_0
    refine ⟨by omega, ?_⟩
    rw [tn_c]
    intro x2 e2 _ _ x4 e4
    obtain rfl := e2.trans t2
    have q4 := e4
    rw [← e4] at p1
    refine ⟨⟨by omega, by omega⟩, fun x7 e7 _ _ => ?_⟩
    obtain rfl := e7.trans t1
    refine ⟨⟨by omega, by omega⟩, fun x9 e9 => ?_⟩
    have q9 := e9
    rw [← e9] at p2
    have q49 : x4 - x9 = snT μ n e N R := by rw [q4, q9]
    refine ⟨⟨by omega, by omega⟩, ⟨by omega, by omega⟩, fun x14 e14 => ?_⟩
    have q14 : x14 = snB μ n e R := e14
    refine ⟨⟨by omega, by omega⟩, by omega, fun x17 e17 _ _ => ?_⟩
    obtain rfl := e17.trans z3
    refine ⟨⟨by omega, by omega⟩, fun x21 e21 _ _ => ?_⟩
    obtain rfl := e21.trans z4
    rw [q49, q14]
    refine con_mono (x_divided hb0 (by omega) L.2.2.1) ?_
    rintro r h22 ⟨rfl, hb22, rfl⟩
    refine ⟨_, rfl, hb22, ?_⟩
    refine con_mono (x_divided hb22 sb.1.1 sb.2.1) ?_
    rintro r h25 ⟨rfl, hb25, rfl⟩
    exact ⟨_, rfl, hb25, F.1, F.2.1, rfl, rfl, rfl, rfl, 0, rfl, by unfold pt; omega, rfl⟩
theorem x_addVoice {a : UInt64} {M : Nat} (hb0 : hb s h) (H : CV μ c h) (hn : (n : Int) < μ 0 7) (hN : 0 ≤ N ∧ N ≤ 2147483647) (hR : 1 ≤ R ∧ R ≤ 10000) (ha : fbn a M 193) (hM : M ≤ 6000) : con G 4 0 0 m_PM_addVoice [av_D a, av_R (some (c + 7 + 14 * n)), av_I N, av_I R] h (fun r h' => r = some (av_D (sdV μ n N R a (μ (10 + n) 0).toNat)) ∧ hb s h' ∧ h' = h) := by
  obtain ⟨hv, h14, -, hE, -⟩ := CV_v H hn
  have GG := H.2.2.1
  refine c_PM_addVoice hv (X6 := fun v5 v7 hh => hh = h ∧ ∃ e : Nat, v7 = (e : Int) ∧ (e : Int) ≤ μ (10 + n) 0 ∧ v5 = sdV μ n N R a e) ?_ hb0 (fun _ _ => ?_)
  · refine lp_PM_addVoice_6 (a0 := a) hv _ (fun _ v7 _ => (400 - v7).toNat) ?_
    rintro v5 v7 hh hbh ⟨rfl, e, rfl, hel, rfl⟩
    unfold B_PM_addVoice_6 B_PM_addVoice_58
    intro x1 e1 _ _
    obtain rfl := e1.trans h14
    refine ⟨fun q => ⟨?_, hbh, rfl⟩, fun q => ?_⟩
    · rw [show (μ (10 + n) 0).toNat = e by omega]
    · have he : (e : Int) < μ (10 + n) 0 := by omega
      refine con_mono (x_isReached hbh H hn (by omega) hN hR) ?_
      rintro r h2 ⟨z4, rfl, hb2, rfl, c1⟩
      refine ⟨_, rfl, hb2, fun q4 => ?_, fun q4 => ?_⟩
      · refine ⟨⟨by omega, by omega⟩, ⟨rfl, e + 1, by omega, by omega, ?_⟩, by omega⟩
        rw [sdV, dif_f (fun w => by rcases c1 with ⟨-, x⟩ | ⟨x, -⟩ <;> first | exact x w.1 | omega)]
      · have r1 : Rch μ n e N R := by rcases c1 with ⟨x, -⟩ | ⟨-, x⟩ <;> first | exact x | omega
        rw [show (e : Int) + 1 = ((e + 1 : Nat) : Int) by omega]
        refine ⟨⟨by omega, by omega⟩, ?_⟩
        refine con_mono (x_isReached (e := e + 1) hb2 H hn (by omega) hN hR) ?_
        rintro r h6 ⟨z8, rfl, hb6, rfl, c2⟩
        refine ⟨_, rfl, hb6, fun q8 => ?_, fun q8 => ?_⟩
        · have r2 : ¬ Rch μ n (e + 1) N R := by rcases c2 with ⟨-, x⟩ | ⟨x, -⟩ <;> first | exact x | omega
          refine con_mono (x_addEvent hb6 H hn he hN hR r1 r2 (sdV_b GG hn hN.1 hR ha hM e hel) (by omega)) ?_
          rintro r h9 ⟨rfl, hb9, rfl⟩
          refine ⟨_, rfl, hb9, ⟨by omega, by omega⟩, ⟨rfl, e + 1, by omega, by omega, ?_⟩, by omega⟩
          rw [sdV, dif_t ⟨r1, r2⟩]
        · refine ⟨⟨by omega, by omega⟩, ⟨rfl, e + 1, by omega, by omega, ?_⟩, by omega⟩
          rw [sdV, dif_f (fun w => by rcases c2 with ⟨x, -⟩ | ⟨-, x⟩ <;> first | exact q8 x | exact w.2 x)]
  · unfold B_PM_addVoice_0
    exact ⟨rfl, 0, rfl, by omega, rfl⟩
theorem x_sample {N R : Int} (hb0 : hb s h) (H : CV μ (97 - s) h) : con G 5 0 0 m_PM_sample [av_R (some 0), av_I N, av_I R] h (fun r h' => r = some (av_D (sdq μ N R)) ∧ hb s h' ∧ h' = h) := by
  have GG := H.2.2.1
  have b7 := GG.1.1
  have hc := H.1
  have h1 := H.2.1.1.1
  by_cases cc : N < 0 ∨ R < 1 ∨ 10000 < R
  · refine c_PM_sample (X23 := fun _ _ _ => False) (fun _ _ _ _ x => x.elim) hb0 (fun _ _ => ?_)
    unfold sdq
    rw [dif_t cc]
    unfold B_PM_sample_0 B_PM_sample_18
    exact ⟨fun _ => ⟨rfl, hb0, rfl⟩, fun q1 => ⟨fun _ => ⟨rfl, hb0, rfl⟩, fun q2 => ⟨fun q3 => absurd cc (by omega), fun _ => ⟨rfl, hb0, rfl⟩⟩⟩⟩
  · refine c_PM_sample (X23 := fun v3 v5 hh => hh = h ∧ N ≤ 2147483647 ∧ ∃ n : Nat, v5 = (n : Int) ∧ (n : Int) ≤ μ 0 7 ∧ v3 = sdA μ N R n) ?_ hb0 (fun i1 _ => ?_)
    · refine lp_PM_sample_23 _ (fun _ v5 _ => (10 - v5).toNat) ?_
      rintro v3 v5 hh hbh ⟨rfl, hN, n, rfl, hnl, rfl⟩
      unfold B_PM_sample_23 B_PM_sample_60
      intro x2 e2 _ _
      obtain rfl := e2.trans h1
      refine ⟨fun q => ⟨?_, hbh, rfl⟩, fun q => ?_⟩
      · unfold sdq
        rw [dif_f cc, show (μ 0 7).toNat = n by omega]
      · have hn : (n : Int) < μ 0 7 := by omega
        refine con_mono (t_Score_voiceAt hbh hc H.2.1) ?_
        rintro r h4 ⟨hb4, rfl, ⟨-, -, rfl⟩ | ⟨w, -⟩⟩
        · have ez : (n : Int).toNat = n := by omega
          rw [ez]
          refine ⟨_, rfl, hb4, Or.inr ⟨_, rfl, (CV_v H hn).1, ?_⟩⟩
          refine con_mono (x_addVoice hb4 H hn (by omega) (by omega) (sdA_b GG (by omega) (by omega) n hnl) (by omega)) ?_
          rintro r h7 ⟨rfl, hb7, rfl⟩
          exact ⟨_, rfl, hb7, ⟨by omega, by omega⟩, ⟨rfl, hN, n + 1, by omega, by omega, rfl⟩, by omega⟩
        · exact absurd ⟨by omega, hn⟩ w
    · unfold i32 at i1
      unfold B_PM_sample_0
      exact ⟨fun q => absurd (Or.inl q) cc, fun q1 => ⟨fun q => absurd (Or.inr (Or.inl q)) cc, fun q2 => ⟨fun q3 => ⟨rfl, by omega, 0, rfl, by omega, rfl⟩, fun q => absurd (Or.inr (Or.inr (by omega))) cc⟩⟩⟩
end
