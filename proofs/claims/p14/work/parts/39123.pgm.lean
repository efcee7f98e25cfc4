/-! ===== page: width of the class; the first time, reference ===== -/
noncomputable def widv (μ : pm_T) (w : Int) : Int := dif (0 ≤ w ∧ w < mbr μ (μ 0 7).toNat) (wdt μ w.toNat) (-1)
theorem mbr_b {μ : pm_T} (GG : GM μ) : ∀ n : Nat, (n : Int) ≤ μ 0 7 → mbr μ n ≤ 101
  | 0, _ => by rw [mbr]; decide
  | n + 1, h => by
    have ih := mbr_b GG n (by omega)
    have := (GG.2.2 n (by omega)).2.1
    rw [mbr]
    split <;> omega
theorem t_PM_width {G : cx_T} {s : Nat} {h : ah_T} {μ : pm_T} {w : Int} (hb0 : hb s h) (H : CV μ (97 - s) h) : con G 5 0 0 m_PM_width [av_R (some 0), av_I w] h (fun r h' => r = some (av_I (widv μ w)) ∧ hb s h' ∧ fr JWg h h') := by
  have GG := H.2.2.1
  have b7 := GG.1.1
  have mb := mbr_b GG (μ 0 7).toNat (by omega)
  refine c_PM_width hb0 (fun _ => ?_)
  unfold B_PM_width_0 B_PM_width_15 widv
  refine ⟨fun q => ⟨by rw [dif_f (by omega)], hb0, fr_0⟩, fun q => ?_⟩
  refine con_mono (t_Score_mostBars hb0 H.1 H.2.1) ?_
  rintro r h2 ⟨hb2, rfl, rfl⟩
  refine ⟨_, rfl, hb2, fun q2 => ?_, fun q2 => ⟨by rw [dif_f (by omega)], hb2, fr_0⟩⟩
  obtain ⟨b, rfl⟩ : ∃ b : Nat, w = b := ⟨w.toNat, by omega⟩
  refine con_mono (t_Page_widthOf hb2 H (by omega)) ?_
  rintro r h7 ⟨rfl, hb7, f7⟩
  exact ⟨_, rfl, hb7, by rw [tn_c, dif_t ⟨by omega, q2⟩], hb7, f7⟩
/-- which events are of bar b -/
theorem bar_e {μ : pm_T} (GG : GM μ) {n e b : Nat} (hn : (n : Int) < μ 0 7) (he : (e : Int) < μ (10 + n) 0) : μ (100 + 40 * n + 6) e = (b : Int) ↔ ((b : Int) < μ (10 + n) 1 ∧ brE μ n b ≤ e ∧ e < brE μ n (b + 1)) := by
  have V := (GG.1.2 n hn).2.2
  have x := (V.2 e he).1
  have y := (V.2 e he).2
  have v1 := V.1
  unfold brE
  constructor
  · intro w
    have hb1 : (b : Int) < μ (10 + n) 1 := by omega
    rw [if_pos hb1]
    have y0 := (y b hb1).mpr (by omega)
    refine ⟨hb1, by omega, ?_⟩
    split
    · rename_i c
      have y1 := y (b + 1) c
      have : ¬ μ (100 + 40 * n + 30) (b + 1) ≤ (e : Int) := fun q => by have := y1.mp q; omega
      omega
    · omega
  · rintro ⟨hb1, h1, h2⟩
    rw [if_pos hb1] at h1
    have r0 := v1 b hb1
    have y0 := (y b hb1).mp (by omega)
    split at h2
    · rename_i c
      have y1 := y (b + 1) c
      have : ¬ ((b + 1 : Nat) : Int) ≤ μ (100 + 40 * n + 6) e := fun q => by
        have := y1.mpr q
        have := v1 (b + 1) c
        omega
      omega
    · omega
section
variable {G : cx_T} {s b : Nat} {h : ah_T} {μ : pm_T}
theorem m_since {n e : Nat} (hb0 : hb s h) (GG : GM μ) (hn : (n : Int) < μ 0 7) (hf : brE μ n b ≤ e) (he : (e : Int) ≤ μ (10 + n) 0) : con G 2 0 0 m_MD_sum [av_R (some 170), av_L (smT μ n e), av_L (smB μ n e), av_L (-smT μ n (brE μ n b)), av_L (smB μ n (brE μ n b))] h (fun r h' => r = none ∧ hb s h' ∧ fr JWs h h' ∧ h'.2.2.1 170 65 = tmT μ b n e ∧ h'.2.2.1 170 66 = tmB μ b n e ∧ h'.2.1 = h.2.1) := by
  have xy := xy_b GG hn hf he
  have b0 := GM_b GG hn (brE μ n b)
  have b1 := GM_b GG hn e
  have p1 := pr_b b1.1 b1.2 b0.2
  have p2 := pr_b b0.1 b0.2 b1.2
  have en : -smT μ n (brE μ n b) * smB μ n e = -(smT μ n (brE μ n b) * smB μ n e) := Int.neg_mul _ _
  have ex : smT μ n e * smB μ n (brE μ n b) + -smT μ n (brE μ n b) * smB μ n e = xBr μ n (brE μ n b) e := by rw [en]; unfold xBr; omega
  have ey : smB μ n e * smB μ n (brE μ n b) = yBr μ n (brE μ n b) e := rfl
  refine con_mono (t_MD_sum hb0 (by omega) (by rw [en]; omega) (by rw [ex]; omega) (by rw [ey]; omega)) ?_
  rintro r h' ⟨rfl, hb', f, t1, t2, t3⟩
  rw [ex, ey] at t1 t2
  exact ⟨rfl, hb', fr_w f (fun a k w => w), t1, t2, t3⟩
theorem m_firstTime {n e : Nat} (hb0 : hb s h) (H : MV μ h) (hn : (n : Int) < μ 0 7) (he : (e : Int) < μ (10 + n) 0) (hbe : μ (100 + 40 * n + 6) e = (b : Int)) : con G 3 0 0 m_MD_isFirstTime [av_R (some 170), av_I (n : Int), av_I (300 * (n : Int) + (e : Int)), av_I (b : Int)] h (fun r h' => ∃ z : Int, r = some (av_I z) ∧ hb s h' ∧ fr JWs h h' ∧ h'.2.1 = h.2.1 ∧ ((z = 0 ∧ ¬ Fst μ b n e) ∨ (z = 1 ∧ Fst μ b n e))) := by
  have GG := H.2.1
  obtain ⟨-, -, hE, hB, n4⟩ := MV_n H hn
  obtain ⟨hb1, hf, hf2⟩ := (bar_e GG hn he).mp hbe
  obtain ⟨-, ⟨w0, w1, -⟩, -⟩ := MV_e H hn he
  obtain ⟨c1, c2⟩ := MV_b H hn (b := b) (Int.le_of_lt hb1)
  have key : ∀ (N : Nat) (v4 v6 v8 : Int) (hh : ah_T), hb s hh → (fr JWs h hh ∧ hh.2.1 = h.2.1 ∧ v4 = tmT μ b n e ∧ v6 = tmB μ b n e ∧ ∃ o : Nat, v8 = (o : Int) ∧ o ≤ n ∧ ∀ o' f, o' < o → ¬ (act μ b o' f ∧ brE μ o' b ≤ f ∧ tmT μ b o' f = tmT μ b n e ∧ tmB μ b o' f = tmB μ b n e)) → (10 - v8).toNat < N → aw G (rm_R 3 0 0) m_MD_isFirstTime 0 0 54 [some (av_R (some 170)), some (av_I (n : Int)), none, some (av_I (b : Int)), some (av_L v4), none, some (av_L v6), none, some (av_I v8), none, none] [] hh (fun r h' => ∃ z : Int, r = some (av_I z) ∧ hb s h' ∧ fr JWs h h' ∧ h'.2.1 = h.2.1 ∧ ((z = 0 ∧ ¬ Fst μ b n e) ∨ (z = 1 ∧ Fst μ b n e))) := by
    intro N
    induction N with
    | zero => intro v4 v6 v8 hh _ _ q; omega
    | succ N ih =>
      rintro v4 v6 v8 hh hbh ⟨f, ei, rfl, rfl, o, rfl, hon, al⟩ hN
      by_cases ho : o < n
      · have ho7 : (o : Int) < μ 0 7 := by omega
        have in63 : ∀ (a4 a6 a8 a9 : Int) (h' : ah_T), hb s h' → (fr JWs h h' ∧ h'.2.1 = h.2.1 ∧ a4 = tmT μ b n e ∧ a6 = tmB μ b n e ∧ a8 = (o : Int) ∧ ∃ j : Nat, a9 = (j : Int) ∧ (j : Int) ≤ μ (10 + o) 0 ∧ ∀ f, f < j → ¬ (act μ b o f ∧ brE μ o b ≤ f ∧ tmT μ b o f = tmT μ b n e ∧ tmB μ b o f = tmB μ b n e)) → aw G (rm_R 3 0 0) m_MD_isFirstTime 0 0 63 [some (av_R (some 170)), some (av_I (n : Int)), none, some (av_I (b : Int)), some (av_L a4), none, some (av_L a6), none, some (av_I a8), some (av_I a9), none] [] h' (fun r h' => ∃ z : Int, r = some (av_I z) ∧ hb s h' ∧ fr JWs h h' ∧ h'.2.1 = h.2.1 ∧ ((z = 0 ∧ ¬ Fst μ b n e) ∨ (z = 1 ∧ Fst μ b n e))) := by
          refine lp_MD_isFirstTime_63 (a1 := (n : Int)) (a2 := 300 * (n : Int) + (e : Int)) (a3 := (b : Int)) (X54 := fun v4 v6 v8 hh => (fr JWs h hh ∧ hh.2.1 = h.2.1 ∧ v4 = tmT μ b n e ∧ v6 = tmB μ b n e ∧ ∃ o : Nat, v8 = (o : Int) ∧ o ≤ n ∧ ∀ o' f, o' < o → ¬ (act μ b o' f ∧ brE μ o' b ≤ f ∧ tmT μ b o' f = tmT μ b n e ∧ tmB μ b o' f = tmB μ b n e)) ∧ v8 = (o : Int) + 1) (fun v4 v6 v8 hh hb' x => ih v4 v6 v8 hh hb' x.1 (by have := x.2; omega)) _ (fun _ _ _ a9 _ => (400 - a9).toNat) ?_
          rintro a4 a6 a8 a9 h' hb' ⟨f', ei', rfl, rfl, rfl, j, rfl, hj, alj⟩
          have H' := MV_f H f' JWs_w
          obtain ⟨o1, -, oE, oB, -⟩ := MV_n H' ho7
          unfold B_MD_isFirstTime_63 B_MD_isFirstTime_165
          refine ⟨by omega, ?_⟩
          rw [tn_c]
          intro x2 e2 _ _
          obtain rfl := e2.trans o1
          refine ⟨fun q => ⟨⟨by omega, by omega⟩, ⟨f', ei', rfl, rfl, o + 1, by omega, by omega, fun o' f'' q1 => ?_⟩, rfl⟩, fun q => ⟨⟨by omega, by omega⟩, ⟨by omega, by omega⟩, by omega, ?_⟩⟩
          · by_cases co : o' = o
            · subst co
              intro w
              have := act_b GG w.1
              exact alj f'' (by omega) w
            · exact al o' f'' (by omega)
          have hj' : (j : Int) < μ (10 + o) 0 := by omega
          obtain ⟨⟨-, -, y6⟩, ⟨u0, u1, -⟩, -⟩ := MV_e H' ho7 hj'
          have be := bar_e (b := b) GG ho7 hj'
          have step : ∀ {h2 : ah_T}, fr JWs h h2 → h2.2.1 = h.2.1 → ¬ (act μ b o j ∧ brE μ o b ≤ j ∧ tmT μ b o j = tmT μ b n e ∧ tmB μ b o j = tmB μ b n e) → ((-2147483648) ≤ ((j : Int) + 1) ∧ ((j : Int) + 1) ≤ 2147483647) ∧ ((fr JWs h h2 ∧ h2.2.1 = h.2.1 ∧ tmT μ b n e = tmT μ b n e ∧ tmB μ b n e = tmB μ b n e ∧ (o : Int) = (o : Int) ∧ ∃ j' : Nat, (j : Int) + 1 = (j' : Int) ∧ (j' : Int) ≤ μ (10 + o) 0 ∧ ∀ f, f < j' → ¬ (act μ b o f ∧ brE μ o b ≤ f ∧ tmT μ b o f = tmT μ b n e ∧ tmB μ b o f = tmB μ b n e)) ∧ (400 - ((j : Int) + 1)).toNat < (400 - (j : Int)).toNat) := fun f2 i2 nj => ⟨⟨by omega, by omega⟩, ⟨f2, i2, rfl, rfl, rfl, j + 1, by omega, by omega, fun f'' q1 => by
            by_cases cf : f'' = j
            · subst cf; exact nj
            · exact alj f'' (by omega)⟩, by omega⟩
          rw [nx300]
          intro x8 e8 _ _
          obtain rfl := e8.trans y6
          refine ⟨fun q2 x11 e11 _ _ x13 e13 _ _ => ?_, fun q2 => step f' ei' (fun w => q2 (be.mpr ⟨w.1.2.1, w.2.1, w.1.2.2⟩))⟩
          obtain ⟨k1, k2, k3⟩ := be.mp q2
          obtain ⟨d1, d2⟩ := MV_b H' ho7 (b := b) (Int.le_of_lt k1)
          obtain rfl := e11.trans u0
          obtain rfl := e13.trans u1
          have b0 := GM_b GG ho7 (brE μ o b)
          refine ⟨⟨by omega, by omega⟩, ⟨by omega, by omega⟩, by omega, ?_⟩
          rw [show (102 * (o : Int) + (b : Int)).toNat = 102 * o + b by omega]
          intro x17 e17 _ _
          obtain rfl := e17.trans d1
          refine ⟨⟨by omega, by omega⟩, fun x21 e21 _ _ => ?_⟩
          obtain rfl := e21.trans d2
          refine con_mono (m_since hb' GG ho7 k2 (Int.le_of_lt hj')) ?_
          rintro r h22 ⟨rfl, hb22, f22, t1, t2, i22⟩
          have f22' := fr_t f' f22 (fun _ _ w => w)
          have i22' := i22.trans ei'
          refine ⟨rfl, hb22, fun x25 e25 _ _ => ⟨fun q3 x27 e27 _ _ => ⟨fun q4 => ⟨0, rfl, hb22, f22', i22', Or.inl ⟨rfl, fun w => w ⟨o, j, ho, ⟨ho7, k1, k3⟩, k2, ?_, ?_⟩⟩⟩, fun q4 => step f22' i22' (fun w => q4 ?_)⟩, fun q3 => step f22' i22' (fun w => q3 ?_)⟩⟩
          · rw [← t1, ← e25]; exact q3
          · rw [← t2, ← e27]; exact q4
          · rw [e27, t2]; exact w.2.2.2
          · rw [e25, t1]; exact w.2.2.1
        refine b_MD_isFirstTime_54 (a2 := 300 * (n : Int) + (e : Int)) in63 hbh ?_
        unfold B_MD_isFirstTime_54
        have oE := (GG.2.2 o ho7).1
        exact ⟨fun q => by omega, fun q => ⟨f, ei, rfl, rfl, rfl, 0, rfl, by omega, fun f'' q1 => by omega⟩⟩
      · refine b_MD_isFirstTime_54 (a2 := 300 * (n : Int) + (e : Int)) (X63 := fun _ _ _ _ _ => False) (fun _ _ _ _ _ _ x => x.elim) hbh ?_
        unfold B_MD_isFirstTime_54
        refine ⟨fun q => ⟨1, rfl, hbh, f, ei, Or.inr ⟨rfl, ?_⟩⟩, fun q => by omega⟩
        rintro ⟨o', f'', q1, q2⟩
        exact al o' f'' (by omega) q2
  refine c_MD_isFirstTime (X54 := fun v4 v6 v8 hh => fr JWs h hh ∧ hh.2.1 = h.2.1 ∧ v4 = tmT μ b n e ∧ v6 = tmB μ b n e ∧ ∃ o : Nat, v8 = (o : Int) ∧ o ≤ n ∧ ∀ o' f, o' < o → ¬ (act μ b o' f ∧ brE μ o' b ≤ f ∧ tmT μ b o' f = tmT μ b n e ∧ tmB μ b o' f = tmB μ b n e)) (fun v4 v6 v8 hh hb' x => key ((10 - v8).toNat + 1) v4 v6 v8 hh hb' x (Nat.lt_succ_self _)) hb0 (fun _ _ _ => ?_)
  unfold B_MD_isFirstTime_0
  have b0 := GM_b GG hn (brE μ n b)
  refine ⟨by omega, ?_⟩
  rw [nx300]
  intro x2 e2 _ _ x5 e5 _ _
  obtain rfl := e2.trans w0
  obtain rfl := e5.trans w1
  refine ⟨⟨by omega, by omega⟩, ⟨by omega, by omega⟩, by omega, ?_⟩
  rw [show (102 * (n : Int) + (b : Int)).toNat = 102 * n + b by omega]
  intro x9 e9 _ _
  obtain rfl := e9.trans c1
  refine ⟨⟨by omega, by omega⟩, fun x13 e13 _ _ => ?_⟩
  obtain rfl := e13.trans c2
  refine con_mono (m_since hb0 GG hn hf (Int.le_of_lt he)) ?_
  rintro r h14 ⟨rfl, hb14, f14, t1, t2, i14⟩
  exact ⟨rfl, hb14, fun x17 e17 _ _ x18 e18 _ _ => ⟨f14, i14, e17.trans t1, e18.trans t2, 0, rfl, Nat.zero_le _, fun o' f'' q1 => by omega⟩⟩
end
