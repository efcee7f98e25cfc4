/-! ===== sample, the reference ===== -/
theorem land1 {x z : Int} (e : z = ((Int64.ofInt x) &&& (Int64.ofInt 1)).toInt) (h0 : 0 ≤ x) (h1 : x ≤ 9223372036854775807) (lz : -9223372036854775808 ≤ z) (uz : z ≤ 9223372036854775807) : z = x % 2 := by
  have u : uL z = uL x &&& 1 := (congrArg uL e).trans (uL_and (m := 1) (by decide))
  rw [Nat.and_one_is_mod] at u
  have a := uL_e x
  have b := uL_e z
  omega
abbrev SW5 : Nat → Nat → Prop := fun x k => x = 170 ∧ (k = 65 ∨ k = 66)
/-- two ways to one fraction -/
theorem fq {x9 x10 U D v9 v11 rl K sT sB T B : Int} (h11 : 1 ≤ v11) (a : x9 * sB = U * x10) (b : U * v11 = v9 * D) (c : v9 * rl = K * v11) (d : sT * B = T * sB) : x9 * sT * (B * rl) = T * K * (x10 * D) := by
  have e1 : rl * U = K * D := by
    have e2 : v11 * (rl * U) = v11 * (K * D) := by
      calc v11 * (rl * U) = rl * (U * v11) := by ac_rfl
        _ = rl * (v9 * D) := by rw [b]
        _ = (v9 * rl) * D := by ac_rfl
        _ = K * v11 * D := by rw [c]
        _ = v11 * (K * D) := by ac_rfl
    exact Int.eq_of_mul_eq_mul_left (by omega) e2
  calc x9 * sT * (B * rl) = x9 * (sT * B) * rl := by ac_rfl
    _ = x9 * (T * sB) * rl := by rw [d]
    _ = T * rl * (x9 * sB) := by ac_rfl
    _ = T * rl * (U * x10) := by rw [a]
    _ = T * (rl * U) * x10 := by ac_rfl
    _ = T * (K * D) * x10 := by rw [e1]
    _ = T * K * (x10 * D) := by ac_rfl
theorem rch_g {μ : pm_T} {n e : Nat} {N R g t l : Int} (hg : 1 ≤ g) (e1 : N = g * t) (e2 : R = g * l) : Rch μ n e N R ↔ 2 * smT μ n e * l ≤ t * smB μ n e := by
  unfold Rch
  have x1 : 2 * smT μ n e * R = g * (2 * smT μ n e * l) := by rw [e2]; ac_rfl
  have x2 : N * smB μ n e = g * (t * smB μ n e) := by rw [e1, Int.mul_assoc]
  rw [x1, x2]
  exact ⟨fun h => Int.le_of_mul_le_mul_left h (by omega), fun h => Int.mul_le_mul_of_nonneg_left h (by omega)⟩
theorem w_rd {a b : Int} (h0 : 0 ≤ a) (h1 : 1 ≤ b) : rdT a b * b = a * rdB a b := by
  obtain ⟨-, -, g, hg, e1, e2⟩ := rd_pos h0 h1
  calc rdT a b * b = rdT a b * (g * rdB a b) := by rw [← e2]
    _ = (g * rdT a b) * rdB a b := by ac_rfl
    _ = a * rdB a b := by rw [← e1]
section
variable {G : cx_T} {s n e : Nat} {h : ah_T} {μ : pm_T} {N R : Int}
theorem y_ratioTop {i : Int} (hb0 : hb s h) (h0 : 0 ≤ i) (h1 : i < 12) : con G 0 0 0 m_MD_ratioTop [av_R (some 170), av_I i] h (fun r h' => r = some (av_I (rtop i)) ∧ hb s h' ∧ h' = h) := by
  refine c_MD_ratioTop hb0 (fun _ => ?_)
  unfold B_MD_ratioTop_0
  refine ⟨fun q => ?_, fun q => ?_, fun q => ?_, fun q => ?_, fun q => ?_, fun q => ?_, fun q => ?_, fun q => ?_, fun q => ?_, fun q => ?_, fun q => ?_, fun q => ?_⟩
  all_goals first | (subst q; exact ⟨rfl, hb0, rfl⟩) | (have z : i = 0 := (by omega); subst z; exact ⟨rfl, hb0, rfl⟩)
theorem y_ratioLow {i : Int} (hb0 : hb s h) (h0 : 0 ≤ i) (h1 : i < 12) : con G 0 0 0 m_MD_ratioLow [av_R (some 170), av_I i] h (fun r h' => r = some (av_I (rlow i)) ∧ hb s h' ∧ h' = h) := by
  refine c_MD_ratioLow hb0 (fun _ => ?_)
  unfold B_MD_ratioLow_0
  refine ⟨fun q => ?_, fun q => ?_, fun q => ?_, fun q => ?_, fun q => ?_, fun q => ?_, fun q => ?_, fun q => ?_, fun q => ?_, fun q => ?_, fun q => ?_, fun q => ?_⟩
  all_goals first | (subst q; exact ⟨rfl, hb0, rfl⟩) | (have z : i = 0 := (by omega); subst z; exact ⟨rfl, hb0, rfl⟩)
theorem y_product {a b m : Int} (hb0 : hb s h) (ha : 0 ≤ a ∧ a ≤ 4611686018427387904) (hb1 : 0 ≤ b) (hm : 1 ≤ m ∧ m ≤ 2305843009213693952) : con G 0 0 0 m_MD_product [av_R (some 170), av_L a, av_L b, av_L m] h (fun r h' => r = some (av_L (a * b % m)) ∧ hb s h' ∧ h' = h) := by
  refine c_MD_product (X12 := fun v7 v9 v11 hh => hh = h ∧ (0 ≤ v7 ∧ v7 < m) ∧ (0 ≤ v9 ∧ v9 < m) ∧ (0 ≤ v11 ∧ v11 ≤ 4611686018427387904) ∧ (v7 + v9 * v11) % m = a * b % m) ?_ hb0 (fun _ _ _ => ?_)
  · refine lp_MD_product_12 (a1 := a) (a2 := b) _ (fun _ _ v11 _ => v11.toNat) ?_
    rintro v7 v9 v11 hh hbh ⟨rfl, h7, h9, h11, eq⟩
    unfold B_MD_product_12 B_MD_product_38
    refine ⟨fun q => ⟨?_, hbh, rfl⟩, fun q x2 e2 l2 u2 => ?_⟩
    · have z : v11 = 0 := by omega
      rw [z, Int.mul_zero, Int.add_zero, Int.emod_eq_of_lt h7.1 h7.2] at eq
      rw [eq]
    · have b2 := land1 e2 h11.1 (by omega) l2 u2
      have tail : ∀ (w : Int), (0 ≤ w ∧ w < m) → (w + 2 * v9 * (v11 / 2)) % m = a * b % m → (-9223372036854775808 ≤ (2 * v9) ∧ (2 * v9) ≤ 9223372036854775807) ∧ (m ≠ 0) ∧ ∀ x2 : Int, x2 = ((2 * v9)).tmod m → -9223372036854775808 ≤ x2 → x2 ≤ 9223372036854775807 → ∀ x3 : Int, x3 = ((Int64.ofInt v11) >>> ((Int32.ofInt 1).toInt64 &&& 63)).toInt → -9223372036854775808 ≤ x3 → x3 ≤ 9223372036854775807 → (hh = hh ∧ (0 ≤ w ∧ w < m) ∧ (0 ≤ x2 ∧ x2 < m) ∧ (0 ≤ x3 ∧ x3 ≤ 4611686018427387904) ∧ (w + x2 * x3) % m = a * b % m) ∧ x3.toNat < v11.toNat := by
        intro w hw hq
        refine ⟨⟨by omega, by omega⟩, by omega, fun x2 e2 _ _ x3 e3 _ _ => ?_⟩
        have s3 := lshr1 e3 h11.1 (by omega)
        rw [Int.tmod_eq_emod_of_nonneg (by omega)] at e2
        have n0 := Int.emod_nonneg (2 * v9) (by omega : m ≠ 0)
        have n1 := Int.emod_lt_of_pos (2 * v9) (by omega : 0 < m)
        rw [← e2] at n0 n1
        refine ⟨⟨rfl, hw, ⟨n0, n1⟩, ⟨by omega, by omega⟩, ?_⟩, by omega⟩
        rw [s3, e2, Int.add_emod, Int.mul_emod, Int.emod_emod, ← Int.mul_emod, ← Int.add_emod]
        exact hq
      refine ⟨fun c => ⟨⟨by omega, by omega⟩, by omega, fun x5 e5 _ _ => ?_⟩, fun c => ?_⟩
      · rw [Int.tmod_eq_emod_of_nonneg (by omega)] at e5
        have n0 := Int.emod_nonneg (v7 + v9) (by omega : m ≠ 0)
        have n1 := Int.emod_lt_of_pos (v7 + v9) (by omega : 0 < m)
        rw [← e5] at n0 n1
        refine tail x5 ⟨n0, n1⟩ ?_
        rw [e5, Int.emod_add_emod, ← eq]
        have e6 : v11 = 2 * (v11 / 2) + 1 := by omega
        have e7 : v9 * v11 = 2 * v9 * (v11 / 2) + v9 := by
          calc v9 * v11 = v9 * (2 * (v11 / 2) + 1) := by rw [← e6]
            _ = v9 * (2 * (v11 / 2)) + v9 := by rw [Int.mul_add, Int.mul_one]
            _ = 2 * v9 * (v11 / 2) + v9 := by rw [← Int.mul_assoc, Int.mul_comm v9 2]
        rw [e7]
        congr 1
        omega
      · refine tail v7 h7 ?_
        rw [← eq]
        have e6 : v11 = 2 * (v11 / 2) := by omega
        have e7 : v9 * v11 = 2 * v9 * (v11 / 2) := by
          calc v9 * v11 = v9 * (2 * (v11 / 2)) := by rw [← e6]
            _ = 2 * v9 * (v11 / 2) := by rw [← Int.mul_assoc, Int.mul_comm v9 2]
        rw [e7]
  · unfold B_MD_product_0
    refine ⟨by omega, fun x1 e1 _ _ => ?_⟩
    rw [Int.tmod_eq_emod_of_nonneg hb1] at e1
    have n0 := Int.emod_nonneg b (by omega : m ≠ 0)
    have n1 := Int.emod_lt_of_pos b (by omega : 0 < m)
    rw [← e1] at n0 n1
    refine ⟨rfl, ⟨by omega, by omega⟩, ⟨n0, n1⟩, ha, ?_⟩
    rw [Int.zero_add, e1, Int.mul_comm a b, Int.mul_emod, Int.emod_emod, ← Int.mul_emod]
theorem y_snd {T B a1 : Int} {t0 : UInt64} {h0 : ah_T} (hb0 : hb s h) (f0 : fr SW5 h0 h) (H : MV μ h) (hn : (n : Int) < μ 0 7) (he : (e : Int) < μ (10 + n) 0) (hT : 0 ≤ T ∧ T ≤ 20000000000000) (hB : 1 ≤ B ∧ B ≤ 10000000000) (ht : fbn t0 1 66) : B_MD_sound_214 G s a1 (rdT T B) (rdB T B) (300 * (n : Int) + (e : Int)) t0 h (fun r h' => r = some (av_D (snw t0 (fad T B (μ (100 + 40 * n + 2) e) (μ (100 + 40 * n + 3) e)))) ∧ hb s h' ∧ fr SW5 h0 h') := by
  obtain ⟨-, -, hE, -, n4⟩ := MV_n H hn
  obtain ⟨-, ⟨z0, z1, z2, z3⟩, -⟩ := MV_e H hn he
  have GG := H.2.1
  have L := ((GG.2.2 n hn).2.2.2.1 e he).2.2.2.2.2.1
  have d1 := dvd_b hT.1 hB.1 (by omega) (by omega)
  have d2 := dvd_b (a := 2 * μ (100 + 40 * n + 2) e) (b := μ (100 + 40 * n + 3) e) (by omega) L.2.2.1 (by omega) (by omega)
  have F := fad_b d1.1 (d2.2.2 (by omega))
  have W := snw_b ht F.2.2
  unfold B_MD_sound_214
  rw [nx300]
  refine ⟨d1.2.1, by omega, fun x2 e2 _ _ => ?_⟩
  obtain rfl := e2.trans z2
  refine ⟨⟨by omega, by omega⟩, fun x6 e6 _ _ => ?_⟩
  obtain rfl := e6.trans z3
  refine con_mono (t_MD_fraction hb0 (by omega) L.2.2.1) ?_
  rintro r h7 ⟨rfl, hb7, f7, c65, c66, -⟩
  refine ⟨rfl, hb7, fun x10 e10 _ _ x11 e11 _ _ => ?_⟩
  obtain rfl := e10.trans c65
  obtain rfl := e11.trans c66
  exact ⟨d2.2.1, F.1, F.2.1, W.1, W.2.1, rfl, hb7, fr_t f0 f7 (fun _ _ w => w)⟩
theorem y_sound {T B key : Int} (hb0 : hb s h) (H : MV μ h) (hn : (n : Int) < μ 0 7) (he : (e : Int) < μ (10 + n) 0) (hk : -2 ≤ key ∧ key ≤ 109) (hT : 0 ≤ T ∧ T ≤ 20000000000000) (hB : 1 ≤ B ∧ B ≤ 10000000000) : con G 2 0 0 m_MD_sound [av_R (some 170), av_I key, av_L (rdT T B), av_L (rdB T B), av_I (300 * (n : Int) + (e : Int))] h (fun r h' => r = some (av_D (snw (wvk key T B) (fad T B (μ (100 + 40 * n + 2) e) (μ (100 + 40 * n + 3) e)))) ∧ hb s h' ∧ fr SW5 h h') := by
  have rt := rt_b (i := key % 12) (by omega) (by omega)
  have kb := kto_b hk.1 hk.2
  obtain ⟨⟨t0, t1⟩, ⟨b0, b1⟩, -⟩ := rd_pos hT.1 hB.1
  have hd := w_rd hT.1 hB.1
  have w1 : 1 ≤ B * rlow (key % 12) ∧ B * rlow (key % 12) ≤ 10000000000 * 32 := ⟨by have := Int.mul_le_mul hB.1 rt.2.1 (by decide) (by omega : 0 ≤ B); omega, (mlb (by omega) hB.2 (by omega) rt.2.2).2⟩
  have w2 := Int.emod_nonneg (T * kto key) (by omega : B * rlow (key % 12) ≠ 0)
  have w3 := Int.emod_lt_of_pos (T * kto key) (by omega : 0 < B * rlow (key % 12))
  have D := dvd_b w2 w1.1 (by omega) (by omega)
  have X66 : ∀ (v9 v11 v13 : Int) (hh : ah_T), hb s hh → (hh = h ∧ ((0 ≤ v13 ∧ v9 * rlow (key % 12) = kto key * v11 ∧ (0 ≤ v9 ∧ v9 ≤ 1000000) ∧ 1 ≤ v11 ∧ v11 ≤ 64) ∨ (v13 = -1 ∧ key / 12 = -1 ∧ v9 = 16 * rtop (key % 12) ∧ v11 = rlow (key % 12)))) → aw G (rm_R 2 0 0) m_MD_sound 0 0 66 [some (av_R (some 170)), none, some (av_L (rdT T B)), none, some (av_L (rdB T B)), none, some (av_I (300 * (n : Int) + (e : Int))), none, none, some (av_L v9), none, some (av_L v11), none, some (av_I v13), none, none, none, none, none, none, none, none, none, none, none, none, none, none, none, none, none] [] hh (fun r h' => r = some (av_D (snw (wvk key T B) (fad T B (μ (100 + 40 * n + 2) e) (μ (100 + 40 * n + 3) e)))) ∧ hb s h' ∧ fr SW5 h h') := by
    refine lp_MD_sound_66 (a1 := key) _ (fun _ _ v13 _ => (5 - v13).toNat) ?_
    rintro v9 v11 v13 hh hbh ⟨rfl, I⟩
    unfold B_MD_sound_66
    refine ⟨fun q => ?_, fun q => ?_⟩
    · obtain ⟨-, c, hv9, hv11⟩ : 0 ≤ v13 ∧ v9 * rlow (key % 12) = kto key * v11 ∧ (0 ≤ v9 ∧ v9 ≤ 1000000) ∧ 1 ≤ v11 ∧ v11 ≤ 64 := by
        rcases I with I | ⟨i1, -⟩
        · exact I
        · omega
      obtain ⟨⟨U0, U1⟩, ⟨D0, D1⟩, -⟩ := rd_pos hv9.1 hv11.1
      have hUD := w_rd hv9.1 hv11.1
      refine con_mono (t_MD_fraction hbh hv9.1 hv11.1) ?_
      rintro r h1 ⟨rfl, hb1, f1, c65, c66, -⟩
      refine ⟨rfl, hb1, fun x4 e4 _ _ x5 e5 _ _ => ?_⟩
      obtain rfl := e4.trans c65
      obtain rfl := e5.trans c66
      refine con_mono (t_MD_divisor hb1 U0 (by omega)) ?_
      rintro r h6 ⟨z8, rfl, hb6, rfl, ez⟩
      obtain ⟨g1, g2⟩ := gcd_r (a := rdT v9 v11) b0
      rw [← ez] at g1
      refine ⟨z8, rfl, hb6, by omega, fun x9 e9 _ _ => ⟨by omega, fun x10 e10 _ _ => ?_⟩⟩
      have q9 : x9 = rdT (rdT v9 v11) (rdB T B) := by rw [e9, w64_d U0 (by omega) (by omega), ez]; rfl
      have q10 : x10 = rdB (rdT v9 v11) (rdB T B) := by rw [e10, w64_d (by omega) (by omega) (by omega), ez]; rfl
      obtain ⟨⟨A0, A1⟩, ⟨B0, B1⟩, -⟩ := rd_pos (x := rdT v9 v11) (y := rdB T B) U0 b0
      have hA := w_rd (a := rdT v9 v11) (b := rdB T B) U0 b0
      rw [← q9, ← q10] at hA
      rw [← q9] at A0 A1
      rw [← q10] at B0 B1
      have main := fq hv11.1 hA hUD c hd
      intro x11 e11
      have m11 := mlb (x := x10) (X := 10000000000) (y := rdB v9 v11) (Y := 64) (by omega) (by omega) (by omega) (by omega)
      have m12 := Int.mul_le_mul B0 D0 (by decide) (by omega : 0 ≤ x10)
      rw [← e11] at m11 m12 main
      refine ⟨⟨by omega, by omega⟩, ?_⟩
      refine con_mono (y_product hb6 ⟨A0, by omega⟩ t0 ⟨by omega, by omega⟩) ?_
      rintro r h13 ⟨rfl, hb13, rfl⟩
      refine ⟨_, rfl, hb13, ?_⟩
      have p0 := Int.emod_nonneg (x9 * rdT T B) (by omega : x11 ≠ 0)
      have p1 := Int.mul_nonneg A0 t0
      have p2 := Int.mul_nonneg hT.1 (by omega : 0 ≤ kto key)
      have same : dvd (x9 * rdT T B % x11) x11 = dvd (T * kto key % (B * rlow (key % 12))) (B * rlow (key % 12)) := dvd_q (by omega) w1.1 (rem_q p1 p2 (by omega) w1.1 main)
      refine con_mono (t_MD_fraction hb13 p0 (by omega)) ?_
      rintro r h16 ⟨rfl, hb16, f16, d65, d66, -⟩
      refine ⟨rfl, hb16, fun x19 e19 _ _ x20 e20 _ _ => ?_⟩
      obtain rfl := e19.trans d65
      obtain rfl := e20.trans d66
      have ff : fr SW5 hh h16 := fr_t f1 f16 (fun _ _ w => w)
      have H16 := MV_f H ff (fun a k w => Or.inl w.1)
      have W := wvx_b D.1
      have y : ∀ t : UInt64, wvk key T B = t → B_MD_sound_214 G s key (rdT T B) (rdB T B) (300 * (n : Int) + (e : Int)) t h16 (fun r h' => r = some (av_D (snw (wvk key T B) (fad T B (μ (100 + 40 * n + 2) e) (μ (100 + 40 * n + 3) e)))) ∧ hb s h' ∧ fr SW5 hh h') := by
        intro t ht
        rw [← ht]
        exact y_snd hb16 ff H16 hn he hT hB W.2.2.2
      have hu : FP.ddiv (FP.l2d (Int64.ofInt (rdT (x9 * rdT T B % x11) x11))) (FP.l2d (Int64.ofInt (rdB (x9 * rdT T B % x11) x11))) = dvd (T * kto key % (B * rlow (key % 12))) (B * rlow (key % 12)) := same
      rw [hu]
      refine ⟨D.2.1, fun x21 e21 _ _ => ⟨fun c1 x22 e22 _ _ => ⟨fun c2 => ⟨W.1, W.2.1, y _ ?_⟩, fun c2 => ⟨W.1, W.2.2.1, y _ ?_⟩⟩, fun c1 => ⟨W.1, y _ ?_⟩⟩⟩
      · unfold wvk wvx cmd
        rw [← e21, ← e22, if_pos c1, if_pos c2]
      · unfold wvk wvx cmd
        rw [← e21, ← e22, if_pos c1, if_neg c2]
      · unfold wvk wvx cmd
        rw [← e21, if_neg c1]
    · rcases I with I | ⟨i1, i2, rfl, rfl⟩
      · omega
      · refine ⟨⟨by omega, by omega⟩, ⟨by omega, by omega⟩, ⟨rfl, Or.inl ⟨by omega, ?_, ⟨by omega, by omega⟩, by omega, by omega⟩⟩, by omega⟩
        have e0 : (2 : Int) ^ ((-1 : Int) + 1).toNat = 1 := by decide
        unfold kto
        rw [i2, e0]
        generalize rtop (key % 12) = x
        generalize rlow (key % 12) = y
        rw [Int.mul_assoc 16 x y, Int.mul_assoc (8 * 1) x (2 * y), Int.mul_left_comm x 2 y]
        omega
  refine c_MD_sound (X41 := fun v8 v9 v11 v13 hh => hh = h ∧ v8 = key / 12 ∧ v11 = rlow (key % 12) ∧ ∃ i : Nat, v13 = (i : Int) ∧ (i = 0 ∨ (i : Int) ≤ key / 12) ∧ v9 = 16 * rtop (key % 12) * 2 ^ i) ?_ hb0 (fun _ _ _ _ => ?_)
  · refine lp_MD_sound_41 (a1 := key) X66 _ (fun _ _ _ v13 _ => (20 - v13).toNat) ?_
    rintro v8 v9 v11 v13 hh hbh ⟨rfl, rfl, rfl, i, rfl, hi, rfl⟩
    have pi := p2b i (by omega)
    have m := mlb (x := 16 * rtop (key % 12)) (X := 720) (y := 2 ^ i) (Y := 1024) (by omega) (by omega) (by omega) pi.2
    unfold B_MD_sound_41
    refine ⟨fun q => ⟨rfl, ?_⟩, fun q => ⟨⟨by omega, by omega⟩, ⟨by omega, by omega⟩, ⟨rfl, rfl, rfl, i + 1, by omega, by omega, ?_⟩, by omega⟩⟩
    · by_cases o : 0 ≤ key / 12
      · refine Or.inl ⟨o, ?_, ⟨m.1, by omega⟩, by omega, by omega⟩
        unfold kto
        rw [show (key / 12 + 1).toNat = i + 1 by omega, Int.pow_succ]
        generalize (2 : Int) ^ i = P
        rw [show 8 * (P * 2) = 16 * P by omega]
        ac_rfl
      · obtain rfl : i = 0 := by omega
        exact Or.inr ⟨by omega, by omega, by rw [Int.pow_zero, Int.mul_one], rfl⟩
    · rw [Int.pow_succ]
      ac_rfl
  · unfold B_MD_sound_0
    refine con_mono (m_modulo hb0) ?_
    rintro r h1 ⟨z, rfl, hb1, rfl, rfl⟩
    refine ⟨_, rfl, hb1, ⟨by omega, by omega⟩, fun x5 e5 _ _ => ?_⟩
    have q5 : x5 = key / 12 := by
      rw [e5, show key - key % 12 = 12 * (key / 12) by omega, Int.mul_tdiv_cancel_left _ (by decide)]
      exact w32_id (by unfold i32; omega)
    refine con_mono (y_ratioTop hb1 (by omega) (by omega)) ?_
    rintro r h6 ⟨rfl, hb6, rfl⟩
    refine ⟨_, rfl, hb6, ⟨by omega, by omega⟩, ?_⟩
    refine con_mono (y_ratioLow hb6 (by omega) (by omega)) ?_
    rintro r h10 ⟨rfl, hb10, rfl⟩
    exact ⟨_, rfl, hb10, rfl, q5, rfl, 0, rfl, Or.inl rfl, by rw [Int.pow_zero, Int.mul_one]⟩
theorem y_sample (hb0 : hb s h) (H : MV μ h) : con G 4 0 0 m_MD_sample [av_R (some 170), av_I N, av_I R] h (fun r h' => r = some (av_D (sdq μ N R)) ∧ hb s h' ∧ fr SW5 h h') := by
  have GG := H.2.1
  have b7 := GG.1.1
  by_cases cc : N < 0 ∨ R < 1 ∨ 10000 < R
  · refine c_MD_sample (X23 := fun _ _ _ => False) (fun _ _ _ _ x => x.elim) hb0 (fun _ _ => ?_)
    unfold sdq
    rw [dif_t cc]
    unfold B_MD_sample_0 B_MD_sample_16
    exact ⟨fun _ => ⟨rfl, hb0, fr_0⟩, fun q1 => ⟨fun _ => ⟨rfl, hb0, fr_0⟩, fun q2 => ⟨fun q3 => absurd cc (by omega), fun _ => ⟨rfl, hb0, fr_0⟩⟩⟩⟩
  · have hN : 0 ≤ N := by omega
    have hR : 1 ≤ R ∧ R ≤ 10000 := by omega
    unfold sdq
    rw [dif_f cc]
    obtain ⟨⟨g0, g1⟩, ⟨l0, l1⟩, g, hg, eN, eR⟩ := rd_pos hN hR.1
    have key : N ≤ 2147483647 → ∀ (F : Nat) (v3 : UInt64) (v5 : Int) (hh : ah_T), hb s hh → (fr SW5 h hh ∧ ∃ n : Nat, v5 = (n : Int) ∧ (n : Int) ≤ μ 0 7 ∧ v3 = sdA μ N R n) → (10 - v5).toNat < F → aw G (rm_R 4 0 0) m_MD_sample 0 0 23 [some (av_R (some 170)), some (av_I N), some (av_I R), some (av_D v3), none, some (av_I v5), none, none, none, none, none, none, none, none, none, none, none] [] hh (fun r h' => r = some (av_D (sdA μ N R (μ 0 7).toNat)) ∧ hb s h' ∧ fr SW5 h h') := by
      intro hN2 F
      induction F with
      | zero => intro v3 v5 hh _ _ q; omega
      | succ F ih =>
        rintro v3 v5 hh hbh ⟨f, n, rfl, hnl, rfl⟩ hF
        have H1 := MV_f H f (fun a k w => Or.inl w.1)
        by_cases hn : (n : Int) < μ 0 7
        · have in37 : ∀ (F2 : Nat) (v3 : UInt64) (v5 v6 : Int) (hh : ah_T), hb s hh → (fr SW5 h hh ∧ v5 = (n : Int) ∧ ∃ e : Nat, v6 = (e : Int) ∧ (e : Int) ≤ μ (10 + n) 0 ∧ v3 = sdV μ n N R (sdA μ N R n) e) → (400 - v6).toNat < F2 → aw G (rm_R 4 0 0) m_MD_sample 0 0 37 [some (av_R (some 170)), some (av_I N), some (av_I R), some (av_D v3), none, some (av_I v5), some (av_I v6), none, none, none, none, none, none, none, none, none, none] [] hh (fun r h' => r = some (av_D (sdA μ N R (μ 0 7).toNat)) ∧ hb s h' ∧ fr SW5 h h') := by
            intro F2
            induction F2 with
            | zero => intro v3 v5 v6 hh _ _ q; omega
            | succ F2 ih2 =>
              rintro v3 v5 v6 hh hbh ⟨f, rfl, e, rfl, hel, rfl⟩ hF2
              have H1 := MV_f H f (fun a k w => Or.inl w.1)
              obtain ⟨o1, -, hE, -, n4⟩ := MV_n H1 hn
              have in229 : ∀ (v3 : UInt64) (v5 v6 v7 v12 v14 v16 : Int) (hh : ah_T), hb s hh → ((e : Int) < μ (10 + n) 0 ∧ (fr SW5 h hh ∧ v5 = (n : Int) ∧ v6 = (e : Int) ∧ v7 = 300 * (n : Int) + (e : Int) ∧ v12 = rdT (snT μ n e N R) (snB μ n e R) ∧ v14 = rdB (snT μ n e N R) (snB μ n e R) ∧ (Rch μ n e N R ∧ ¬ Rch μ n (e + 1) N R) ∧ ∃ k : Nat, v16 = (k : Int) ∧ (k : Int) ≤ pt μ n e ∧ v3 = sdE μ n e N R (sdV μ n N R (sdA μ N R n) e) k)) → aw G (rm_R 4 0 0) m_MD_sample 0 0 229 [some (av_R (some 170)), some (av_I N), some (av_I R), some (av_D v3), none, some (av_I v5), some (av_I v6), some (av_I v7), none, none, none, none, some (av_L v12), none, some (av_L v14), none, some (av_I v16)] [] hh (fun r h' => r = some (av_D (sdA μ N R (μ 0 7).toNat)) ∧ hb s h' ∧ fr SW5 h h') := by
                refine lp_MD_sample_229 (X37 := fun v3 v5 v6 hh => (fr SW5 h hh ∧ v5 = (n : Int) ∧ ∃ e : Nat, v6 = (e : Int) ∧ (e : Int) ≤ μ (10 + n) 0 ∧ v3 = sdV μ n N R (sdA μ N R n) e) ∧ v6 = (e : Int) + 1) (fun v3 v5 v6 hh hb' x => ih2 v3 v5 v6 hh hb' x.1 (by have := x.2; omega)) _ (fun _ _ _ _ _ _ v16 _ => (10 - v16).toNat) ?_
                rintro v3 v5 v6 v7 v12 v14 v16 h' hb' ⟨he, f', rfl, rfl, rfl, rfl, rfl, rc, k, rfl, hk, rfl⟩
                have H' := MV_f H f' (fun a k w => Or.inl w.1)
                obtain ⟨⟨y1, -, -⟩, -, pb, ky'⟩ := MV_e H' hn he
                have sb := sn_b GG hn hN hR rc.1 rc.2
                have M4 := ((GG.2.2 n hn).2.2.2.1 e he)
                have L := M4.2.2.2.2.2.1
                unfold B_MD_sample_229
                refine ⟨by omega, ?_⟩
                rw [nx300]
                intro x2 e2 _ _
                obtain rfl := e2.trans y1
                refine ⟨fun q => ?_, fun q => ⟨⟨by omega, by omega⟩, ⟨by omega, by omega⟩, by omega, ?_⟩⟩
                · unfold B_MD_sample_272
                  refine ⟨⟨by omega, by omega⟩, ⟨f', rfl, e + 1, by omega, by omega, ?_⟩, rfl⟩
                  rw [sdV, dif_t rc, show (pt μ n e).toNat = k by omega]
                · rw [show (4 * (300 * (n : Int) + (e : Int)) + (k : Int)).toNat = 4 * (300 * n + e) + k by omega]
                  intro x7 e7 _ _
                  obtain rfl := e7.trans (ky' k (by omega))
                  have K := (M4.2.2.2.2.2.2.1 k (by unfold pt at q; omega)).1
                  refine con_mono (y_sound hb' H' hn he K sb.1 sb.2) ?_
                  rintro r h9 ⟨rfl, hb9, f9⟩
                  have d1 := dvd_b sb.1.1 sb.2.1 (by omega) (by omega)
                  have d2 := dvd_b (a := 2 * μ (100 + 40 * n + 2) e) (b := μ (100 + 40 * n + 3) e) (by omega) L.2.2.1 (by omega) (by omega)
                  have FF := fad_b d1.1 (d2.2.2 (by omega))
                  have eb := sdE_b GG hn he hN hR rc.1 rc.2 (sdV_b GG hn hN hR (sdA_b GG hN hR n hnl) (by omega) e (by omega)) (by omega)
                  have w := snw_b ((eb (k + 1) (by omega)).2 k (by omega)) FF.2.2
                  have ad := fp_add (eb k hk).1 w.2.2 (by omega) (by decide)
                  exact ⟨_, rfl, hb9, ad.2, ⟨by omega, by omega⟩, ⟨he, fr_t f' f9 (fun _ _ w => w), rfl, rfl, rfl, rfl, rfl, rc, k + 1, by omega, by omega, rfl⟩, by omega⟩
              refine b_MD_sample_37 (X23 := fun v3 v5 hh => (fr SW5 h hh ∧ ∃ n : Nat, v5 = (n : Int) ∧ (n : Int) ≤ μ 0 7 ∧ v3 = sdA μ N R n) ∧ v5 = (n : Int) + 1) (X37 := fun v3 v5 v6 hh => (fr SW5 h hh ∧ v5 = (n : Int) ∧ ∃ e : Nat, v6 = (e : Int) ∧ (e : Int) ≤ μ (10 + n) 0 ∧ v3 = sdV μ n N R (sdA μ N R n) e) ∧ v6 = (e : Int) + 1) (fun v3 v5 hh hb' x => ih v3 v5 hh hb' x.1 (by have := x.2; omega)) (fun v3 v5 v6 hh hb' x => ih2 v3 v5 v6 hh hb' x.1 (by have := x.2; omega)) in229 hbh ?_
              unfold B_MD_sample_37
              refine ⟨by omega, ?_⟩
              rw [tn_c]
              intro x2 e2 _ _
              obtain rfl := e2.trans o1
              refine ⟨fun q => ⟨⟨by omega, by omega⟩, ⟨f, n + 1, by omega, by omega, ?_⟩, rfl⟩, fun q => ?_⟩
              · rw [sdA, show (μ (10 + n) 0).toNat = e by omega]
              · have he : (e : Int) < μ (10 + n) 0 := by omega
                obtain ⟨⟨y1, -, -⟩, ⟨z0, z1, z2, z3⟩, pb, -⟩ := MV_e H1 hn he
                have bn := GM_b GG hn e
                have bn1 := GM_b GG hn (e + 1)
                have M := ((GG.2.2 n hn).2.2.2.1 e he).2.2.2.2.2.1
                obtain ⟨r1, r2⟩ := (GG.1.2 n hn).1 e he
                have skip : ∀ (hh : ah_T), fr SW5 h hh → ¬ (Rch μ n e N R ∧ ¬ Rch μ n (e + 1) N R) → B_MD_sample_272 G s N R (sdV μ n N R (sdA μ N R n) e) (n : Int) (e : Int) hh (fun r h' => r = some (av_D (sdA μ N R (μ 0 7).toNat)) ∧ hb s h' ∧ fr SW5 h h') (fun v3 v5 v6 hh => (fr SW5 h hh ∧ v5 = (n : Int) ∧ ∃ e : Nat, v6 = (e : Int) ∧ (e : Int) ≤ μ (10 + n) 0 ∧ v3 = sdV μ n N R (sdA μ N R n) e) ∧ v6 = (e : Int) + 1) := by
                  intro hh ff no
                  unfold B_MD_sample_272
                  refine ⟨⟨by omega, by omega⟩, ⟨ff, rfl, e + 1, by omega, by omega, ?_⟩, rfl⟩
                  rw [sdV, dif_f no]
                refine ⟨⟨by omega, by omega⟩, ⟨by omega, by omega⟩, by omega, ?_⟩
                rw [nx300]
                intro x8 e8 _ _
                obtain rfl := e8.trans y1
                refine ⟨fun q0 => ?_, fun q0 => ?_⟩
                · unfold B_MD_sample_272
                  refine ⟨⟨by omega, by omega⟩, ⟨f, rfl, e + 1, by omega, by omega, ?_⟩, rfl⟩
                  rw [sdV]
                  by_cases rc : Rch μ n e N R ∧ ¬ Rch μ n (e + 1) N R
                  · rw [dif_t rc, q0]; rfl
                  · rw [dif_f rc]
                · intro x11 e11 _ _ x13 e13 _ _ x15 e15 _ _ x17 e17 _ _
                  obtain rfl := e11.trans z0
                  obtain rfl := e13.trans z1
                  obtain rfl := e15.trans z2
                  obtain rfl := e17.trans z3
                  have p1 := pr_b bn.1 bn.2 ⟨M.2.2.1, M.2.2.2⟩
                  have p2 := pr_b (a := μ (100 + 40 * n + 2) e) ⟨by omega, M.2.1⟩ ⟨M.2.2.1, M.2.2.2⟩ bn.2
                  have p3 : 1 ≤ smB μ n e * μ (100 + 40 * n + 3) e ∧ smB μ n e * μ (100 + 40 * n + 3) e ≤ 1000000000000 := by
                    have h1 := Int.mul_le_mul bn.2.1 M.2.2.1 (by omega) (by omega)
                    have h2 : smB μ n e * μ (100 + 40 * n + 3) e ≤ 1000000 * 1000000 := Int.mul_le_mul bn.2.2 M.2.2.2 (by omega) (by omega)
                    omega
                  refine con_mono (t_MD_sum hbh (by omega) (by omega) (by omega) (by omega)) ?_
                  rintro r h18 ⟨rfl, hb18, f18, t1, t2, -⟩
                  refine ⟨rfl, hb18, fun x21 e21 _ _ => ?_⟩
                  obtain rfl := e21.trans (t1.trans r1.symm)
                  refine ⟨⟨by omega, by omega⟩, fun x23 e23 _ _ => ?_⟩
                  obtain rfl := e23.trans (t2.trans r2.symm)
                  refine con_mono (t_MD_fraction hb18 hN hR.1) ?_
                  rintro r h24 ⟨rfl, hb24, f24, u1, u2, -⟩
                  have f2 : fr SW5 h h24 := fr_t (fr_t f f18 (fun _ _ w => w)) f24 (fun _ _ w => w)
                  have H2 := MV_f H f2 (fun a k w => Or.inl w.1)
                  obtain ⟨-, ⟨y0, y1', y2, y3⟩, -, -⟩ := MV_e H2 hn he
                  refine ⟨rfl, hb24, fun x27 e27 _ _ x28 e28 _ _ x30 e30 _ _ => ?_⟩
                  obtain rfl := e27.trans u1
                  obtain rfl := e28.trans u2
                  obtain rfl := e30.trans y0
                  refine ⟨⟨by omega, by omega⟩, fun x33 e33 _ _ => ?_⟩
                  obtain rfl := e33.trans y1'
                  have m1 := mlb (x := rdT N R) (X := 2147483647) g0 (by omega) (by omega : 0 ≤ smB μ n e) bn.2.2
                  have m2 := mlb (x := 2 * smT μ n e) (X := 2000000000) (by omega) (by omega) (by omega : 0 ≤ rdB N R) (by omega : rdB N R ≤ 10000)
                  have m3 := mlb (x := rdT N R) (X := 2147483647) g0 (by omega) (by omega : 0 ≤ smB μ n (e + 1)) bn1.2.2
                  have m4 := mlb (x := 2 * smT μ n (e + 1)) (X := 2000000000) (by omega) (by omega) (by omega : 0 ≤ rdB N R) (by omega : rdB N R ≤ 10000)
                  have m5 : 1 * 1 ≤ rdB N R * smB μ n e := Int.mul_le_mul l0 bn.2.1 (by decide) (by omega)
                  have m6 := mlb (x := rdB N R) (X := 10000) (by omega) (by omega) (by omega : 0 ≤ smB μ n e) bn.2.2
                  have c1 := rch_g (μ := μ) (n := n) (e := e) hg eN eR
                  have c2 := rch_g (μ := μ) (n := n) (e := e + 1) hg eN eR
                  refine con_mono (m_compare hb24 (by omega) (by omega)) ?_
                  rintro r h34 ⟨z36, rfl, hb34, rfl, -, g36⟩
                  refine ⟨z36, rfl, hb34, fun q1 => skip _ f2 (fun w => by have := c1.mp w.1; have := g36.mp q1; omega), fun q1 x37 e37 _ _ x38 e38 _ _ => ?_⟩
                  have r1' : Rch μ n e N R := c1.mpr (by have : ¬ _ := fun w => q1 (g36.mpr w); omega)
                  obtain rfl := e37.trans u1
                  obtain rfl := e38.trans u2
                  refine con_mono (m_compare hb34 (by omega) (by omega)) ?_
                  rintro r h39 ⟨z41, rfl, hb39, rfl, -, g41⟩
                  refine ⟨z41, rfl, hb39, fun q2 x42 e42 _ _ x43 e43 _ _ x45 e45 _ _ => ?_, fun q2 => skip _ f2 (fun w => by have : ¬ _ := fun w => q2 (g41.mpr w); exact w.2 (c2.mpr (by omega)))⟩
                  have r2' : ¬ Rch μ n (e + 1) N R := fun w => by have := c2.mp w; have := g41.mp q2; omega
                  obtain rfl := e42.trans u1
                  obtain rfl := e43.trans u2
                  obtain rfl := e45.trans y0
                  refine ⟨⟨by omega, by omega⟩, fun x48 e48 _ _ => ?_⟩
                  obtain rfl := e48.trans y1'
                  have c1' := c1.mp r1'
                  have en : (-2) * smT μ n e * rdB N R = -(2 * smT μ n e * rdB N R) := by rw [show (-2) * smT μ n e = -(2 * smT μ n e) by omega, Int.neg_mul]
                  refine con_mono (t_MD_sum hb39 (by omega) (by omega) (by omega) (by omega)) ?_
                  rintro r h49 ⟨rfl, hb49, f49, v1, v2, -⟩
                  refine ⟨rfl, hb49, fun x52 e52 _ _ x53 e53 _ _ => ?_⟩
                  have eT : snT μ n e N R = g * (rdT N R * smB μ n e + (-2) * smT μ n e * rdB N R) := by
                    rw [en, Int.mul_add, Int.mul_neg, ← Int.mul_assoc, ← eN, ← Int.sub_eq_add_neg]
                    show N * smB μ n e - 2 * smT μ n e * R = N * smB μ n e - g * (2 * smT μ n e * rdB N R)
                    congr 1
                    calc 2 * smT μ n e * R = 2 * smT μ n e * (g * rdB N R) := by rw [← eR]
                      _ = g * (2 * smT μ n e * rdB N R) := by ac_rfl
                  have eB : snB μ n e R = g * (rdB N R * smB μ n e) := by rw [← Int.mul_assoc, ← eR]
                  have rm := rd_mul (m := rdT N R * smB μ n e + (-2) * smT μ n e * rdB N R) (n := rdB N R * smB μ n e) hg
                  rw [← eT, ← eB] at rm
                  obtain rfl := e52.trans (v1.trans rm.1.symm)
                  obtain rfl := e53.trans (v2.trans rm.2.symm)
                  exact ⟨he, fr_t f2 f49 (fun _ _ w => w), rfl, rfl, rfl, rfl, rfl, ⟨r1', r2'⟩, 0, rfl, by omega, rfl⟩
          refine b_MD_sample_23 (X37 := fun v3 v5 v6 hh => (fr SW5 h hh ∧ v5 = (n : Int) ∧ ∃ e : Nat, v6 = (e : Int) ∧ (e : Int) ≤ μ (10 + n) 0 ∧ v3 = sdV μ n N R (sdA μ N R n) e)) (fun v3 v5 v6 hh hb' x => in37 _ v3 v5 v6 hh hb' x (Nat.lt_succ_self _)) hbh ?_
          unfold B_MD_sample_23
          intro x2 e2 _ _
          obtain rfl := e2.trans H1.1.1.1
          exact ⟨fun q => absurd hn (by omega), fun _ => ⟨f, rfl, 0, rfl, by have := (GG.2.2 n hn).1; omega, rfl⟩⟩
        · refine b_MD_sample_23 (X37 := fun _ _ _ _ => False) (fun _ _ _ _ _ x => x.elim) hbh ?_
          unfold B_MD_sample_23
          intro x2 e2 _ _
          obtain rfl := e2.trans H1.1.1.1
          refine ⟨fun _ => ⟨?_, hbh, f⟩, fun q => absurd q (by omega)⟩
          rw [show (μ 0 7).toNat = n by omega]
    refine c_MD_sample (X23 := fun v3 v5 hh => N ≤ 2147483647 ∧ (fr SW5 h hh ∧ ∃ n : Nat, v5 = (n : Int) ∧ (n : Int) ≤ μ 0 7 ∧ v3 = sdA μ N R n)) (fun v3 v5 hh hb' x => key x.1 _ v3 v5 hh hb' x.2 (Nat.lt_succ_self _)) hb0 (fun i1 _ => ?_)
    unfold i32 at i1
    unfold B_MD_sample_0
    exact ⟨fun q => absurd hN (by omega), fun q1 => ⟨fun q => absurd hR.1 (by omega), fun q2 => ⟨fun q3 => ⟨by omega, fr_0, 0, rfl, by omega, rfl⟩, fun q => absurd hR.2 q⟩⟩⟩
end
