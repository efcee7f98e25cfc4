/-! ===== the WALK, class: divisors, events ===== -/
theorem t_PM_greatestDivisor {G : cx_T} {s : Nat} {h : ah_T} {a b : Int} (hb0 : hb s h) (ha : 0 ≤ a) (hb1 : 0 ≤ b) : con G 0 0 0 m_PM_greatestDivisor [av_L a, av_L b] h (fun r h' => ∃ z, r = some (av_L z) ∧ hb s h' ∧ h' = h ∧ z = gdv a b) := by
  refine c_PM_greatestDivisor (X9 := fun v4 v6 v8 hh => hh = h ∧ (0 ≤ v8 ∧ v8 ≤ 200) ∧ (-9223372036854775808 ≤ v6 ∧ v6 ≤ 9223372036854775807) ∧ gdi a b v4 v6 v8) ?_ hb0 (fun h1 h2 => ?_)
  · refine lp_PM_greatestDivisor_9 (a0 := a) (a1 := b) _ (fun _ _ v8 _ => (200 - v8).toNat) ?_
    rintro v4 v6 v8 hh hb2 ⟨rfl, h8, h6, hg⟩
    have fin : (v6 = 0 ∨ 200 ≤ v8) → B_PM_greatestDivisor_45 G s a b v4 hh (fun r h' => ∃ z, r = some (av_L z) ∧ hb s h' ∧ h' = hh ∧ z = gdv a b) := by
      intro hc
      obtain ⟨q1, q2⟩ := gdi_e hg hc
      unfold B_PM_greatestDivisor_45 B_PM_greatestDivisor_58
      exact ⟨fun c => ⟨v4, rfl, hb2, rfl, q2 c⟩, fun c => ⟨1, rfl, hb2, rfl, q1 (by omega)⟩⟩
    unfold B_PM_greatestDivisor_9
    refine ⟨fun c => fin (Or.inr c), fun c => ⟨fun c2 => fin (Or.inl c2), fun c2 => ⟨c2, fun x2 e2 l2 u2 => ⟨⟨by omega, by omega⟩, ⟨rfl, ⟨by omega, by omega⟩, ⟨l2, u2⟩, gdi_s hg h8.1 c2 e2⟩, by omega⟩⟩⟩⟩
  · unfold B_PM_greatestDivisor_0
    unfold i64 at h1 h2
    exact ⟨rfl, ⟨by decide, by decide⟩, ⟨by omega, by omega⟩, gdi_0 ha hb1 (by omega) (by omega)⟩
theorem gdv_p {a b : Int} (ha : 1 ≤ a) : gdv a b = (Int.gcd a b : Int) ∧ 1 ≤ (Int.gcd a b : Int) ∧ (Int.gcd a b : Int) ≤ a := by
  have h : Int.gcd a b ≠ 0 := fun w => by have := (Int.gcd_eq_zero_iff.mp w).1; omega
  have h2 := Int.gcd_le_left (a := a) b (by omega)
  refine ⟨?_, by omega, h2⟩
  unfold gdv; rw [if_neg (by omega)]
theorem gcd_r {a b : Int} (hb : 1 ≤ b) : 1 ≤ (Int.gcd a b : Int) ∧ (Int.gcd a b : Int) ≤ b := by
  rw [Int.gcd_comm]; exact ⟨(gdv_p hb).2.1, (gdv_p hb).2.2⟩
theorem w64_d {x z : Int} (h0 : 0 ≤ x) (h1 : x ≤ 9223372036854775807) (hz : 1 ≤ z) : w64 (x.tdiv z) = x / z := by
  rw [Int.tdiv_eq_ediv_of_nonneg h0]
  have a := Int.ediv_le_self z h0
  have b : 0 ≤ x / z := Int.ediv_nonneg h0 (by omega)
  exact w64_id ⟨by omega, by omega⟩
theorem ediv_1 {x z : Int} (hz : 1 ≤ z) (h : z ≤ x) : 1 ≤ x / z := (Int.le_ediv_iff_mul_le (by omega)).mpr (by omega)
theorem rdT_b {a b : Int} (ha : 1 ≤ a) (hb : 1 ≤ b) : 1 ≤ rdT a b ∧ rdT a b ≤ a := by
  obtain ⟨-, g1, g2⟩ := gdv_p (b := b) ha
  exact ⟨ediv_1 g1 g2, Int.ediv_le_self _ (by omega)⟩
theorem rdB_b {a b : Int} (ha : 1 ≤ a) (hb : 1 ≤ b) : 1 ≤ rdB a b ∧ rdB a b ≤ b := by
  obtain ⟨g1, g2⟩ := gcd_r (a := a) hb
  exact ⟨ediv_1 g1 g2, Int.ediv_le_self _ (by omega)⟩
theorem isFr_n {a b : Int} (h : ¬ isFr a b = true) : a ≤ 1000 * b ∧ b ≤ 1000000 := by
  unfold isFr at h
  simp only [Bool.or_eq_true, decide_eq_true_eq] at h
  omega
abbrev WEv (v e : Nat) : Nat → Nat → Prop := fun a k => ((a = v + 7 ∨ a = v + 8 ∨ a = v + 11 ∨ a = v + 12) ∧ k = e) ∨ (a = v ∧ k = 14) ∨ ((a = v + 9 ∨ a = v + 10) ∧ k = e + 1)
theorem t_Voice_addEvent {G : cx_T} {s v e b bars : Nat} {h : ah_T} {sT sB n d nT nB : Int} (hv : isV v) (hb0 : hb s h) (he : h.2.1 v 14 = (e : Int)) (he3 : e < 300) (hb3 : b < 300) (hn : h.2.1 (v + 4) b = n) (hn1 : 1 ≤ n ∧ n ≤ 64) (hd : h.2.1 (v + 5) b = d) (hd3 : 0 ≤ d ∧ d ≤ 3) (hba : h.2.1 v 16 = (bars : Int)) (hT : 1 ≤ sT ∧ sT ≤ 268435456) (hB : 1 ≤ sB ∧ sB ≤ 268435456) (hnT : h.2.2.1 (v + 9) e = nT) (hnB : h.2.2.1 (v + 10) e = nB) (hN : 0 ≤ nT ∧ nT ≤ 1000 * nB ∧ 1 ≤ nB ∧ nB ≤ 1000000) :
    con G 1 0 0 m_Voice_addEvent [av_R (some v), av_I (b : Int), av_L sT, av_L sB] h (fun r h' => ∃ z lT lB, r = some (av_I z) ∧ hb s h' ∧ fr (WEv v e) h h' ∧ lT = rdT (sT * (2 ^ (d.toNat + 1) - 1)) (sB * n * 2 ^ d.toNat) ∧ lB = rdB (sT * (2 ^ (d.toNat + 1) - 1)) (sB * n * 2 ^ d.toNat) ∧ (1 ≤ lT ∧ 1 ≤ lB) ∧ (h'.2.1 (v + 7) e = b ∧ h'.2.1 (v + 8) e = (bars : Int) - 1 ∧ h'.2.2.1 (v + 11) e = lT ∧ h'.2.2.1 (v + 12) e = lB) ∧ (isFr lT lB = true → z = 0) ∧ (¬ isFr lT lB = true → h'.2.1 v 14 = (e : Int) + 1 ∧ h'.2.2.1 (v + 9) (e + 1) = rdT (nT * lB + lT * nB) (nB * lB) ∧ h'.2.2.1 (v + 10) (e + 1) = rdB (nT * lB + lT * nB) (nB * lB) ∧ z = (if isFr (rdT (nT * lB + lT * nB) (nB * lB)) (rdB (nT * lB + lT * nB) (nB * lB)) = true then 0 else 1))) := by
  have v24 := isV_24 hv
  have eb : (b : Int).toNat = b := tn_c b
  refine c_Voice_addEvent hv hb0 (fun _ _ _ => ?_)
  unfold B_Voice_addEvent_0
  intro x1 e1 _ _
  obtain rfl : x1 = (e : Int) := e1.trans he
  refine ⟨fun c => by omega, fun _ => ⟨fun c => by omega, fun _ => ⟨fun _ => ⟨⟨by omega, by omega⟩, ?_⟩, fun c => by omega⟩⟩⟩
  rw [eb]
  intro x3 e3 _ _ x5 e5 _ _
  have e3' : x3 = d := e3.trans hd
  subst e3'
  -- the shifts
  have k5 : x5 = 2 ^ (x3.toNat + 1) ∧ 2 ≤ x5 ∧ x5 ≤ 16 := by
    have hy : x3 = 0 ∨ x3 = 1 ∨ x3 = 2 ∨ x3 = 3 := by omega
    rw [e5]; clear e3 hd e5
    rcases hy with rfl | rfl | rfl | rfl <;> decide
  obtain ⟨p5, l5, u5⟩ := k5
  have bT : 1 ≤ sT * (x5 - 1) ∧ sT * (x5 - 1) ≤ 268435456 * 15 :=
    ⟨by have := Int.mul_le_mul hT.1 (show (1:Int) ≤ x5 - 1 by omega) (by decide) (by omega); omega, Int.mul_le_mul hT.2 (by omega) (by omega) (by decide)⟩
  refine ⟨⟨by omega, by omega⟩, fun x7 e7 => ⟨⟨by omega, by omega⟩, fun x10 e10 _ _ x11 e11 => ?_⟩⟩
  have e10' : x10 = n := e10.trans hn
  subst e10'
  have bB : 1 ≤ sB * x10 ∧ sB * x10 ≤ 268435456 * 64 :=
    ⟨by have := Int.mul_le_mul hB.1 hn1.1 (by decide) (by omega); omega, Int.mul_le_mul hB.2 hn1.2 (by omega) (by decide)⟩
  refine ⟨⟨by omega, by omega⟩, fun x13 e13 _ _ => ?_⟩
  have k13 : x13 = 2 ^ x3.toNat ∧ 1 ≤ x13 ∧ x13 ≤ 8 := by
    have hy : x3 = 0 ∨ x3 = 1 ∨ x3 = 2 ∨ x3 = 3 := by omega
    rw [e13]; clear e3 hd e5 e13 p5
    rcases hy with rfl | rfl | rfl | rfl <;> decide
  obtain ⟨p13, l13, u13⟩ := k13
  intro x14 e14
  have bX : 1 ≤ x11 * x13 ∧ x11 * x13 ≤ 17179869184 * 8 :=
    ⟨by have := Int.mul_le_mul (show 1 ≤ x11 by omega) l13 (by decide) (by omega); omega, Int.mul_le_mul (by omega) u13 (by omega) (by decide)⟩
  refine ⟨⟨by omega, by omega⟩, ?_⟩
  have E7 : x7 = sT * (2 ^ (x3.toNat + 1) - 1) := by rw [e7, p5]
  have E14 : x14 = sB * x10 * 2 ^ x3.toNat := by rw [e14, e11, p13]
  rw [← E7, ← E14]
  have h7 : 1 ≤ x7 ∧ x7 ≤ 4026531840 := by omega
  have h14 : 1 ≤ x14 ∧ x14 ≤ 137438953472 := by omega
  clear E7 E14 e14 e7 e11 e13 e5 p5 p13 bX bB bT l5 u5 l13 u13
  refine con_mono (t_PM_greatestDivisor hb0 (by omega) (by omega)) ?_
  rintro r h16 ⟨z18, rfl, hb16, rfl, ez18⟩
  obtain ⟨g1, g2, g3⟩ := gdv_p (b := x14) h7.1
  have g4 := gcd_r (a := x7) h14.1
  have ez : z18 = (Int.gcd x7 x14 : Int) := ez18.trans g1
  refine ⟨z18, rfl, hb16, fun x20 e20 _ _ => ?_⟩
  obtain rfl : x20 = (e : Int) := e20.trans he
  refine ⟨⟨by omega, by omega⟩, ?_⟩
  rw [tn_c e]
  intro h22 e22 x26 e26 _ _
  have e26' : x26 = (bars : Int) := by rw [e26, mm_i e22 (by omega)]; exact hba
  refine ⟨⟨by omega, by omega⟩, fun h28 e28 => ⟨by omega, fun x32 e32 _ _ h33 e33 => ⟨by omega, fun x37 e37 _ _ h38 e38 => ?_⟩⟩⟩
  have E32 : x32 = rdT x7 x14 := by rw [e32, w64_d (by omega) (by omega) (by omega), ez]; rfl
  have E37 : x37 = rdB x7 x14 := by rw [e37, w64_d (by omega) (by omega) (by omega), ez]; rfl
  obtain ⟨t1, t2⟩ := rdT_b h7.1 h14.1
  obtain ⟨u1, u2⟩ := rdB_b h7.1 h14.1
  rw [← E32] at t1 t2
  rw [← E37] at u1 u2
  have hb38 := hb_l (hb_l (hb_i (hb_i hb16 e22) e28) e33) e38
  have f38 : fr (WEv v e) h16 h38 := fr_l (fr_l (fr_i (fr_i fr_0 e22 (by omega)) e28 (by omega)) e33 (by omega)) e38 (by omega)
  have c7 : h38.2.1 (v + 7) e = b := by rw [mm_lo e38, mm_lo e33, mm_i e28 (by omega), mv_i e22]
  have c8 : h38.2.1 (v + 8) e = (bars : Int) - 1 := by rw [mm_lo e38, mm_lo e33, mv_i e28, e26']
  have c11 : h38.2.2.1 (v + 11) e = x32 := by rw [mm_l e38 (by omega), mv_l e33]
  have c12 : h38.2.2.1 (v + 12) e = x37 := by rw [mv_l e38]
  have c14 : h38.2.1 v 14 = (e : Int) := by rw [mm_lo e38, mm_lo e33, mm_i e28 (by omega), mm_i e22 (by omega)]; exact he
  have c9 : h38.2.2.1 (v + 9) e = nT := by rw [fr_gl f38 (by omega)]; exact hnT
  have c10 : h38.2.2.1 (v + 10) e = nB := by rw [fr_gl f38 (by omega)]; exact hnB
  clear e22 e28 e33 e38 e26 e26' e32 e37 ez18 ez g1 g2 g3 g4
  rw [← E32, ← E37]
  refine con_mono (t_Voice_isTold hb38 (by omega)) ?_
  rintro r h46 ⟨hb46, rfl, rfl⟩
  by_cases hfr : isFr x32 x37 = true
  · rw [if_pos hfr]
    exact ⟨0, rfl, hb46, fun _ => ⟨0, x32, x37, rfl, hb46, f38, rfl, rfl, ⟨t1, u1⟩, ⟨c7, c8, c11, c12⟩, fun _ => rfl, fun w => absurd hfr w⟩, fun w => absurd rfl w⟩
  · rw [if_neg hfr]
    obtain ⟨i1, i2⟩ := isFr_n hfr
    refine ⟨1, rfl, hb46, fun w => absurd w (by decide), fun _ x50 e50 _ _ => ?_⟩
    obtain rfl : x50 = (e : Int) := e50.trans c14
    refine ⟨⟨by omega, by omega⟩, ?_⟩
    rw [tn_c e]
    intro x51 e51 _ _
    refine ⟨⟨by omega, by omega⟩, fun x55 e55 _ _ x57 e57 => ?_⟩
    have e51' : x51 = nT := e51.trans c9
    have e55' : x55 = x37 := e55.trans c12
    subst e51' e55'
    have q57 : 0 ≤ x51 * x55 ∧ x51 * x55 ≤ 1000000000 * 1000000 := ⟨Int.mul_nonneg hN.1 (by omega), Int.mul_le_mul (by omega) i2 (by omega) (by decide)⟩
    refine ⟨⟨by omega, by omega⟩, fun x61 e61 _ _ x64 e64 _ _ x65 e65 => ?_⟩
    have e61' : x61 = x32 := e61.trans c11
    have e64' : x64 = nB := e64.trans c10
    subst e61' e64'
    have q65 : 1 ≤ x61 * x64 ∧ x61 * x64 ≤ 1000000000 * 1000000 := ⟨by have := Int.mul_le_mul t1 hN.2.2.1 (by decide) (by omega); omega, Int.mul_le_mul (by omega) hN.2.2.2 (by omega) (by decide)⟩
    have q74 : 1 ≤ x64 * x55 ∧ x64 * x55 ≤ 1000000 * 1000000 := ⟨by have := Int.mul_le_mul hN.2.2.1 u1 (by decide) (by omega); omega, Int.mul_le_mul hN.2.2.2 i2 (by omega) (by decide)⟩
    refine ⟨⟨by omega, by omega⟩, ⟨by omega, by omega⟩, fun x74 e74 => ⟨⟨by omega, by omega⟩, ?_⟩⟩
    rw [← e57] at q57
    rw [← e65] at q65
    rw [← e74] at q74
    have hs1 : 1 ≤ x57 + x65 := by omega
    refine con_mono (t_PM_greatestDivisor hb46 (by omega) (by omega)) ?_
    rintro r h76 ⟨z78, rfl, hb76, rfl, ez78⟩
    obtain ⟨g1, g2, g3⟩ := gdv_p (b := x74) hs1
    have g4 := gcd_r (a := x57 + x65) q74.1
    have ez : z78 = (Int.gcd (x57 + x65) x74 : Int) := ez78.trans g1
    refine ⟨z78, rfl, hb76, fun x79 e79 _ _ => ?_⟩
    obtain rfl : x79 = (e : Int) := e79.trans c14
    refine ⟨⟨by omega, by omega⟩, fun h81 e81 => ⟨by omega, fun x85 e85 _ _ => ⟨⟨by omega, by omega⟩, ?_⟩⟩⟩
    have en : ((e : Int) + 1).toNat = e + 1 := by omega
    rw [en]
    intro h87 e87
    refine ⟨by omega, fun x91 e91 _ _ h92 e92 => ?_⟩
    have E85 : x85 = rdT (x57 + x65) x74 := by rw [e85, w64_d (by omega) (by omega) (by omega), ez]; rfl
    have E91 : x91 = rdB (x57 + x65) x74 := by rw [e91, w64_d (by omega) (by omega) (by omega), ez]; rfl
    obtain ⟨y1, y2⟩ := rdB_b hs1 q74.1
    rw [← E91] at y1 y2
    have hb92 := hb_l (hb_l (hb_i hb76 e81) e87) e92
    have f92 : fr (WEv v e) h76 h92 := fr_l (fr_l (fr_i fr_0 e81 (by omega)) e87 (by omega)) e92 (by omega)
    refine con_mono (t_Voice_isTold hb92 (by omega)) ?_
    rintro r h100 ⟨hb100, rfl, rfl⟩
    refine ⟨_, rfl, hb100, by split <;> decide, _, x61, x55, rfl, hb100, fr_t f38 f92 (fun _ _ w => w), rfl, rfl, ⟨t1, u1⟩, ⟨?_, ?_, ?_, ?_⟩, fun w => absurd w hfr, fun _ => ⟨?_, ?_, ?_, ?_⟩⟩
    · rw [mm_lo e92, mm_lo e87, mm_i e81 (by omega)]; exact c7
    · rw [mm_lo e92, mm_lo e87, mm_i e81 (by omega)]; exact c8
    · rw [mm_l e92 (by omega), mm_l e87 (by omega), mm_io e81]; exact c11
    · rw [mm_l e92 (by omega), mm_l e87 (by omega), mm_io e81]; exact c12
    · rw [mm_lo e92, mm_lo e87, mv_i e81]
    · rw [mm_l e92 (by omega), mv_l e87, E85, e57, e65, e74]
    · rw [mv_l e92, E91, e57, e65, e74]
    · rw [E85, E91, e57, e65, e74]
