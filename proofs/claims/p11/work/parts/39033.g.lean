/-! ===== the WALK, class: small things ===== -/
theorem wk_ev_0 {π : pm_T} {j : Nat} {sT sB : Int} {α : pm_T} : wk_ev π j sT sB α 0 0 = α 0 0 := by
  unfold wk_ev
  dsimp only
  split
  · split
    · rw [up2_o (by omega), up2_o (by omega), up2_o (by omega), up2_o (by omega), up2_o (by omega), up2_o (by omega), up2_o (by omega), up2_o (by omega)]
    · rw [up2_o (by omega), up2_o (by omega), up2_o (by omega), up2_o (by omega), up2_o (by omega), up2_o (by omega), up2_o (by omega), up2_o (by omega), up2_o (by omega), up2_o (by omega)]
  · rw [up2_o (by omega)]
theorem wk_ln_0 {α : pm_T} : wk_ln α 0 0 = α 0 0 := by
  unfold wk_ln
  rw [up2_o (by omega)]
  split
  · rw [up2_o (by omega)]
  · rfl
theorem wk_st_0 {α : pm_T} : wk_st α 0 0 = α 0 0 + 1 := by unfold wk_st; rw [up2_at]
theorem wk_mono {π : pm_T} : ∀ (f : Nat) (b : Bool) (x y : Nat) (sT sB : Int) (α : pm_T), α 0 0 ≤ wk π f b x y sT sB α 0 0
  | 0, _, _, _, _, _, _ => by rw [wk]; exact Int.le_refl _
  | f + 1, true, x, y, sT, sB, α => by
    have s1 := wk_st_0 (α := α)
    have s2 := wk_st_0 (α := wk_st α)
    rw [wk]
    split
    · exact Int.le_refl _
    split
    · refine Int.le_trans ?_ (wk_mono f true _ y sT sB _)
      split
      · exact Int.le_trans (by omega) (wk_mono f false x _ sT sB _)
      · refine Int.le_trans ?_ (wk_mono f true (x + 1) _ sT sB _)
        rw [wk_st_0]
        have := wk_mono (π := π) f true (x + 1) (lk π x) sT sB (wk_st (wk_st α))
        omega
    split
    · refine Int.le_trans ?_ (wk_mono f true _ y sT sB _)
      exact Int.le_trans (by omega) (wk_mono f true (x + 1) _ _ _ _)
    split
    · refine Int.le_trans ?_ (wk_mono f true _ y sT sB _)
      rw [wk_ln_0]; omega
    split
    · refine Int.le_trans ?_ (wk_mono f true _ y sT sB _)
      rw [wk_ev_0]; omega
    · exact Int.le_trans (by omega) (wk_mono f true _ y sT sB _)
  | f + 1, false, x, y, sT, sB, α => by
    have s1 := wk_st_0 (α := α)
    rw [wk]
    split
    · refine Int.le_trans ?_ (wk_mono f false x _ sT sB _)
      refine Int.le_trans ?_ (wk_mono f true (y + 1) _ sT sB _)
      exact Int.le_trans (by omega) (wk_mono f true (x + 1) _ sT sB _)
    · exact Int.le_refl _
theorem t_Voice_beginWalk {G : cx_T} {s v : Nat} {h : ah_T} (hv : isV v) (hb0 : hb s h) : con G 0 0 0 m_Voice_beginWalk [av_R (some v)] h (fun r h' => r = none ∧ hb s h' ∧ fr (WW v) h h' ∧ h'.2.1 v 14 = 0 ∧ h'.2.1 v 16 = 1 ∧ h'.2.2.1 (v + 9) 0 = 0 ∧ h'.2.2.1 (v + 10) 0 = 1 ∧ h'.2.1 (v + 13) 0 = 0) := by
  have v24 := isV_24 hv
  refine c_Voice_beginWalk hv hb0 ?_
  unfold B_Voice_beginWalk_0
  intro h1 e1 h4 e4 h7 e7 h10 e10 h12 e12
  refine ⟨rfl, hb_i (hb_i (hb_l (hb_l (hb_i hb0 e1) e4) e7) e10) e12, fr_i (fr_i (fr_l (fr_l (fr_i fr_0 e1 (by omega)) e4 (by omega)) e7 (by omega)) e10 (by omega)) e12 (by omega), ?_, mv_i e12, ?_, ?_, ?_⟩
  · rw [mm_i e12 (by omega), mm_i e10 (by omega), mm_lo e7, mm_lo e4, mv_i e1]
  · rw [mm_io e12, mm_io e10, mm_l e7 (by omega), mv_l e4]
  · rw [mm_io e12, mm_io e10, mv_l e7]
  · rw [mm_i e12 (by omega), mv_i e10]
theorem t_Voice_endWalk {G : cx_T} {s v b : Nat} {h : ah_T} (hv : isV v) (hb0 : hb s h) (hb1 : h.2.1 v 16 = (b : Int)) : con G 0 0 0 m_Voice_endWalk [av_R (some v)] h (fun r h' => r = none ∧ hb s h' ∧ fr (fun a k => a = v + 13 ∧ k = b) h h' ∧ (b < 102 → h'.2.1 (v + 13) b = h.2.1 v 14)) := by
  have v24 := isV_24 hv
  refine c_Voice_endWalk hv hb0 ?_
  unfold B_Voice_endWalk_0 B_Voice_endWalk_25
  intro x1 e1 _ _
  obtain rfl : x1 = (b : Int) := e1.trans hb1
  refine ⟨fun c => ⟨rfl, hb0, fr_0, fun d => by omega⟩, fun c x5 e5 _ _ => ⟨⟨by omega, by omega⟩, ?_⟩⟩
  rw [tn_c]
  intro h7 e7
  exact ⟨rfl, hb_i hb0 e7, fr_i fr_0 e7 ⟨rfl, rfl⟩, fun _ => by rw [mv_i e7, e5]⟩
theorem t_Voice_addBar {G : cx_T} {s v b : Nat} {h : ah_T} (hv : isV v) (hb0 : hb s h) (hb1 : h.2.1 v 16 = (b : Int)) (hb2 : b < 102) : con G 0 0 0 m_Voice_addBar [av_R (some v)] h (fun r h' => r = none ∧ hb s h' ∧ fr (fun a k => (a = v + 13 ∧ k = b) ∨ (a = v ∧ k = 16)) h h' ∧ h'.2.1 (v + 13) b = h.2.1 v 14 ∧ h'.2.1 v 16 = (b : Int) + 1) := by
  have v24 := isV_24 hv
  refine c_Voice_addBar hv hb0 ?_
  unfold B_Voice_addBar_0 B_Voice_addBar_35
  intro x1 e1 _ _
  obtain rfl : x1 = (b : Int) := e1.trans hb1
  refine ⟨fun c => by omega, fun c x5 e5 _ _ => ⟨⟨by omega, by omega⟩, ?_⟩⟩
  rw [tn_c]
  intro h7 e7
  refine ⟨⟨by omega, by omega⟩, fun h11 e11 => ⟨rfl, hb_i (hb_i hb0 e7) e11, fr_i (fr_i fr_0 e7 (Or.inl ⟨rfl, rfl⟩)) e11 (Or.inr ⟨rfl, rfl⟩), ?_, mv_i e11⟩⟩
  rw [mm_i e11 (by omega), mv_i e7, e5]
theorem t_Parts_meetLine {G : cx_T} {s v b l : Nat} {h : ah_T} (hv : isV v) (hb0 : hb s h) (hl : h.2.1 9 10 = (l : Int)) (hl2 : l < 100000) (hb1 : h.2.1 v 16 = (b : Int)) (hb2 : l < 100 → b < 102) : con G 1 0 0 m_Parts_meetLine [av_R (some 9), av_R (some v)] h (fun r h' => r = none ∧ hb s h' ∧ fr (fun a k => (a = 9 ∧ k = 10) ∨ (a = v + 13 ∧ k = b) ∨ (a = v ∧ k = 16)) h h' ∧ h'.2.1 9 10 = (l : Int) + 1 ∧ (l < 100 → h'.2.1 (v + 13) b = h.2.1 v 14 ∧ h'.2.1 v 16 = (b : Int) + 1) ∧ (¬ l < 100 → h'.2.1 v 16 = (b : Int) ∧ ∀ k, h'.2.1 (v + 13) k = h.2.1 (v + 13) k)) := by
  have v24 := isV_24 hv
  refine c_Parts_meetLine hv hb0 ?_
  unfold B_Parts_meetLine_0 B_Parts_meetLine_23
  intro x1 e1 _ _
  obtain rfl : x1 = (l : Int) := e1.trans hl
  refine ⟨⟨by omega, by omega⟩, fun h3 e3 => ⟨fun c => ?_, fun c => ?_⟩⟩
  · refine ⟨rfl, hb_i hb0 e3, fr_i fr_0 e3 (Or.inl ⟨rfl, rfl⟩), mv_i e3, fun d => by omega, fun _ => ⟨by rw [mm_i e3 (by omega)]; exact hb1, fun k => mm_i e3 (by omega)⟩⟩
  · refine con_mono (t_Voice_addBar (b := b) hv (hb_i hb0 e3) (by rw [mm_i e3 (by omega)]; exact hb1) (hb2 (by omega))) ?_
    rintro r h6 ⟨rfl, hb6, f6, g1, g2⟩
    refine ⟨rfl, hb6, rfl, hb6, fr_t (fr_i fr_0 e3 (Or.inl ⟨rfl, rfl⟩)) f6 (fun a k w => Or.inr w), ?_, fun _ => ⟨by rw [g1, mm_i e3 (by omega)], g2⟩, fun d => by omega⟩
    rw [fr_g f6 (by omega), mv_i e3]
theorem t_Voice_isTold {G : cx_T} {s : Nat} {h : ah_T} {a b : Int} (hb0 : hb s h) (hb1 : 0 ≤ b) : con G 0 0 0 m_Voice_isTold [av_L a, av_L b] h (fun r h' => hb s h' ∧ h' = h ∧ r = some (av_I (if isFr a b = true then 0 else 1))) := by
  refine c_Voice_isTold hb0 (fun _ _ => ?_)
  unfold B_Voice_isTold_0 B_Voice_isTold_22 B_Voice_isTold_23
  have e : isFr a b = true ↔ (1000 * b < a ∨ 1000000 < b) := by unfold isFr; simp
  refine ⟨fun c => ⟨Or.inl rfl, hb0, rfl, by rw [if_pos (e.mpr (Or.inr c))]⟩, fun c => ⟨⟨by omega, by omega⟩, fun d => ⟨Or.inl rfl, hb0, rfl, by rw [if_pos (e.mpr (Or.inl d))]⟩, fun d => ⟨Or.inr rfl, hb0, rfl, ?_⟩⟩⟩
  rw [if_neg (fun w => by rcases e.mp w with w | w <;> omega)]

/-! ===== the WALK, class: divisors, events ===== -/
theorem t_PM_greatestDivisor {G : cx_T} {s : Nat} {h : ah_T} {a b : Int} (hb0 : hb s h) (ha : 0 ≤ a) (hb1 : 0 ≤ b) : con G 0 0 0 m_PM_greatestDivisor [av_L a, av_L b] h (fun r h' => ∃ z, r = some (av_L z) ∧ hb s h' ∧ h' = h ∧ z = gdv a b) := by
  refine c_PM_greatestDivisor (X9 := fun v4 v6 v8 hh => hh = h ∧ (0 ≤ v8 ∧ v8 ≤ 200) ∧ (-9223372036854775808 ≤ v6 ∧ v6 ≤ 9223372036854775807) ∧ gdi a b v4 v6 v8) ?_ hb0 (fun h1 h2 => ?_)
  · refine lp_PM_greatestDivisor_9 (a0 := a) (a1 := b) _ (fun _ _ v8 _ => (200 - v8).toNat) ?_
    rintro v4 v6 v8 hh hb2 ⟨rfl, h8, h6, hg⟩
    have fin : (v6 = 0 ∨ 200 ≤ v8) → B_PM_greatestDivisor_45 G s a b v4 hh (fun r h' => ∃ z, r = some (av_L z) ∧ hb s h' ∧ h' = hh ∧ z = gdv a b) := by
      intro hc
      obtain ⟨q1, q2⟩ := gdi_e hg hc
      unfold B_PM_greatestDivisor_45 B_PM_greatestDivisor_58
      exact ⟨fun c => ⟨v4, rfl, hb2, rfl, q2 c⟩, fun c => ⟨1, rfl, hb2, rfl, q1 (by omega)⟩⟩
    unfold B_PM_greatestDivisor_9
    refine ⟨fun c => fin (Or.inr c), fun c => ⟨fun c2 => fin (Or.inl c2), fun c2 => ⟨c2, fun x2 e2 l2 u2 => ⟨⟨by omega, by omega⟩, ⟨rfl, ⟨by omega, by omega⟩, ⟨l2, u2⟩, gdi_s hg h8.1 c2 e2⟩, by omega⟩⟩⟩⟩
  · unfold B_PM_greatestDivisor_0
    unfold i64 at h1 h2
    exact ⟨rfl, ⟨by decide, by decide⟩, ⟨by omega, by omega⟩, gdi_0 ha hb1 (by omega) (by omega)⟩
theorem gdv_p {a b : Int} (ha : 1 ≤ a) : gdv a b = (Int.gcd a b : Int) ∧ 1 ≤ (Int.gcd a b : Int) ∧ (Int.gcd a b : Int) ≤ a := by
  have h : Int.gcd a b ≠ 0 := fun w => by have := (Int.gcd_eq_zero_iff.mp w).1; omega
  have h2 := Int.gcd_le_left (a := a) b (by omega)
  refine ⟨?_, by omega, h2⟩
  unfold gdv; rw [if_neg (by omega)]
theorem gcd_r {a b : Int} (hb : 1 ≤ b) : 1 ≤ (Int.gcd a b : Int) ∧ (Int.gcd a b : Int) ≤ b := by
  rw [Int.gcd_comm]; exact ⟨(gdv_p hb).2.1, (gdv_p hb).2.2⟩
theorem w64_d {x z : Int} (h0 : 0 ≤ x) (h1 : x ≤ 9223372036854775807) (hz : 1 ≤ z) : w64 (x.tdiv z) = x / z := by
  rw [Int.tdiv_eq_ediv_of_nonneg h0]
  have a := Int.ediv_le_self z h0
  have b : 0 ≤ x / z := Int.ediv_nonneg h0 (by omega)
  exact w64_id ⟨by omega, by omega⟩
theorem ediv_1 {x z : Int} (hz : 1 ≤ z) (h : z ≤ x) : 1 ≤ x / z := (Int.le_ediv_iff_mul_le (by omega)).mpr (by omega)
theorem rdT_b {a b : Int} (ha : 1 ≤ a) (hb : 1 ≤ b) : 1 ≤ rdT a b ∧ rdT a b ≤ a := by
  obtain ⟨-, g1, g2⟩ := gdv_p (b := b) ha
  exact ⟨ediv_1 g1 g2, Int.ediv_le_self _ (by omega)⟩
theorem rdB_b {a b : Int} (ha : 1 ≤ a) (hb : 1 ≤ b) : 1 ≤ rdB a b ∧ rdB a b ≤ b := by
  obtain ⟨g1, g2⟩ := gcd_r (a := a) hb
  exact ⟨ediv_1 g1 g2, Int.ediv_le_self _ (by omega)⟩
theorem isFr_n {a b : Int} (h : ¬ isFr a b = true) : a ≤ 1000 * b ∧ b ≤ 1000000 := by
  unfold isFr at h
  simp only [Bool.or_eq_true, decide_eq_true_eq] at h
  omega
abbrev WEv (v e : Nat) : Nat → Nat → Prop := fun a k => ((a = v + 7 ∨ a = v + 8 ∨ a = v + 11 ∨ a = v + 12) ∧ k = e) ∨ (a = v ∧ k = 14) ∨ ((a = v + 9 ∨ a = v + 10) ∧ k = e + 1)
theorem t_Voice_addEvent {G : cx_T} {s v e b bars : Nat} {h : ah_T} {sT sB n d nT nB : Int} (hv : isV v) (hb0 : hb s h) (he : h.2.1 v 14 = (e : Int)) (he3 : e < 300) (hb3 : b < 300) (hn : h.2.1 (v + 4) b = n) (hn1 : 1 ≤ n ∧ n ≤ 64) (hd : h.2.1 (v + 5) b = d) (hd3 : 0 ≤ d ∧ d ≤ 3) (hba : h.2.1 v 16 = (bars : Int)) (hT : 1 ≤ sT ∧ sT ≤ 268435456) (hB : 1 ≤ sB ∧ sB ≤ 268435456) (hnT : h.2.2.1 (v + 9) e = nT) (hnB : h.2.2.1 (v + 10) e = nB) (hN : 0 ≤ nT ∧ nT ≤ 1000 * nB ∧ 1 ≤ nB ∧ nB ≤ 1000000) :
    con G 1 0 0 m_Voice_addEvent [av_R (some v), av_I (b : Int), av_L sT, av_L sB] h (fun r h' => ∃ z lT lB, r = some (av_I z) ∧ hb s h' ∧ fr (WEv v e) h h' ∧ lT = rdT (sT * (2 ^ (d.toNat + 1) - 1)) (sB * n * 2 ^ d.toNat) ∧ lB = rdB (sT * (2 ^ (d.toNat + 1) - 1)) (sB * n * 2 ^ d.toNat) ∧ (1 ≤ lT ∧ 1 ≤ lB) ∧ (h'.2.1 (v + 7) e = b ∧ h'.2.1 (v + 8) e = (bars : Int) - 1 ∧ h'.2.2.1 (v + 11) e = lT ∧ h'.2.2.1 (v + 12) e = lB) ∧ (isFr lT lB = true → z = 0) ∧ (¬ isFr lT lB = true → h'.2.1 v 14 = (e : Int) + 1 ∧ h'.2.2.1 (v + 9) (e + 1) = rdT (nT * lB + lT * nB) (nB * lB) ∧ h'.2.2.1 (v + 10) (e + 1) = rdB (nT * lB + lT * nB) (nB * lB) ∧ z = (if isFr (rdT (nT * lB + lT * nB) (nB * lB)) (rdB (nT * lB + lT * nB) (nB * lB)) = true then 0 else 1))) := by
  have v24 := isV_24 hv
  have eb : (b : Int).toNat = b := tn_c b
  refine c_Voice_addEvent hv hb0 (fun _ _ _ => ?_)
  unfold B_Voice_addEvent_0
  intro x1 e1 _ _
  obtain rfl : x1 = (e : Int) := e1.trans he
  refine ⟨fun c => by omega, fun _ => ⟨fun c => by omega, fun _ => ⟨fun _ => ⟨⟨by omega, by omega⟩, ?_⟩, fun c => by omega⟩⟩⟩
  rw [eb]
  intro x3 e3 _ _ x5 e5 _ _
  have e3' : x3 = d := e3.trans hd
  subst e3'
  -- the shifts
  have k5 : x5 = 2 ^ (x3.toNat + 1) ∧ 2 ≤ x5 ∧ x5 ≤ 16 := by
    have hy : x3 = 0 ∨ x3 = 1 ∨ x3 = 2 ∨ x3 = 3 := by omega
    rw [e5]; clear e3 hd e5
    rcases hy with rfl | rfl | rfl | rfl <;> decide
  obtain ⟨p5, l5, u5⟩ := k5
  have bT : 1 ≤ sT * (x5 - 1) ∧ sT * (x5 - 1) ≤ 268435456 * 15 :=
    ⟨by have := Int.mul_le_mul hT.1 (show (1:Int) ≤ x5 - 1 by omega) (by decide) (by omega); omega, Int.mul_le_mul hT.2 (by omega) (by omega) (by decide)⟩
  refine ⟨⟨by omega, by omega⟩, fun x7 e7 => ⟨⟨by omega, by omega⟩, fun x10 e10 _ _ x11 e11 => ?_⟩⟩
  have e10' : x10 = n := e10.trans hn
  subst e10'
  have bB : 1 ≤ sB * x10 ∧ sB * x10 ≤ 268435456 * 64 :=
    ⟨by have := Int.mul_le_mul hB.1 hn1.1 (by decide) (by omega); omega, Int.mul_le_mul hB.2 hn1.2 (by omega) (by decide)⟩
  refine ⟨⟨by omega, by omega⟩, fun x13 e13 _ _ => ?_⟩
  have k13 : x13 = 2 ^ x3.toNat ∧ 1 ≤ x13 ∧ x13 ≤ 8 := by
    have hy : x3 = 0 ∨ x3 = 1 ∨ x3 = 2 ∨ x3 = 3 := by omega
    rw [e13]; clear e3 hd e5 e13 p5
    rcases hy with rfl | rfl | rfl | rfl <;> decide
  obtain ⟨p13, l13, u13⟩ := k13
  intro x14 e14
  have bX : 1 ≤ x11 * x13 ∧ x11 * x13 ≤ 17179869184 * 8 :=
    ⟨by have := Int.mul_le_mul (show 1 ≤ x11 by omega) l13 (by decide) (by omega); omega, Int.mul_le_mul (by omega) u13 (by omega) (by decide)⟩
  refine ⟨⟨by omega, by omega⟩, ?_⟩
  have E7 : x7 = sT * (2 ^ (x3.toNat + 1) - 1) := by rw [e7, p5]
  have E14 : x14 = sB * x10 * 2 ^ x3.toNat := by rw [e14, e11, p13]
  rw [← E7, ← E14]
  have h7 : 1 ≤ x7 ∧ x7 ≤ 4026531840 := by omega
  have h14 : 1 ≤ x14 ∧ x14 ≤ 137438953472 := by omega
  clear E7 E14 e14 e7 e11 e13 e5 p5 p13 bX bB bT l5 u5 l13 u13
  refine con_mono (t_PM_greatestDivisor hb0 (by omega) (by omega)) ?_
  rintro r h16 ⟨z18, rfl, hb16, rfl, ez18⟩
  obtain ⟨g1, g2, g3⟩ := gdv_p (b := x14) h7.1
  have g4 := gcd_r (a := x7) h14.1
  have ez : z18 = (Int.gcd x7 x14 : Int) := ez18.trans g1
  refine ⟨z18, rfl, hb16, fun x20 e20 _ _ => ?_⟩
  obtain rfl : x20 = (e : Int) := e20.trans he
  refine ⟨⟨by omega, by omega⟩, ?_⟩
  rw [tn_c e]
  intro h22 e22 x26 e26 _ _
  have e26' : x26 = (bars : Int) := by rw [e26, mm_i e22 (by omega)]; exact hba
  refine ⟨⟨by omega, by omega⟩, fun h28 e28 => ⟨by omega, fun x32 e32 _ _ h33 e33 => ⟨by omega, fun x37 e37 _ _ h38 e38 => ?_⟩⟩⟩
  have E32 : x32 = rdT x7 x14 := by rw [e32, w64_d (by omega) (by omega) (by omega), ez]; rfl
  have E37 : x37 = rdB x7 x14 := by rw [e37, w64_d (by omega) (by omega) (by omega), ez]; rfl
  obtain ⟨t1, t2⟩ := rdT_b h7.1 h14.1
  obtain ⟨u1, u2⟩ := rdB_b h7.1 h14.1
  rw [← E32] at t1 t2
  rw [← E37] at u1 u2
  have hb38 := hb_l (hb_l (hb_i (hb_i hb16 e22) e28) e33) e38
  have f38 : fr (WEv v e) h16 h38 := fr_l (fr_l (fr_i (fr_i fr_0 e22 (by omega)) e28 (by omega)) e33 (by omega)) e38 (by omega)
  have c7 : h38.2.1 (v + 7) e = b := by rw [mm_lo e38, mm_lo e33, mm_i e28 (by omega), mv_i e22]
  have c8 : h38.2.1 (v + 8) e = (bars : Int) - 1 := by rw [mm_lo e38, mm_lo e33, mv_i e28, e26']
  have c11 : h38.2.2.1 (v + 11) e = x32 := by rw [mm_l e38 (by omega), mv_l e33]
  have c12 : h38.2.2.1 (v + 12) e = x37 := by rw [mv_l e38]
  have c14 : h38.2.1 v 14 = (e : Int) := by rw [mm_lo e38, mm_lo e33, mm_i e28 (by omega), mm_i e22 (by omega)]; exact he
  have c9 : h38.2.2.1 (v + 9) e = nT := by rw [fr_gl f38 (by omega)]; exact hnT
  have c10 : h38.2.2.1 (v + 10) e = nB := by rw [fr_gl f38 (by omega)]; exact hnB
  clear e22 e28 e33 e38 e26 e26' e32 e37 ez18 ez g1 g2 g3 g4
  rw [← E32, ← E37]
  refine con_mono (t_Voice_isTold hb38 (by omega)) ?_
  rintro r h46 ⟨hb46, rfl, rfl⟩
  by_cases hfr : isFr x32 x37 = true
  · rw [if_pos hfr]
    exact ⟨0, rfl, hb46, fun _ => ⟨0, x32, x37, rfl, hb46, f38, rfl, rfl, ⟨t1, u1⟩, ⟨c7, c8, c11, c12⟩, fun _ => rfl, fun w => absurd hfr w⟩, fun w => absurd rfl w⟩
  · rw [if_neg hfr]
    obtain ⟨i1, i2⟩ := isFr_n hfr
    refine ⟨1, rfl, hb46, fun w => absurd w (by decide), fun _ x50 e50 _ _ => ?_⟩
    obtain rfl : x50 = (e : Int) := e50.trans c14
    refine ⟨⟨by omega, by omega⟩, ?_⟩
    rw [tn_c e]
    intro x51 e51 _ _
    refine ⟨⟨by omega, by omega⟩, fun x55 e55 _ _ x57 e57 => ?_⟩
    have e51' : x51 = nT := e51.trans c9
    have e55' : x55 = x37 := e55.trans c12
    subst e51' e55'
    have q57 : 0 ≤ x51 * x55 ∧ x51 * x55 ≤ 1000000000 * 1000000 := ⟨Int.mul_nonneg hN.1 (by omega), Int.mul_le_mul (by omega) i2 (by omega) (by decide)⟩
    refine ⟨⟨by omega, by omega⟩, fun x61 e61 _ _ x64 e64 _ _ x65 e65 => ?_⟩
    have e61' : x61 = x32 := e61.trans c11
    have e64' : x64 = nB := e64.trans c10
    subst e61' e64'
    have q65 : 1 ≤ x61 * x64 ∧ x61 * x64 ≤ 1000000000 * 1000000 := ⟨by have := Int.mul_le_mul t1 hN.2.2.1 (by decide) (by omega); omega, Int.mul_le_mul (by omega) hN.2.2.2 (by omega) (by decide)⟩
    have q74 : 1 ≤ x64 * x55 ∧ x64 * x55 ≤ 1000000 * 1000000 := ⟨by have := Int.mul_le_mul hN.2.2.1 u1 (by decide) (by omega); omega, Int.mul_le_mul hN.2.2.2 i2 (by omega) (by decide)⟩
    refine ⟨⟨by omega, by omega⟩, ⟨by omega, by omega⟩, fun x74 e74 => ⟨⟨by omega, by omega⟩, ?_⟩⟩
    rw [← e57] at q57
    rw [← e65] at q65
    rw [← e74] at q74
    have hs1 : 1 ≤ x57 + x65 := by omega
    refine con_mono (t_PM_greatestDivisor hb46 (by omega) (by omega)) ?_
    rintro r h76 ⟨z78, rfl, hb76, rfl, ez78⟩
    obtain ⟨g1, g2, g3⟩ := gdv_p (b := x74) hs1
    have g4 := gcd_r (a := x57 + x65) q74.1
    have ez : z78 = (Int.gcd (x57 + x65) x74 : Int) := ez78.trans g1
    refine ⟨z78, rfl, hb76, fun x79 e79 _ _ => ?_⟩
    obtain rfl : x79 = (e : Int) := e79.trans c14
    refine ⟨⟨by omega, by omega⟩, fun h81 e81 => ⟨by omega, fun x85 e85 _ _ => ⟨⟨by omega, by omega⟩, ?_⟩⟩⟩
    have en : ((e : Int) + 1).toNat = e + 1 := by omega
    rw [en]
    intro h87 e87
    refine ⟨by omega, fun x91 e91 _ _ h92 e92 => ?_⟩
    have E85 : x85 = rdT (x57 + x65) x74 := by rw [e85, w64_d (by omega) (by omega) (by omega), ez]; rfl
    have E91 : x91 = rdB (x57 + x65) x74 := by rw [e91, w64_d (by omega) (by omega) (by omega), ez]; rfl
    obtain ⟨y1, y2⟩ := rdB_b hs1 q74.1
    rw [← E91] at y1 y2
    have hb92 := hb_l (hb_l (hb_i hb76 e81) e87) e92
    have f92 : fr (WEv v e) h76 h92 := fr_l (fr_l (fr_i fr_0 e81 (by omega)) e87 (by omega)) e92 (by omega)
    refine con_mono (t_Voice_isTold hb92 (by omega)) ?_
    rintro r h100 ⟨hb100, rfl, rfl⟩
    refine ⟨_, rfl, hb100, by split <;> decide, _, x61, x55, rfl, hb100, fr_t f38 f92 (fun _ _ w => w), rfl, rfl, ⟨t1, u1⟩, ⟨?_, ?_, ?_, ?_⟩, fun w => absurd w hfr, fun _ => ⟨?_, ?_, ?_, ?_⟩⟩
    · rw [mm_lo e92, mm_lo e87, mm_i e81 (by omega)]; exact c7
    · rw [mm_lo e92, mm_lo e87, mm_i e81 (by omega)]; exact c8
    · rw [mm_l e92 (by omega), mm_l e87 (by omega), mm_io e81]; exact c11
    · rw [mm_l e92 (by omega), mm_l e87 (by omega), mm_io e81]; exact c12
    · rw [mm_lo e92, mm_lo e87, mv_i e81]
    · rw [mm_l e92 (by omega), mv_l e87, E85, e57, e65, e74]
    · rw [mv_l e92, E91, e57, e65, e74]
    · rw [E85, E91, e57, e65, e74]

/-! ===== the WALK, class: what its cells tell ===== -/
def EVh (π α : pm_T) (v e : Nat) (h : ah_T) : Prop := (0 ≤ α 1 e ∧ α 1 e < π 0 0 ∧ π 1 (α 1 e).toNat = 256) ∧ h.2.1 (v + 7) e = π 18 (α 1 e).toNat ∧ (α 0 2 ≤ 100 → h.2.1 (v + 8) e = α 2 e) ∧ (h.2.2.1 (v + 9) e = α 3 e ∧ h.2.2.1 (v + 10) e = α 4 e ∧ h.2.2.1 (v + 11) e = α 5 e ∧ h.2.2.1 (v + 12) e = α 6 e) ∧ (0 ≤ α 3 e ∧ α 3 e ≤ 1000 * α 4 e ∧ 1 ≤ α 4 e ∧ α 4 e ≤ 1000000) ∧ 1 ≤ α 5 e ∧ α 5 e ≤ 1000 * α 6 e ∧ 1 ≤ α 6 e ∧ α 6 e ≤ 1000000
def WKe (π α : pm_T) (v : Nat) (h : ah_T) : Prop := h.2.1 v 14 = α 0 1 ∧ (0 ≤ α 0 4 ∧ α 0 4 ≤ 1000 * α 0 5 ∧ 1 ≤ α 0 5 ∧ α 0 5 ≤ 1000000) ∧ (h.2.2.1 (v + 9) (α 0 1).toNat = α 0 4 ∧ h.2.2.1 (v + 10) (α 0 1).toNat = α 0 5) ∧ (∀ e : Nat, (e : Int) < α 0 1 → EVh π α v e h) ∧ (α 0 2 ≤ 100 → ∀ b : Nat, (b : Int) ≤ α 0 2 → h.2.1 (v + 13) b = α 7 b ∧ 0 ≤ α 7 b ∧ α 7 b ≤ α 0 1)
def WKh (π α : pm_T) (v : Nat) (h : ah_T) : Prop := (h.2.1 9 8 = α 0 0 ∧ h.2.1 9 9 = α 0 1 ∧ h.2.1 9 10 = α 0 2 ∧ h.2.1 9 11 = (if α 0 3 = 0 then 1 else 0)) ∧ (0 ≤ α 0 1 ∧ α 0 1 ≤ α 0 0 ∧ 0 ≤ α 0 2 ∧ α 0 2 ≤ α 0 0) ∧ ((α 0 2 ≤ 100 → h.2.1 v 16 = α 0 2 + 1) ∧ (100 < α 0 2 → h.2.1 v 16 = 101)) ∧ (α 0 3 = 0 ∧ α 0 1 ≤ 300 → WKe π α v h)
theorem wk_st_o {α : pm_T} {a k : Nat} (h : ¬ (a = 0 ∧ k = 0)) : wk_st α a k = α a k := by unfold wk_st; exact up2_o h
theorem WKe_c {π α α' : pm_T} {v : Nat} {h h' : ah_T} (H : WKe π α v h) (e : ∀ a k, ¬ (a = 0 ∧ (k = 0 ∨ k = 3)) → α' a k = α a k) (g : ∀ a k, a ≠ 9 → h'.2.1 a k = h.2.1 a k) (gl : ∀ a k, h'.2.2.1 a k = h.2.2.1 a k) (hv : 24 ≤ v) : WKe π α' v h' := by
  have g1 : ∀ a k, v ≤ a → h'.2.1 a k = h.2.1 a k := fun a k ha => g a k (by omega)
  have e0 : ∀ k, k ≠ 0 → k ≠ 3 → α' 0 k = α 0 k := fun k h0 h3 => e 0 k (by omega)
  have e1 : ∀ a k, 1 ≤ a → α' a k = α a k := fun a k ha => e a k (by omega)
  obtain ⟨h1, h2, h3, h4, h5⟩ := H
  unfold WKe
  rw [e0 1 (by decide) (by decide), e0 4 (by decide) (by decide), e0 5 (by decide) (by decide), e0 2 (by decide) (by decide), g1 _ _ (Nat.le_refl _), gl, gl]
  refine ⟨h1, h2, h3, fun k hk => ?_, fun hl b hb => ?_⟩
  · have := h4 k hk
    unfold EVh at this ⊢
    rw [e1 1 _ (by decide), e1 2 _ (by decide), e1 3 _ (by decide), e1 4 _ (by decide), e1 5 _ (by decide), e1 6 _ (by decide), e0 2 (by decide) (by decide), g1 _ _ (by omega), g1 _ _ (by omega), gl, gl, gl, gl]
    exact this
  · rw [g1 _ _ (by omega), e1 7 _ (by decide)]; exact h5 hl b hb
/-- a step -/
theorem WKh_st {π α : pm_T} {v : Nat} {h h' : ah_T} {x : Int} (hv : isV v) (H : WKh π α v h) (hx : x = h.2.1 9 8) (e : h' = st_i h 9 8 (x + 1)) : WKh π (wk_st α) v h' := by
  have v24 := isV_24 hv
  obtain ⟨⟨a1, a2, a3, a4⟩, b, c, d⟩ := H
  have g : ∀ a k, ¬ (a = 9 ∧ k = 8) → h'.2.1 a k = h.2.1 a k := fun a k q => mm_i e q
  unfold WKh
  rw [wk_st_0, wk_st_o (by omega), wk_st_o (by omega), wk_st_o (by omega)]
  refine ⟨⟨by rw [mv_i e]; omega, ?_, ?_, ?_⟩, by omega, ?_, fun q => WKe_c (d q) (fun a k q => wk_st_o (by omega)) (fun a k q => g a k (by omega)) (fun a k => mm_io e) v24⟩
  · rw [g _ _ (by omega)]; exact a2
  · rw [g _ _ (by omega)]; exact a3
  · rw [g _ _ (by omega)]; exact a4
  · rw [g _ _ (by omega)]; exact c
/-- a | met -/
theorem WKh_ln {π α : pm_T} {v b l : Nat} {h h' : ah_T} (hv : isV v) (H : WKh π α v h) (hs : α 0 2 + 1 ≤ α 0 0) (hl : α 0 2 = (l : Int)) (hb : h.2.1 v 16 = (b : Int)) (f : fr (fun a k => (a = 9 ∧ k = 10) ∨ (a = v + 13 ∧ k = b) ∨ (a = v ∧ k = 16)) h h') (g1 : h'.2.1 9 10 = (l : Int) + 1) (g2 : l < 100 → h'.2.1 (v + 13) b = h.2.1 v 14 ∧ h'.2.1 v 16 = (b : Int) + 1) (g3 : ¬ l < 100 → h'.2.1 v 16 = (b : Int) ∧ ∀ k, h'.2.1 (v + 13) k = h.2.1 (v + 13) k) : WKh π (wk_ln α) v h' := by
  have v24 := isV_24 hv
  obtain ⟨⟨a1, a2, a3, a4⟩, bb, c, d⟩ := H
  have o : ∀ a k, ¬ (a = 0 ∧ k = 2) → a ≠ 7 → wk_ln α a k = α a k := fun a k q q7 => by
    unfold wk_ln; rw [up2_o q]; split
    · rw [up2_o (by omega)]
    · rfl
  have o2 : wk_ln α 0 2 = α 0 2 + 1 := by unfold wk_ln; rw [up2_at]
  have o0 : ∀ k, k ≠ 2 → wk_ln α 0 k = α 0 k := fun k hk => o 0 k (by omega) (by decide)
  have g : ∀ a k, ¬ ((a = 9 ∧ k = 10) ∨ (a = v + 13 ∧ k = b) ∨ (a = v ∧ k = 16)) → h'.2.1 a k = h.2.1 a k := fun a k q => fr_g f q
  have gl : ∀ a k, a ≠ 9 → a ≠ v → a ≠ v + 13 → h'.2.2.1 a k = h.2.2.1 a k := fun a k q1 q2 q3 => fr_gl f (by omega)
  unfold WKh
  rw [o0 0 (by decide), o0 1 (by decide), o0 3 (by decide), o2]
  refine ⟨⟨?_, ?_, by rw [g1]; omega, ?_⟩, by omega, ⟨fun q => ?_, fun q => ?_⟩, fun q => ?_⟩
  · rw [g _ _ (by omega)]; exact a1
  · rw [g _ _ (by omega)]; exact a2
  · rw [g _ _ (by omega)]; exact a4
  · rw [(g2 (by omega)).2]; have := c.1 (by omega); omega
  · by_cases hc : l < 100
    · omega
    · rw [(g3 hc).1]
      by_cases hc2 : α 0 2 ≤ 100
      · have := c.1 hc2; omega
      · have := c.2 (by omega); omega
  · obtain ⟨w1, w2, w3, w4, w5⟩ := d q
    unfold WKe
    rw [o0 1 (by decide), o0 4 (by decide), o0 5 (by decide), o2]
    refine ⟨by rw [g _ _ (by omega)]; exact w1, w2, by rw [gl _ _ (by omega) (by omega) (by omega), gl _ _ (by omega) (by omega) (by omega)]; exact w3, fun e he => ?_, fun hl' k hk => ?_⟩
    · obtain ⟨y1, y2, y3, y4, y5⟩ := w4 e he
      unfold EVh
      rw [o 1 _ (by omega) (by decide), o 2 _ (by omega) (by decide), o 3 _ (by omega) (by decide), o 4 _ (by omega) (by decide), o 5 _ (by omega) (by decide), o 6 _ (by omega) (by decide), o2, g _ _ (by omega), g _ _ (by omega), gl _ _ (by omega) (by omega) (by omega), gl _ _ (by omega) (by omega) (by omega), gl _ _ (by omega) (by omega) (by omega), gl _ _ (by omega) (by omega) (by omega)]
      exact ⟨y1, y2, fun q => y3 (by omega), y4, y5⟩
    · have hb' : b = l + 1 := by have := c.1 (by omega); omega
      have e7 : ∀ k, wk_ln α 7 k = (if k = l + 1 then α 0 1 else α 7 k) := fun k => by
        unfold wk_ln; rw [up2_o (by omega), if_pos (by omega)]
        have : (α 0 2).toNat + 1 = l + 1 := by omega
        rw [this]
        by_cases hc : k = l + 1
        · rw [if_pos hc, hc, up2_at]
        · rw [if_neg hc, up2_o (by omega)]
      rw [e7]
      by_cases hc : k = l + 1
      · rw [if_pos hc, hc, ← hb', (g2 (by omega)).1]
        exact ⟨w1, by omega, Int.le_refl _⟩
      · rw [if_neg hc, g _ _ (by omega)]
        exact w5 (by omega) k (by omega)
