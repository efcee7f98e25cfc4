/-! ===== readings, the reference ===== -/
def RUm (μ : pm_T) (h : ah_T) : Prop := (h.2.1 177 0 = μ 0 4 ∧ h.2.1 181 0 = μ 0 5) ∧ ((0 ≤ μ 0 4 ∧ μ 0 4 ≤ 24) ∧ (0 ≤ μ 0 5 ∧ μ 0 5 ≤ 12)) ∧ (∀ j : Nat, (j : Int) < μ 0 4 → h.2.1 178 j = μ 2 j ∧ h.2.1 179 j = μ 3 j ∧ h.2.1 180 j = nz (μ 4 j)) ∧ ∀ j : Nat, (j : Int) < μ 0 5 → h.2.1 182 j = μ 5 j
theorem RUm_of {μ : pm_T} {h : ah_T} (K : KSn μ h) : RUm μ h := ⟨⟨K.1.2.2.1, K.1.2.2.2⟩, ⟨K.2.1.2.1, K.2.1.2.2.1⟩, K.2.2.2.1, K.2.2.2.2.1⟩
theorem RUm_f {μ : pm_T} {W : Nat → Nat → Prop} {h h' : ah_T} (H : RUm μ h) (f : fr W h h') (hW : ∀ a k, W a k → a = 170 ∨ 201 ≤ a) : RUm μ h' := by
  obtain ⟨⟨h1, h2⟩, h3, h4, h5⟩ := H
  have g : ∀ a k, 171 ≤ a → a ≤ 200 → h'.2.1 a k = h.2.1 a k := fun a k q1 q2 => fr_g f (fun w => by have := hW a k w; omega)
  refine ⟨⟨(g _ _ (by decide) (by decide)).trans h1, (g _ _ (by decide) (by decide)).trans h2⟩, h3, fun j hj => ?_, fun j hj => (g _ _ (by decide) (by decide)).trans (h5 j hj)⟩
  obtain ⟨x, y, z⟩ := h4 j hj
  exact ⟨(g _ _ (by decide) (by decide)).trans x, (g _ _ (by decide) (by decide)).trans y, (g _ _ (by decide) (by decide)).trans z⟩
theorem nz_n {x : Int} : nz x < 0 ↔ x < 0 := by unfold nz; split <;> omega
theorem nz_p {x : Int} (h : 0 ≤ x) : nz x = x := by unfold nz; rw [if_neg (by omega)]
def TBm (μ : pm_T) (L n f a : Nat) (h : ah_T) : Prop := ∀ a' f' m : Nat, a' ≤ 15 → 1 ≤ m → f' + m ≤ L → (m < n ∨ (m = n ∧ (f' < f ∨ (f' = f ∧ a' < a)))) → h.2.2.1 231 (ixT a' f' m) = trN μ m f' a'
abbrev JWw : Nat → Nat → Prop := fun a k => a = 231 ∨ (a = 170 ∧ k = 98)
abbrev JWx : Nat → Nat → Prop := fun a _ => a = 231
theorem JWw_w : ∀ a k, JWw a k → a = 170 ∨ 201 ≤ a := by
  intro a k w
  rcases w with w | w <;> omega
section
variable {G : cx_T} {s : Nat} {h : ah_T} {μ : pm_T}
theorem m_treeAt {a f n : Nat} (hb0 : hb s h) (ha : a ≤ 15) (hf : f ≤ 12) (hn : n ≤ 12) : con G 0 0 0 m_MD_treeAt [av_R (some 170), av_I (a : Int), av_I (f : Int), av_I (n : Int)] h (fun r h' => r = some (av_I ((ixT a f n : Nat) : Int)) ∧ hb s h' ∧ h' = h) := by
  refine c_MD_treeAt hb0 (fun _ _ _ => ?_)
  unfold B_MD_treeAt_0
  refine ⟨⟨by omega, by omega⟩, ⟨by omega, by omega⟩, ⟨by omega, by omega⟩, ⟨by omega, by omega⟩, ?_, hb0, rfl⟩
  rw [show 169 * (a : Int) + 13 * (f : Int) + (n : Int) = ((ixT a f n : Nat) : Int) by unfold ixT; omega]
theorem m_capped {x : Int} (hb0 : hb s h) : con G 0 0 0 m_MD_capped [av_R (some 170), av_L x] h (fun r h' => r = some (av_L (cap x)) ∧ hb s h' ∧ h' = h) := by
  refine c_MD_capped hb0 (fun _ => ?_)
  unfold B_MD_capped_0 B_MD_capped_15
  refine ⟨fun q => ⟨?_, hb0, rfl⟩, fun q => ⟨?_, hb0, rfl⟩⟩
  · rw [cap_i q]
  · unfold cap; rw [if_pos (by omega)]
theorem m_byRule {r f n l L : Nat} (hb0 : hb s h) (U : RUm μ h) (N : NMg μ) (hL : μ 0 5 = (L : Int)) (hr : (r : Int) < μ 0 4) (hn : 1 ≤ n) (hfn : f + n ≤ L) (hl : 0 ≤ μ 4 r → 1 ≤ l ∧ l < n) (T : TBm μ L n f 0 h) : con G 1 0 0 m_MD_byRule [av_R (some 170), av_I (r : Int), av_I (f : Int), av_I (n : Int), av_I (l : Int)] h (fun q h' => q = some (av_L (if μ 4 r < 0 then (if n = 1 ∧ μ 5 f = μ 3 r then 1 else 0) else cap (trN μ l f (μ 3 r).toNat * trN μ (n - l) (f + l) (μ 4 r).toNat))) ∧ hb s h' ∧ h' = h) := by
  have nb := N.1 r hr
  have r24 := U.2.1.1
  have l12 := U.2.1.2
  obtain ⟨-, x3, x4⟩ := U.2.2.1 r hr
  refine c_MD_byRule hb0 (fun _ _ _ _ => ?_)
  unfold B_MD_byRule_0 B_MD_byRule_33 B_MD_byRule_34
  rw [tn_c, tn_c]
  refine ⟨by omega, fun x2 e2 _ _ => ?_⟩
  have ex := e2.trans x4
  subst ex
  refine ⟨fun q x6 e6 _ _ => ?_, fun q => ?_⟩
  · have p4 : 0 ≤ μ 4 r := by
      rcases Int.lt_or_le (μ 4 r) 0 with w | w
      · have := nz_n.mpr w; omega
      · exact w
    obtain ⟨l1, l2⟩ := hl p4
    rw [nz_p p4] at x4
    have ex : x6 = (((μ 3 r).toNat : Nat) : Int) := by rw [e6, x3]; omega
    subst ex
    refine con_mono (m_treeAt hb0 (by omega) (by omega) (by omega)) ?_
    rintro q2 h2 ⟨rfl, hb2, rfl⟩
    have ib : ixT (μ 3 r).toNat f l < 2704 := by unfold ixT; omega
    refine ⟨_, rfl, hb2, by omega, fun x10 e10 _ _ x14 e14 _ _ => ?_⟩
    rw [tn_c] at e10
    have ex := e10.trans (T (μ 3 r).toNat f l (by omega) l1 (by omega) (Or.inl l2))
    subst ex
    have ex : x14 = (((μ 4 r).toNat : Nat) : Int) := by rw [e14, x4]; omega
    subst ex
    refine ⟨⟨by omega, by omega⟩, ⟨by omega, by omega⟩, ?_⟩
    rw [show (f : Int) + (l : Int) = ((f + l : Nat) : Int) by omega, show (n : Int) - (l : Int) = ((n - l : Nat) : Int) by omega]
    refine con_mono (m_treeAt hb2 (by omega) (by omega) (by omega)) ?_
    rintro q3 h3 ⟨rfl, hb3, rfl⟩
    have ib2 : ixT (μ 4 r).toNat (f + l) (n - l) < 2704 := by unfold ixT; omega
    refine ⟨_, rfl, hb3, by omega, fun x20 e20 _ _ x22 e22 => ?_⟩
    rw [tn_c] at e20
    have ex := e20.trans (T (μ 4 r).toNat (f + l) (n - l) (by omega) (by omega) (by omega) (Or.inl (by omega)))
    subst ex
    have b1 := trN_b (μ := μ) l f (μ 3 r).toNat
    have b2 := trN_b (μ := μ) (n - l) (f + l) (μ 4 r).toNat
    have m0 := Int.mul_nonneg b1.1 b2.1
    have m1 := Int.mul_le_mul b1.2 b2.2 b2.1 (by decide)
    refine ⟨⟨by omega, by omega⟩, ?_⟩
    refine con_mono (m_capped hb3) ?_
    rintro q4 h4 ⟨rfl, hb4, rfl⟩
    refine ⟨_, rfl, hb4, ?_, hb4, rfl⟩
    rw [if_neg (by omega), e22]
  · have n4 : μ 4 r < 0 := nz_n.mp (by omega)
    rw [if_pos n4]
    refine ⟨fun q2 => ⟨by omega, fun x28 e28 _ _ x31 e31 _ _ => ?_⟩, fun q2 => ⟨by rw [if_neg (show ¬ (n = 1 ∧ μ 5 f = μ 3 r) from fun w => by have := w.1; omega)], hb0, rfl⟩⟩
    have ex := e28.trans (U.2.2.2 f (by omega))
    subst ex
    have ex := e31.trans x3
    subst ex
    exact ⟨fun q3 => ⟨by rw [if_pos (show n = 1 ∧ μ 5 f = μ 3 r from ⟨by omega, q3⟩)], hb0, rfl⟩, fun q3 => ⟨by rw [if_neg (show ¬ (n = 1 ∧ μ 5 f = μ 3 r) from fun w => q3 w.2)], hb0, rfl⟩⟩
/-- the whole table, in the reference -/
def TBb (μ : pm_T) (h : ah_T) : Prop := TBm μ (μ 0 5).toNat ((μ 0 5).toNat + 1) 0 0 h
theorem t_MD_readings (hb0 : hb s h) (U : RUm μ h) (N : NMg μ) : con G 2 0 0 m_MD_readings [av_R (some 170)] h (fun q h' => q = some (av_I (reav μ)) ∧ hb s h' ∧ fr JWw h h' ∧ ((reav μ = -2 ∧ h' = h) ∨ (reav μ ≠ -2 ∧ TBb μ h' ∧ ((reav μ = -4 ∧ h'.2.1 170 98 = h.2.1 170 98) ∨ (0 ≤ reav μ ∧ reav μ ≤ 1000000 ∧ h'.2.1 170 98 = reav μ ∧ reav μ = reaN μ))))) := by
  have r24 := U.2.1.1
  have l12 := U.2.1.2
  have rb : 0 ≤ reaN μ ∧ reaN μ ≤ 1000001 := trN_b _ _ _
  by_cases z4 : μ 0 4 = 0
  · have e : reav μ = -2 := by unfold reav; rw [if_pos z4]
    rw [e]
    refine c_MD_readings (X23 := fun _ _ => False) (fun _ _ _ x => x.elim) hb0 ?_
    unfold B_MD_readings_0 B_MD_readings_18
    intro x2 e2 _ _
    exact ⟨fun _ => ⟨rfl, hb0, fr_0, Or.inl ⟨rfl, rfl⟩⟩, fun q => absurd (e2.trans (U.1.1.trans z4)) q⟩
  by_cases z5 : μ 0 5 = 0
  · have e : reav μ = -2 := by unfold reav; rw [if_neg z4, if_pos z5]
    rw [e]
    refine c_MD_readings (X23 := fun _ _ => False) (fun _ _ _ x => x.elim) hb0 ?_
    unfold B_MD_readings_0 B_MD_readings_18
    intro x2 e2 _ _
    refine ⟨fun _ => ⟨rfl, hb0, fr_0, Or.inl ⟨rfl, rfl⟩⟩, fun _ x4 e4 _ _ => ⟨fun _ => ⟨rfl, hb0, fr_0, Or.inl ⟨rfl, rfl⟩⟩, fun q => absurd (e4.trans (U.1.2.trans z5)) q⟩⟩
  have er : reav μ = if 1000000 < reaN μ then -4 else reaN μ := by unfold reav; rw [if_neg z4, if_neg z5]
  generalize eQ : (fun (q : Option av_T) (h' : ah_T) => q = some (av_I (reav μ)) ∧ hb s h' ∧ fr JWw h h' ∧ ((reav μ = -2 ∧ h' = h) ∨ (reav μ ≠ -2 ∧ TBb μ h' ∧ ((reav μ = -4 ∧ h'.2.1 170 98 = h.2.1 170 98) ∨ (0 ≤ reav μ ∧ reav μ ≤ 1000000 ∧ h'.2.1 170 98 = reav μ ∧ reav μ = reaN μ))))) = Q
  obtain ⟨L, eL⟩ : ∃ L, L = (μ 0 5).toNat := ⟨_, rfl⟩
  have hL : μ 0 5 = (L : Int) := by omega
  obtain ⟨R, eR⟩ : ∃ R, R = (μ 0 4).toNat := ⟨_, rfl⟩
  have hR : μ 0 4 = (R : Int) := by omega
  have n0 := N.1 0 (by omega)
  have fU : ∀ {hh : ah_T}, fr JWx h hh → RUm μ hh := fun fw => RUm_f U fw (fun a k w => by omega)
  -- one rule's cuts
  have T117 : ∀ (n f a r : Nat), 1 ≤ n → f + n ≤ L → a ≤ 15 → r < R → (μ 2 r).toNat = a → (∀ hh, hb s hh → fr JWx h hh ∧ TBm μ L n f a hh → aw G (rm_R 2 0 0) m_MD_readings 0 0 61 [some (av_R (some 170)), some (av_I (n : Int)), some (av_I (f : Int)), some (av_I (a : Int)), some (av_L (cap (suR μ (trN μ) a f n (r + 1)))), none, some (av_I ((r + 1 : Nat) : Int)), none] [] hh Q) →
      ∀ (v1 v2 v3 v4 v6 v7 : Int) (hh : ah_T), hb s hh → (v1 = (n : Int) ∧ v2 = (f : Int) ∧ v3 = (a : Int) ∧ v6 = (r : Int) ∧ fr JWx h hh ∧ TBm μ L n f a hh ∧ ∃ l : Nat, v7 = (l : Int) ∧ 1 ≤ l ∧ l ≤ n ∧ ((μ 4 r < 0 ∧ v4 = cap (suR μ (trN μ) a f n (r + 1))) ∨ (0 ≤ μ 4 r ∧ v4 = cap (suR μ (trN μ) a f n r + byC μ (trN μ) r f n (l - 1))))) → aw G (rm_R 2 0 0) m_MD_readings 0 0 117 [some (av_R (some 170)), some (av_I v1), some (av_I v2), some (av_I v3), some (av_L v4), none, some (av_I v6), some (av_I v7)] [] hh Q := by
    intro n f a r hn hfn ha hr hna cont
    have hr' : (r : Int) < μ 0 4 := by omega
    have nb := N.1 r hr'
    have sb := suR_b (μ := μ) (tb := trN μ) trN_b (a := a) (f := f) (n := n) (by omega) r
    have bb := fun k => byC_b (μ := μ) (tb := trN μ) trN_b (r := r) (f := f) (n := n) k
    refine lp_MD_readings_117 (X61 := fun v1 v2 v3 v4 v6 hh => v1 = (n : Int) ∧ v2 = (f : Int) ∧ v3 = (a : Int) ∧ v4 = cap (suR μ (trN μ) a f n (r + 1)) ∧ v6 = ((r + 1 : Nat) : Int) ∧ fr JWx h hh ∧ TBm μ L n f a hh) (fun v1 v2 v3 v4 v6 hh hb' x => by obtain ⟨rfl, rfl, rfl, rfl, rfl, x⟩ := x; exact cont hh hb' x) _ (fun _ _ _ _ _ v7 _ => (20 - v7).toNat) ?_
    rintro v1 v2 v3 v4 v6 v7 hh hb1 ⟨rfl, rfl, rfl, rfl, fw, T, l, rfl, l1, ln, st⟩
    have U1 := fU fw
    unfold B_MD_readings_117 B_MD_readings_158
    have done : v4 = cap (suR μ (trN μ) a f n (r + 1)) → ((-2147483648) ≤ ((r : Int) + 1) ∧ ((r : Int) + 1) ≤ 2147483647) ∧ ((n : Int) = (n : Int) ∧ (f : Int) = (f : Int) ∧ (a : Int) = (a : Int) ∧ v4 = cap (suR μ (trN μ) a f n (r + 1)) ∧ (r : Int) + 1 = ((r + 1 : Nat) : Int) ∧ fr JWx h hh ∧ TBm μ L n f a hh) := fun e => ⟨⟨by omega, by omega⟩, rfl, rfl, rfl, e, by omega, fw, T⟩
    refine ⟨fun q => done ?_, fun q => ⟨by omega, fun x2 e2 _ _ => ?_⟩⟩
    · rcases st with ⟨-, e⟩ | ⟨p4, e⟩
      · exact e
      · rw [e, suR, if_pos hna]
        unfold byR
        rw [if_neg (by omega), show l - 1 = n - 1 by omega]
    rw [tn_c] at e2
    have ex := e2.trans (U1.2.2.1 r hr').2.2
    subst ex
    refine ⟨fun q2 => done ?_, fun q2 => ?_⟩
    · rcases st with ⟨-, e⟩ | ⟨p4, e⟩
      · exact e
      · have := nz_n.mp q2; omega
    rcases st with ⟨n4, -⟩ | ⟨p4, rfl⟩
    · exact absurd (nz_n.mpr n4) q2
    have T0 : TBm μ L n f 0 hh := fun a' f' m h1 h2 h3 h4 => T a' f' m h1 h2 h3 (by omega)
    refine con_mono (m_byRule (l := l) hb1 U1 N hL hr' hn hfn (fun _ => ⟨l1, by omega⟩) T0) ?_
    rintro q3 h4 ⟨rfl, hb4, rfl⟩
    rw [if_neg (show ¬ μ 4 r < 0 by omega)]
    have b1 := trN_b (μ := μ) l f (μ 3 r).toNat
    have b2 := trN_b (μ := μ) (n - l) (f + l) (μ 4 r).toNat
    have m0 := Int.mul_nonneg b1.1 b2.1
    have k0 := bb (l - 1)
    have c1 := cap_b (x := suR μ (trN μ) a f n r + byC μ (trN μ) r f n (l - 1)) (by omega)
    have c2 := cap_b m0
    refine ⟨_, rfl, hb4, ⟨by omega, by omega⟩, ?_⟩
    refine con_mono (m_capped hb4) ?_
    rintro q5 h8 ⟨rfl, hb8, rfl⟩
    refine ⟨_, rfl, hb8, ⟨by omega, by omega⟩, ⟨rfl, rfl, rfl, rfl, fw, T, l + 1, by omega, by omega, by omega, Or.inr ⟨p4, ?_⟩⟩, by omega⟩
    rw [cap_cc (by omega) m0]
    obtain ⟨k, rfl⟩ : ∃ k, l = k + 1 := ⟨l - 1, by omega⟩
    rw [show k + 1 + 1 - 1 = k + 1 by omega, show k + 1 - 1 = k by omega, byC, Int.add_assoc]
  -- all rules
  have T61 : ∀ (n f a : Nat), 1 ≤ n → f + n ≤ L → a ≤ 15 → (∀ hh, hb s hh → fr JWx h hh ∧ TBm μ L n f (a + 1) hh → aw G (rm_R 2 0 0) m_MD_readings 0 0 49 [some (av_R (some 170)), some (av_I (n : Int)), some (av_I (f : Int)), some (av_I ((a + 1 : Nat) : Int)), none, none, none, none] [] hh Q) →
      ∀ (M r : Nat) (hh : ah_T), hb s hh → r ≤ R → fr JWx h hh ∧ TBm μ L n f a hh → R - r < M → aw G (rm_R 2 0 0) m_MD_readings 0 0 61 [some (av_R (some 170)), some (av_I (n : Int)), some (av_I (f : Int)), some (av_I (a : Int)), some (av_L (cap (suR μ (trN μ) a f n r))), none, some (av_I (r : Int)), none] [] hh Q := by
    intro n f a hn hfn ha cont M
    induction M with
    | zero => intro r hh _ _ _ q; omega
    | succ M ih =>
      rintro r hh hbh hr ⟨fw, T⟩ hM
      have U1 := fU fw
      have sb := suR_b (μ := μ) (tb := trN μ) trN_b (a := a) (f := f) (n := n) (by omega) r
      have cs := cap_b sb
      by_cases rr : r = R
      · refine b_MD_readings_61 (X49 := fun v1 v2 v3 hh => v1 = (n : Int) ∧ v2 = (f : Int) ∧ v3 = ((a + 1 : Nat) : Int) ∧ fr JWx h hh ∧ TBm μ L n f (a + 1) hh) (X61 := fun _ _ _ _ _ _ => False) (X117 := fun _ _ _ _ _ _ _ => False) (fun v1 v2 v3 hh hb' x => by obtain ⟨rfl, rfl, rfl, x⟩ := x; exact cont hh hb' x) (fun _ _ _ _ _ _ _ x => x.elim) (fun _ _ _ _ _ _ _ _ x => x.elim) hbh ?_
        unfold B_MD_readings_61
        intro x2 e2 _ _
        have ex := e2.trans (U1.1.1.trans hR)
        subst ex
        refine ⟨fun _ => ?_, fun q => by omega⟩
        refine con_mono (m_treeAt hbh ha (by omega) (by omega)) ?_
        rintro q3 h4 ⟨rfl, hb4, rfl⟩
        have ib : ixT a f n < 2704 := by unfold ixT; omega
        refine ⟨_, rfl, hb4, by omega, fun h8 e8 => ⟨⟨by omega, by omega⟩, rfl, rfl, by omega, fr_l fw e8 rfl, fun a' f' m h1 h2 h3 h4' => ?_⟩⟩
        rw [tn_c] at e8
        by_cases cc : a' = a ∧ f' = f ∧ m = n
        · obtain ⟨rfl, rfl, rfl⟩ := cc
          rw [mv_l e8, trN_s hn, rr, eR]
        · have ne : ixT a' f' m ≠ ixT a f n := fun w => by
            have := ixT_i (show f' ≤ 12 by omega) (show m ≤ 12 by omega) (show f ≤ 12 by omega) (show n ≤ 12 by omega) w
            omega
          rw [mm_l e8 (by omega)]
          exact T a' f' m h1 h2 h3 (by omega)
      · have hr' : (r : Int) < μ 0 4 := by omega
        have nb := N.1 r hr'
        have nxt : ∀ hh, hb s hh → fr JWx h hh ∧ TBm μ L n f a hh → aw G (rm_R 2 0 0) m_MD_readings 0 0 61 [some (av_R (some 170)), some (av_I (n : Int)), some (av_I (f : Int)), some (av_I (a : Int)), some (av_L (cap (suR μ (trN μ) a f n (r + 1)))), none, some (av_I ((r + 1 : Nat) : Int)), none] [] hh Q := fun hh hb' x => ih (r + 1) hh hb' (by omega) x (by omega)
        by_cases hna : (μ 2 r).toNat = a
        · refine b_MD_readings_61 (X49 := fun _ _ _ _ => False) (X61 := fun _ _ _ _ _ _ => False) (X117 := fun v1 v2 v3 v4 v6 v7 hh => v1 = (n : Int) ∧ v2 = (f : Int) ∧ v3 = (a : Int) ∧ v6 = (r : Int) ∧ fr JWx h hh ∧ TBm μ L n f a hh ∧ ∃ l : Nat, v7 = (l : Int) ∧ 1 ≤ l ∧ l ≤ n ∧ ((μ 4 r < 0 ∧ v4 = cap (suR μ (trN μ) a f n (r + 1))) ∨ (0 ≤ μ 4 r ∧ v4 = cap (suR μ (trN μ) a f n r + byC μ (trN μ) r f n (l - 1))))) (fun _ _ _ _ _ x => x.elim) (fun _ _ _ _ _ _ _ x => x.elim) (T117 n f a r hn hfn ha (by omega) hna nxt) hbh ?_
          unfold B_MD_readings_61 B_MD_readings_114
          intro x2 e2 _ _
          have ex := e2.trans (U1.1.1.trans hR)
          subst ex
          refine ⟨fun q => by omega, fun _ => ⟨by omega, fun x12 e12 _ _ => ?_⟩⟩
          rw [tn_c] at e12
          have ex := e12.trans (U1.2.2.1 r hr').1
          subst ex
          refine ⟨fun _ x15 e15 _ _ => ?_, fun q => absurd (by omega) q⟩
          rw [tn_c] at e15
          have ex := e15.trans (U1.2.2.1 r hr').2.2
          subst ex
          refine ⟨fun q => ?_, fun q => ?_⟩
          · have p4 : 0 ≤ μ 4 r := by
              rcases Int.lt_or_le (μ 4 r) 0 with w | w
              · have := nz_n.mpr w; omega
              · exact w
            exact ⟨rfl, rfl, rfl, rfl, fw, T, 1, rfl, Nat.le_refl _, hn, Or.inr ⟨p4, by rw [show (1 : Nat) - 1 = 0 from rfl, byC, Int.add_zero]⟩⟩
          · have n4 : μ 4 r < 0 := nz_n.mp (by omega)
            have T0 : TBm μ L n f 0 hh := fun a' f' m h1 h2 h3 h4 => T a' f' m h1 h2 h3 (by omega)
            refine con_mono (m_byRule (l := 0) hbh U1 N hL hr' hn hfn (fun w => by omega) T0) ?_
            rintro q3 h4 ⟨rfl, hb4, rfl⟩
            rw [if_pos n4]
            have bR : byR μ (trN μ) r f n = if n = 1 ∧ μ 5 f = μ 3 r then 1 else 0 := by unfold byR; rw [if_pos n4]
            have b0 : 0 ≤ byR μ (trN μ) r f n ∧ byR μ (trN μ) r f n ≤ 1 := by
              rw [bR]
              split <;> omega
            rw [← bR]
            refine ⟨_, rfl, hb4, ⟨by omega, by omega⟩, ?_⟩
            refine con_mono (m_capped hb4) ?_
            rintro q5 h8 ⟨rfl, hb8, rfl⟩
            refine ⟨_, rfl, hb8, rfl, rfl, rfl, rfl, fw, T, 1, rfl, Nat.le_refl _, hn, Or.inl ⟨n4, ?_⟩⟩
            rw [suR, if_pos hna, cap_c sb b0.1]
        · refine b_MD_readings_61 (X49 := fun _ _ _ _ => False) (X61 := fun v1 v2 v3 v4 v6 hh => v1 = (n : Int) ∧ v2 = (f : Int) ∧ v3 = (a : Int) ∧ v4 = cap (suR μ (trN μ) a f n (r + 1)) ∧ v6 = ((r + 1 : Nat) : Int) ∧ fr JWx h hh ∧ TBm μ L n f a hh) (X117 := fun _ _ _ _ _ _ _ => False) (fun _ _ _ _ _ x => x.elim) (fun v1 v2 v3 v4 v6 hh hb' x => by obtain ⟨rfl, rfl, rfl, rfl, rfl, x⟩ := x; exact nxt hh hb' x) (fun _ _ _ _ _ _ _ _ x => x.elim) hbh ?_
          unfold B_MD_readings_61 B_MD_readings_158
          intro x2 e2 _ _
          have ex := e2.trans (U1.1.1.trans hR)
          subst ex
          refine ⟨fun q => by omega, fun _ => ⟨by omega, fun x12 e12 _ _ => ?_⟩⟩
          rw [tn_c] at e12
          have ex := e12.trans (U1.2.2.1 r hr').1
          subst ex
          refine ⟨fun q => absurd (by omega) hna, fun _ => ⟨⟨by omega, by omega⟩, rfl, rfl, rfl, ?_, by omega, fw, T⟩⟩
          rw [suR, if_neg hna, Int.add_zero]
  -- all names
  have T49 : ∀ (n f : Nat), 1 ≤ n → f + n ≤ L → (∀ hh, hb s hh → fr JWx h hh ∧ TBm μ L n (f + 1) 0 hh → aw G (rm_R 2 0 0) m_MD_readings 0 0 35 [some (av_R (some 170)), some (av_I (n : Int)), some (av_I ((f + 1 : Nat) : Int)), none, none, none, none, none] [] hh Q) →
      ∀ (M a : Nat) (hh : ah_T), hb s hh → a ≤ 16 → fr JWx h hh ∧ TBm μ L n f a hh → 16 - a < M → aw G (rm_R 2 0 0) m_MD_readings 0 0 49 [some (av_R (some 170)), some (av_I (n : Int)), some (av_I (f : Int)), some (av_I (a : Int)), none, none, none, none] [] hh Q := by
    intro n f hn hfn cont M
    induction M with
    | zero => intro a hh _ _ _ q; omega
    | succ M ih =>
      rintro a hh hbh ha ⟨fw, T⟩ hM
      refine b_MD_readings_49 (X35 := fun v1 v2 hh => v1 = (n : Int) ∧ v2 = ((f + 1 : Nat) : Int) ∧ fr JWx h hh ∧ TBm μ L n (f + 1) 0 hh) (X61 := fun v1 v2 v3 v4 v6 hh => a ≤ 15 ∧ v1 = (n : Int) ∧ v2 = (f : Int) ∧ v3 = (a : Int) ∧ v4 = cap (suR μ (trN μ) a f n 0) ∧ v6 = ((0 : Nat) : Int) ∧ fr JWx h hh ∧ TBm μ L n f a hh) (fun v1 v2 hh hb' x => by obtain ⟨rfl, rfl, x⟩ := x; exact cont hh hb' x) (fun v1 v2 v3 v4 v6 hh hb' x => by obtain ⟨a15, rfl, rfl, rfl, rfl, rfl, x⟩ := x; exact T61 n f a hn hfn a15 (fun hh hb' x => ih (a + 1) hh hb' (by omega) x (by omega)) (R + 1) 0 hh hb' (Nat.zero_le _) x (by omega)) hbh ?_
      unfold B_MD_readings_49
      refine ⟨fun q => ⟨⟨by omega, by omega⟩, rfl, by omega, fw, fun a' f' m h1 h2 h3 h4 => T a' f' m h1 h2 h3 (by omega)⟩, fun q => ⟨by omega, rfl, rfl, rfl, (cap_i (x := 0) (by decide)).symm, rfl, fw, T⟩⟩
  -- all places
  have T35 : ∀ (n : Nat), 1 ≤ n → n ≤ L → (∀ hh, hb s hh → fr JWx h hh ∧ TBm μ L (n + 1) 0 0 hh → aw G (rm_R 2 0 0) m_MD_readings 0 0 23 [some (av_R (some 170)), some (av_I ((n + 1 : Nat) : Int)), none, none, none, none, none, none] [] hh Q) →
      ∀ (M f : Nat) (hh : ah_T), hb s hh → f + n ≤ L + 1 → fr JWx h hh ∧ TBm μ L n f 0 hh → L + 1 - n - f < M → aw G (rm_R 2 0 0) m_MD_readings 0 0 35 [some (av_R (some 170)), some (av_I (n : Int)), some (av_I (f : Int)), none, none, none, none, none] [] hh Q := by
    intro n hn hnL cont M
    induction M with
    | zero => intro f hh _ _ _ q; omega
    | succ M ih =>
      rintro f hh hbh hf ⟨fw, T⟩ hM
      have U1 := fU fw
      refine b_MD_readings_35 (X23 := fun v1 hh => v1 = ((n + 1 : Nat) : Int) ∧ fr JWx h hh ∧ TBm μ L (n + 1) 0 0 hh) (X49 := fun v1 v2 v3 hh => f + n ≤ L ∧ v1 = (n : Int) ∧ v2 = (f : Int) ∧ v3 = ((0 : Nat) : Int) ∧ fr JWx h hh ∧ TBm μ L n f 0 hh) (fun v1 hh hb' x => by obtain ⟨rfl, x⟩ := x; exact cont hh hb' x) (fun v1 v2 v3 hh hb' x => by obtain ⟨fl, rfl, rfl, rfl, x⟩ := x; exact T49 n f hn fl (fun hh hb' x => ih (f + 1) hh hb' (by omega) x (by omega)) 17 0 hh hb' (by omega) x (by omega)) hbh ?_
      unfold B_MD_readings_35
      refine ⟨⟨by omega, by omega⟩, fun x3 e3 _ _ => ?_⟩
      have ex := e3.trans (U1.1.2.trans hL)
      subst ex
      exact ⟨fun q => ⟨⟨by omega, by omega⟩, by omega, fw, fun a' f' m h1 h2 h3 h4 => T a' f' m h1 h2 h3 (by omega)⟩, fun q => ⟨by omega, rfl, rfl, rfl, fw, T⟩⟩
  -- all sizes
  have T23 : ∀ (M n : Nat) (hh : ah_T), hb s hh → 1 ≤ n → n ≤ L + 1 → fr JWx h hh ∧ TBm μ L n 0 0 hh → L + 1 - n < M → aw G (rm_R 2 0 0) m_MD_readings 0 0 23 [some (av_R (some 170)), some (av_I (n : Int)), none, none, none, none, none, none] [] hh Q := by
    intro M
    induction M with
    | zero => intro n hh _ _ _ _ q; omega
    | succ M ih =>
      rintro n hh hbh n1 nL ⟨fw, T⟩ hM
      have U1 := fU fw
      refine b_MD_readings_23 (X35 := fun v1 v2 hh => n ≤ L ∧ v1 = (n : Int) ∧ v2 = ((0 : Nat) : Int) ∧ fr JWx h hh ∧ TBm μ L n 0 0 hh) (fun v1 v2 hh hb' x => by obtain ⟨nl, rfl, rfl, x⟩ := x; exact T35 n n1 nl (fun hh hb' x => ih (n + 1) hh hb' (by omega) (by omega) x (by omega)) (L + 2) 0 hh hb' (by omega) x (by omega)) hbh ?_
      unfold B_MD_readings_23
      intro x2 e2 _ _
      have ex := e2.trans (U1.1.2.trans hL)
      subst ex
      refine ⟨fun q x5 e5 _ _ => ?_, fun q => ⟨by omega, rfl, rfl, fw, T⟩⟩
      have nn : n = L + 1 := by omega
      subst nn
      have ex : x5 = (((μ 2 0).toNat : Nat) : Int) := by rw [e5, (U1.2.2.1 0 (by omega)).1]; omega
      subst ex
      refine con_mono (m_treeAt (f := 0) hbh (by omega) (by omega) (by omega)) ?_
      rintro q3 h8 ⟨rfl, hb8, rfl⟩
      have ib : ixT (μ 2 0).toNat 0 L < 2704 := by unfold ixT; omega
      refine ⟨_, rfl, hb8, by omega, fun x11 e11 _ _ => ?_⟩
      rw [tn_c] at e11
      have er2 : trN μ L 0 (μ 2 0).toNat = reaN μ := by unfold reaN; rw [← eL]
      have ex := e11.trans ((T (μ 2 0).toNat 0 L (by omega) (by omega) (by omega) (Or.inl (by omega))).trans er2)
      subst ex
      have tb : TBb μ h8 := by unfold TBb; rw [← eL]; exact T
      rw [← eQ]
      refine ⟨fun q2 => ⟨⟨by omega, by omega⟩, fun h15 e15 => ?_⟩, fun q2 => ?_⟩
      · have e : reav μ = reaN μ := by rw [er, if_neg (by omega)]
        rw [e]
        refine ⟨rfl, hb_i hb8 e15, fr_i (fr_w fw (fun a k w => Or.inl w)) e15 (Or.inr ⟨rfl, rfl⟩), Or.inr ⟨by omega, fun a' f' m h1 h2 h3 h4 => ?_, Or.inr ⟨by omega, by omega, mv_i e15, rfl⟩⟩⟩
        rw [mm_io e15]
        exact tb a' f' m h1 h2 h3 h4
      · have e : reav μ = -4 := by rw [er, if_pos (by omega)]
        rw [e]
        exact ⟨rfl, hb8, fr_w fw (fun a k w => Or.inl w), Or.inr ⟨by decide, tb, Or.inl ⟨rfl, fr_g fw (by omega)⟩⟩⟩
  refine c_MD_readings (X23 := fun v1 hh => v1 = ((1 : Nat) : Int) ∧ fr JWx h hh ∧ TBm μ L 1 0 0 hh) (fun v1 hh hb' x => by obtain ⟨rfl, x⟩ := x; exact T23 (L + 2) 1 hh hb' (Nat.le_refl _) (by omega) x (by omega)) hb0 ?_
  unfold B_MD_readings_0
  intro x2 e2 _ _
  refine ⟨fun q => absurd (e2.symm.trans q) (by rw [U.1.1]; exact z4), fun _ x4 e4 _ _ => ⟨fun q => absurd (e4.symm.trans q) (by rw [U.1.2]; exact z5), fun _ => ⟨rfl, fr_0, fun a' f' m h1 h2 h3 h4 => by omega⟩⟩⟩
end
