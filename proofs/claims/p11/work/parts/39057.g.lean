/-! ===== the WALK, reference: fractions, an event ===== -/
theorem t_MD_divisor {G : cx_T} {s : Nat} {h : ah_T} {a b : Int} (hb0 : hb s h) (ha : 0 ≤ a) (hb1 : 0 ≤ b) : con G 0 0 0 m_MD_divisor [av_R (some 170), av_L a, av_L b] h (fun r h' => ∃ z, r = some (av_L z) ∧ hb s h' ∧ h' = h ∧ z = (Int.gcd a b : Int)) := by
  refine c_MD_divisor (X17 := fun v5 v7 hh => hh = h ∧ 0 ≤ v5 ∧ 0 ≤ v7 ∧ Int.gcd v5 v7 = Int.gcd a b) ?_ hb0 (fun h1 h2 => ?_)
  · refine lp_MD_divisor_17 (a1 := a) (a2 := b) _ (fun _ v7 _ => v7.toNat) ?_
    rintro v5 v7 hh hb2 ⟨rfl, h5, h7, hg⟩
    unfold B_MD_divisor_17
    refine ⟨fun c => ⟨v5, rfl, hb2, rfl, ?_⟩, fun c => ⟨c, fun x2 e2 l2 u2 => ?_⟩⟩
    · rw [← hg, c, Int.gcd_zero_right]; omega
    · have e2' : x2 = v5 % v7 := by rw [e2, Int.tmod_eq_emod_of_nonneg h5]
      have m0 : 0 ≤ v5 % v7 := Int.emod_nonneg _ c
      have m1 : v5 % v7 < v7 := Int.emod_lt_of_pos _ (by omega)
      refine ⟨⟨rfl, h7, by omega, ?_⟩, by omega⟩
      rw [e2', ← hg]; exact gcd_mod v5 v7
  · unfold B_MD_divisor_0 B_MD_divisor_12
    exact ⟨fun _ => ⟨rfl, ha, hb1, rfl⟩, fun c => absurd ha c⟩
theorem t_MD_fraction {G : cx_T} {s : Nat} {h : ah_T} {a b : Int} (hb0 : hb s h) (ha : 0 ≤ a) (hb1 : 1 ≤ b) : con G 1 0 0 m_MD_fraction [av_R (some 170), av_L a, av_L b] h (fun r h' => r = none ∧ hb s h' ∧ fr (fun x k => x = 170 ∧ (k = 65 ∨ k = 66)) h h' ∧ h'.2.2.1 170 65 = rdT a b ∧ h'.2.2.1 170 66 = rdB a b ∧ h'.2.1 = h.2.1) := by
  obtain ⟨g1, g2⟩ := gcd_r (a := a) hb1
  refine c_MD_fraction hb0 (fun ia ib => ?_)
  unfold i64 at ia ib
  unfold B_MD_fraction_0
  refine con_mono (t_MD_divisor hb0 ha (by omega)) ?_
  rintro r h1 ⟨z, rfl, hb1', rfl, ez⟩
  refine ⟨z, rfl, hb1', by omega, fun x4 e4 _ _ h5 e5 => ⟨by omega, fun x7 e7 _ _ h8 e8 => ⟨rfl, hb_l (hb_l hb1' e5) e8, fr_l (fr_l fr_0 e5 (by omega)) e8 (by omega), ?_, ?_, ?_⟩⟩⟩
  · rw [mm_l e8 (by omega), mv_l e5, e4, w64_d ha (by omega) (by omega), ez]; rfl
  · rw [mv_l e8, e7, w64_d (by omega) (by omega) (by omega), ez]; rfl
  · rw [e8, e5]; rfl
theorem t_MD_sum {G : cx_T} {s : Nat} {h : ah_T} {a b c d : Int} (hb0 : hb s h) (h1 : -9223372036854775808 ≤ a * d ∧ a * d ≤ 9223372036854775807) (h2 : -9223372036854775808 ≤ c * b ∧ c * b ≤ 9223372036854775807) (h3 : 0 ≤ a * d + c * b ∧ a * d + c * b ≤ 9223372036854775807) (h4 : 1 ≤ b * d ∧ b * d ≤ 9223372036854775807) : con G 2 0 0 m_MD_sum [av_R (some 170), av_L a, av_L b, av_L c, av_L d] h (fun r h' => r = none ∧ hb s h' ∧ fr (fun x k => x = 170 ∧ (k = 65 ∨ k = 66)) h h' ∧ h'.2.2.1 170 65 = rdT (a * d + c * b) (b * d) ∧ h'.2.2.1 170 66 = rdB (a * d + c * b) (b * d) ∧ h'.2.1 = h.2.1) := by
  refine c_MD_sum hb0 (fun _ _ _ _ => ?_)
  unfold B_MD_sum_0
  intro x1 e1
  rw [← e1] at h1 h3 ⊢
  refine ⟨⟨by omega, by omega⟩, fun x3 e3 => ?_⟩
  rw [← e3] at h2 h3 ⊢
  refine ⟨⟨by omega, by omega⟩, ⟨by omega, by omega⟩, fun x6 e6 => ?_⟩
  rw [← e6] at h4 ⊢
  refine ⟨⟨by omega, by omega⟩, ?_⟩
  refine con_mono (t_MD_fraction hb0 h3.1 h4.1) ?_
  rintro r h' ⟨rfl, hb1, q⟩
  exact ⟨rfl, hb1, rfl, hb1, q⟩
theorem t_MD_isFar {G : cx_T} {s : Nat} {h : ah_T} {a b : Int} (hb0 : hb s h) (h1 : -9000000000000000 ≤ b ∧ b ≤ 9000000000000000) : con G 0 0 0 m_MD_isFar [av_R (some 170), av_L a, av_L b] h (fun r h' => hb s h' ∧ h' = h ∧ r = some (av_I (if isFr a b = true then 1 else 0))) := by
  refine c_MD_isFar hb0 (fun _ _ => ?_)
  unfold B_MD_isFar_0 B_MD_isFar_23 B_MD_isFar_18 B_MD_isFar_23
  have e : isFr a b = true ↔ (1000 * b < a ∨ 1000000 < b) := by unfold isFr; simp
  refine ⟨⟨by omega, by omega⟩, fun c => ⟨Or.inr rfl, hb0, rfl, by rw [if_pos (e.mpr (Or.inl c))]⟩, fun c => ⟨fun d => ⟨Or.inl rfl, hb0, rfl, ?_⟩, fun d => ⟨Or.inr rfl, hb0, rfl, by rw [if_pos (e.mpr (Or.inr (by omega)))]⟩⟩⟩
  rw [if_neg (fun w => by rcases e.mp w with w | w <;> omega)]
/-- a fraction of like multiples -/
theorem rd_mul {g m n : Int} (hg : 1 ≤ g) : rdT (g * m) (g * n) = rdT m n ∧ rdB (g * m) (g * n) = rdB m n := by
  unfold rdT rdB
  have e : ((Int.gcd (g * m) (g * n) : Nat) : Int) = g * (Int.gcd m n : Int) := by
    rw [Int.gcd_mul_left]
    have : ((g.natAbs : Nat) : Int) = g := by omega
    rw [Int.natCast_mul, this]
  rw [e]
  by_cases c : (Int.gcd m n : Int) = 0
  · rw [c]; simp
  · exact ⟨Int.mul_ediv_mul_of_pos _ _ (by omega), Int.mul_ediv_mul_of_pos _ _ (by omega)⟩
theorem rd_e {x y : Int} (hx : 1 ≤ x) : x = (Int.gcd x y : Int) * rdT x y ∧ y = (Int.gcd x y : Int) * rdB x y ∧ 1 ≤ (Int.gcd x y : Int) := by
  obtain ⟨-, g1, -⟩ := gdv_p (b := y) hx
  unfold rdT rdB
  exact ⟨(Int.mul_ediv_cancel' (Int.gcd_dvd_left x y)).symm, (Int.mul_ediv_cancel' (Int.gcd_dvd_right x y)).symm, g1⟩
/-- a shortened fraction times a / b -/
theorem rd_rd {x y a b : Int} (hx : 1 ≤ x) : rdT (rdT x y * a) (rdB x y * b) = rdT (x * a) (y * b) ∧ rdB (rdT x y * a) (rdB x y * b) = rdB (x * a) (y * b) := by
  obtain ⟨e1, e2, e3⟩ := rd_e (y := y) hx
  have h := rd_mul (m := rdT x y * a) (n := rdB x y * b) e3
  rw [← Int.mul_assoc, ← Int.mul_assoc, ← e1, ← e2] at h
  exact ⟨h.1.symm, h.2.symm⟩
/-- scaled and scaled back -/
theorem rd_back {x y a b : Int} (hx : 1 ≤ x) (ha : 1 ≤ a) (hb : 1 ≤ b) : rdT (rdT (x * a) (y * b) * b) (rdB (x * a) (y * b) * a) = rdT x y ∧ rdB (rdT (x * a) (y * b) * b) (rdB (x * a) (y * b) * a) = rdB x y := by
  have h1 : 1 ≤ x * a := by have := Int.mul_le_mul hx ha (by decide) (by omega); omega
  have h := rd_rd (x := x * a) (y := y * b) (a := b) (b := a) h1
  rw [h.1, h.2]
  have e1 : x * a * b = a * b * x := by rw [Int.mul_assoc, Int.mul_comm]
  have e2 : y * b * a = a * b * y := by rw [Int.mul_assoc, Int.mul_comm, Int.mul_comm b a]
  rw [e1, e2]
  exact rd_mul (by have := Int.mul_le_mul ha hb (by decide) (by omega); omega)
theorem t_MD_scale {G : cx_T} {s : Nat} {h : ah_T} {a b : Int} (hb0 : hb s h) (ha : 1 ≤ a ∧ a ≤ 16) (hb1 : 1 ≤ b ∧ b ≤ 16) (hT : 1 ≤ h.2.2.1 170 77 ∧ h.2.2.1 170 77 ≤ 268435456) (hB : 1 ≤ h.2.2.1 170 78 ∧ h.2.2.1 170 78 ≤ 268435456) : con G 2 0 0 m_MD_scale [av_R (some 170), av_I a, av_I b] h (fun r h' => r = none ∧ hb s h' ∧ fr (fun x k => x = 170 ∧ (k = 65 ∨ k = 66 ∨ k = 77 ∨ k = 78)) h h' ∧ h'.2.2.1 170 77 = rdT (h.2.2.1 170 77 * a) (h.2.2.1 170 78 * b) ∧ h'.2.2.1 170 78 = rdB (h.2.2.1 170 77 * a) (h.2.2.1 170 78 * b) ∧ h'.2.1 = h.2.1) := by
  have m1 : 1 ≤ h.2.2.1 170 77 * a ∧ h.2.2.1 170 77 * a ≤ 268435456 * 16 := ⟨by have := Int.mul_le_mul hT.1 ha.1 (by decide) (by omega); omega, Int.mul_le_mul hT.2 ha.2 (by omega) (by decide)⟩
  have m2 : 1 ≤ h.2.2.1 170 78 * b ∧ h.2.2.1 170 78 * b ≤ 268435456 * 16 := ⟨by have := Int.mul_le_mul hB.1 hb1.1 (by decide) (by omega); omega, Int.mul_le_mul hB.2 hb1.2 (by omega) (by decide)⟩
  refine c_MD_scale hb0 (fun _ _ => ?_)
  unfold B_MD_scale_0
  intro x1 e1 _ _ x2 e2
  rw [← e1, ← e2] at m1
  refine ⟨⟨by omega, by omega⟩, fun x4 e4 _ _ x5 e5 => ?_⟩
  rw [← e4, ← e5] at m2
  refine ⟨⟨by omega, by omega⟩, ?_⟩
  refine con_mono (t_MD_fraction hb0 (by omega) (by omega)) ?_
  rintro r h7 ⟨rfl, hb7, f7, g1, g2, g3⟩
  refine ⟨rfl, hb7, fun x10 e10 _ _ h11 e11 x13 e13 _ _ h14 e14 => ⟨rfl, hb_l (hb_l hb7 e11) e14, fr_l (fr_l (fr_w f7 (fun a k w => by omega)) e11 (by omega)) e14 (by omega), ?_, ?_, ?_⟩⟩
  · rw [mm_l e14 (by omega), mv_l e11, e10, g1, e2, e5, e1, e4]
  · rw [mv_l e14, e13, mm_l e11 (by omega), g2, e2, e5, e1, e4]
  · rw [e14, e11]; exact g3
/-- what an event writes, at row q of its voices -/
abbrev WEm (q : Nat) : Nat → Nat → Prop := fun a k => (((187 ≤ a ∧ a ≤ 191) ∨ (194 ≤ a ∧ a ≤ 198)) ∧ k = q) ∨ ((a = 192 ∨ a = 193) ∧ 4 * q ≤ k ∧ k < 4 * q + 4) ∨ (a = 170 ∧ (k = 65 ∨ k = 66 ∨ k = 74 ∨ k = 75 ∨ k = 76))
theorem t_MD_event {G : cx_T} {s v e j : Nat} {h : ah_T} {π : pm_T} {cT cB nT nB l f : Int} (hb0 : hb s h) (hv : 4 ≤ v ∧ v ≤ 7) (he : h.2.1 170 72 = (e : Int)) (he3 : e < 300) (hj : j < 2100) (E : EMj π j h) (P : EVp π j) (hl : h.2.1 170 73 = l) (hf : h.2.1 170 74 = f) (hf1 : f = 0 ∨ f = 1) (hT : h.2.2.1 170 77 = cT ∧ 1 ≤ cT ∧ cT ≤ 268435456) (hB : h.2.2.1 170 78 = cB ∧ 1 ≤ cB ∧ cB ≤ 268435456) (hN : f = 0 → h.2.2.1 170 75 = nT ∧ h.2.2.1 170 76 = nB ∧ 0 ≤ nT ∧ nT ≤ 1000 * nB ∧ 1 ≤ nB ∧ nB ≤ 1000000) :
    con G 3 0 0 m_MD_event_IIV [av_R (some 170), av_I (v : Int), av_I (j : Int)] h (fun r h' => ∃ lT lB, r = none ∧ hb s h' ∧ fr (WEm (300 * v + e)) h h' ∧ lT = rdT (cT * (2 ^ ((π 3 j).toNat + 1) - 1)) (cB * π 2 j * 2 ^ (π 3 j).toNat) ∧ lB = rdB (cT * (2 ^ ((π 3 j).toNat + 1) - 1)) (cB * π 2 j * 2 ^ (π 3 j).toNat) ∧ (1 ≤ lT ∧ 1 ≤ lB) ∧
      ((f = 1 ∨ isFr lT lB = true) → h'.2.1 170 74 = 1) ∧ (f = 0 → ¬ isFr lT lB = true → (h'.2.1 191 (300 * v + e) = π 5 j ∧ h'.2.1 194 (300 * v + e) = π 17 j ∧ h'.2.1 195 (300 * v + e) = π 4 j ∧ h'.2.1 196 (300 * v + e) = l ∧ h'.2.1 197 (300 * v + e) = π 2 j ∧ h'.2.1 198 (300 * v + e) = π 3 j) ∧
        (∀ p : Nat, (p : Int) < π 5 j → h'.2.1 192 (4 * (300 * v + e) + p) = π (6 + p) j ∧ h'.2.1 193 (4 * (300 * v + e) + p) = π (10 + p) j) ∧ (h'.2.2.1 187 (300 * v + e) = nT ∧ h'.2.2.1 188 (300 * v + e) = nB ∧ h'.2.2.1 189 (300 * v + e) = lT ∧ h'.2.2.1 190 (300 * v + e) = lB) ∧
        (h'.2.2.1 170 75 = rdT (nT * lB + lT * nB) (nB * lB) ∧ h'.2.2.1 170 76 = rdB (nT * lB + lT * nB) (nB * lB) ∧ h'.2.1 170 74 = (if isFr (rdT (nT * lB + lT * nB) (nB * lB)) (rdB (nT * lB + lT * nB) (nB * lB)) = true then 1 else 0)))) := by
  obtain ⟨⟨E1, E2, E3⟩, E4, E5, E6⟩ := E
  obtain ⟨⟨hn1, hd3, hw⟩, -, -, ⟨s1, -⟩⟩ := P
  obtain ⟨q, hq⟩ : ∃ q : Nat, q = 300 * v + e := ⟨_, rfl⟩
  rw [← hq]
  have hqi : 300 * (v : Int) + (e : Int) = (q : Int) := by omega
  have hq2 : q < 2400 := by omega
  refine c_MD_event_IIV (X26 := fun v3 v4 hh => v3 = (q : Int) ∧ 0 ≤ v4 ∧ v4 ≤ 4 ∧ fr (fun a k => (a = 191 ∧ k = q) ∨ ((a = 192 ∨ a = 193) ∧ 4 * q ≤ k ∧ k < 4 * q + 4)) h hh ∧ hh.2.1 191 q = π 5 j ∧ (∀ p : Nat, (p : Int) < v4 → (p : Int) < π 5 j → hh.2.1 192 (4 * q + p) = π (6 + p) j ∧ hh.2.1 193 (4 * q + p) = π (10 + p) j)) ?_ hb0 (fun _ _ => ?_)
  case refine_2 =>
    unfold B_MD_event_IIV_0
    refine ⟨⟨by omega, by omega⟩, fun x2 e2 _ _ => ?_⟩
    have ex2 : x2 = (e : Int) := e2.trans he
    subst ex2
    refine ⟨⟨by omega, by omega⟩, ⟨by omega, by omega⟩, ?_⟩
    rw [tn_c]
    intro x6 e6 _ _
    refine ⟨⟨by omega, by omega⟩, ?_⟩
    rw [hqi, tn_c]
    intro h9 e9
    exact ⟨rfl, by decide, by decide, fr_i fr_0 e9 (Or.inl ⟨rfl, rfl⟩), by rw [mv_i e9, e6, E4], fun p hp => by omega⟩
  refine lp_MD_event_IIV_26 (a1 := (v : Int)) (a2 := (j : Int)) _ (fun _ v4 _ => (4 - v4).toNat) ?_
  rintro v3 v4 hh hb1 ⟨rfl, h40, h44, f1, g191, gk⟩
  have gE : ∀ a k, (201 ≤ a ∧ a ≤ 209) ∨ a = 170 → hh.2.1 a k = h.2.1 a k := fun a k w => fr_g f1 (by omega)
  have gL : ∀ k, hh.2.2.1 170 k = h.2.2.1 170 k := fun k => fr_gl f1 (by omega)
  unfold B_MD_event_IIV_26 B_MD_event_IIV_244
  rw [tn_c j]
  refine ⟨fun c => ⟨⟨by omega, by omega⟩, fun x3 e3 _ _ => ⟨⟨by omega, by omega⟩, ?_⟩⟩, fun c => ⟨⟨by omega, by omega⟩, ⟨by omega, by omega⟩, ⟨by omega, by omega⟩, ⟨by omega, by omega⟩, ⟨by omega, by omega⟩, ?_⟩⟩
  case refine_2 =>
    obtain ⟨p, rfl⟩ : ∃ p : Nat, v4 = (p : Int) := ⟨v4.toNat, by omega⟩
    have ek : (4 * (j : Int) + (p : Int)).toNat = 4 * j + p := by omega
    have ek2 : (4 * (q : Int) + (p : Int)).toNat = 4 * q + p := by omega
    rw [ek, ek2]
    intro x93 e93 _ _
    refine ⟨⟨by omega, by omega⟩, fun h96 e96 x100 e100 _ _ h101 e101 => ⟨⟨by omega, by omega⟩, ⟨rfl, by omega, by omega, fr_i (fr_i f1 e96 (Or.inr ⟨Or.inl rfl, by omega, by omega⟩)) e101 (Or.inr ⟨Or.inr rfl, by omega, by omega⟩), ?_, fun p' hp hp5 => ?_⟩, by omega⟩⟩
    · rw [mm_i e101 (by omega), mm_i e96 (by omega)]; exact g191
    · by_cases cp : p' = p
      · subst cp
        rw [mm_i e101 (by omega), mv_i e96, mv_i e101, e93, e100, mm_i e96 (by omega), gE _ _ (by omega), gE _ _ (by omega)]
        exact E6 p' hp5
      · rw [mm_i e101 (by omega), mm_i e96 (by omega), mm_i e101 (by omega), mm_i e96 (by omega)]
        exact gk p' (by omega) hp5
  have ev4 : v4 = 4 := by omega
  subst ev4
  rw [tn_c q]
  have X3 : x3 = π 17 j := by rw [e3, gE _ _ (by omega)]; exact E5
  intro h6 e6 x10 e10 _
  have X10 : x10 = π 4 j := by rw [e10, mm_i e6 (by omega), gE _ _ (by omega)]; exact E3
  refine ⟨by omega, fun h11 e11 x15 e15 _ _ h16 e16 x20 e20 _ _ h21 e21 x24 e24 _ _ h25 e25 x28 e28 _ _ h29 e29 x32 e32 _ _ h33 e33 x37 e37 _ _ => ?_⟩
  have X15 : x15 = π 2 j := by rw [e15, mm_i e11 (by omega), mm_i e6 (by omega), gE _ _ (by omega)]; exact E1
  have X20 : x20 = π 3 j := by rw [e20, mm_i e16 (by omega), mm_i e11 (by omega), mm_i e6 (by omega), gE _ _ (by omega)]; exact E2
  have X24 : x24 = l := by rw [e24, mm_i e21 (by omega), mm_i e16 (by omega), mm_i e11 (by omega), mm_i e6 (by omega), gE _ _ (by omega)]; exact hl
  have gl25 : ∀ k, h25.2.2.1 170 k = h.2.2.1 170 k := fun k => by rw [mm_io e25, mm_io e21, mm_io e16, mm_io e11, mm_io e6]; exact gL k
  have gl33 : ∀ k, h33.2.2.1 170 k = h.2.2.1 170 k := fun k => by rw [mm_l e33 (by omega), mm_l e29 (by omega)]; exact gl25 k
  have g33 : h33.2.1 = h25.2.1 := by rw [e33, e29]; rfl
  have f33 : fr (WEm q) h h33 := fr_l (fr_l (fr_i (fr_i (fr_i (fr_i (fr_i (fr_w f1 (fun a k w => by omega)) e6 (by omega)) e11 (by omega)) e16 (by omega)) e21 (by omega)) e25 (by omega)) e29 (by omega)) e33 (by omega)
  have hb33 : hb s h33 := hb_l (hb_l (hb_i (hb_i (hb_i (hb_i (hb_i hb1 e6) e11) e16) e21) e25) e29) e33
  have k37 : x37 = 2 ^ (x20.toNat + 1) ∧ 2 ≤ x37 ∧ x37 ≤ 16 := by
    have hy : x20 = 0 ∨ x20 = 1 ∨ x20 = 2 ∨ x20 = 3 := by omega
    rw [e37]
    clear e37 e21 e20 X20
    rcases hy with rfl | rfl | rfl | rfl <;> decide
  obtain ⟨p37, l37, u37⟩ := k37
  have c191 : h25.2.1 191 q = π 5 j := by rw [mm_i e25 (by omega), mm_i e21 (by omega), mm_i e16 (by omega), mm_i e11 (by omega), mm_i e6 (by omega)]; exact g191
  have c194 : h25.2.1 194 q = π 17 j := by rw [mm_i e25 (by omega), mm_i e21 (by omega), mm_i e16 (by omega), mm_i e11 (by omega), mv_i e6, X3]
  have c195 : h25.2.1 195 q = π 4 j := by rw [mm_i e25 (by omega), mm_i e21 (by omega), mm_i e16 (by omega), mv_i e11, X10]
  have c197 : h25.2.1 197 q = π 2 j := by rw [mm_i e25 (by omega), mm_i e21 (by omega), mv_i e16, X15]
  have c198 : h25.2.1 198 q = π 3 j := by rw [mm_i e25 (by omega), mv_i e21, X20]
  have c196 : h25.2.1 196 q = l := by rw [mv_i e25, X24]
  have ck : ∀ p : Nat, (p : Int) < π 5 j → h25.2.1 192 (4 * q + p) = π (6 + p) j ∧ h25.2.1 193 (4 * q + p) = π (10 + p) j := fun p hp => by
    rw [mm_i e25 (by omega), mm_i e21 (by omega), mm_i e16 (by omega), mm_i e11 (by omega), mm_i e6 (by omega), mm_i e25 (by omega), mm_i e21 (by omega), mm_i e16 (by omega), mm_i e11 (by omega), mm_i e6 (by omega)]
    exact gk p (by omega) hp
  have c187 : h33.2.2.1 187 q = x28 := by rw [mm_l e33 (by omega), mv_l e29]
  have c188 : h33.2.2.1 188 q = x32 := mv_l e33
  have X28 : x28 = h.2.2.1 170 75 := by rw [e28, gl25]
  have X32 : x32 = h.2.2.1 170 76 := by rw [e32, mm_l e29 (by omega), gl25]
  have c74 : h33.2.1 170 74 = f := by rw [fr_g (W := fun a k => ((187 ≤ a ∧ a ≤ 191) ∨ (194 ≤ a ∧ a ≤ 198)) ∨ (a = 192 ∨ a = 193)) (fr_l (fr_l (fr_i (fr_i (fr_i (fr_i (fr_i (fr_w f1 (fun a k w => by omega)) e6 (by omega)) e11 (by omega)) e16 (by omega)) e21 (by omega)) e25 (by omega)) e29 (by omega)) e33 (by omega)) (by omega)]; exact hf
  clear e6 e11 e16 e21 e25 e29 e33 e3 e10 e15 e20 e24 e28 e32 e37 f1 gk gE gL g191
  have bT : 1 ≤ (x37 - 1) * cT ∧ (x37 - 1) * cT ≤ 15 * 268435456 :=
    ⟨by have := Int.mul_le_mul (show (1:Int) ≤ x37 - 1 by omega) hT.2.1 (by decide) (by omega); omega, Int.mul_le_mul (by omega) hT.2.2 (by omega) (by decide)⟩
  refine ⟨⟨by omega, by omega⟩, fun x39 e39 _ _ x40 e40 => ?_⟩
  have X39 : x39 = cT := by rw [e39, gl33]; exact hT.1
  rw [X39] at e40
  rw [← e40] at bT
  refine ⟨⟨by omega, by omega⟩, fun x44 e44 _ _ x45 e45 => ?_⟩
  have k44 : x44 = 2 ^ x20.toNat ∧ 1 ≤ x44 ∧ x44 ≤ 8 := by
    have hy : x20 = 0 ∨ x20 = 1 ∨ x20 = 2 ∨ x20 = 3 := by omega
    rw [e44]
    clear e44 X20 p37
    rcases hy with rfl | rfl | rfl | rfl <;> decide
  obtain ⟨p44, l44, u44⟩ := k44
  have bX : 1 ≤ x45 ∧ x45 ≤ 64 * 8 := by
    rw [e45, X15]
    exact ⟨by have := Int.mul_le_mul hn1.1 l44 (by decide) (by omega); omega, Int.mul_le_mul hn1.2 u44 (by omega) (by decide)⟩
  refine ⟨⟨by omega, by omega⟩, fun x47 e47 _ _ x48 e48 => ?_⟩
  have X47 : x47 = cB := by rw [e47, gl33]; exact hB.1
  have bB : 1 ≤ x48 ∧ x48 ≤ 512 * 268435456 := by
    rw [e48, X47]
    exact ⟨by have := Int.mul_le_mul bX.1 hB.2.1 (by decide) (by omega); omega, Int.mul_le_mul (by omega) hB.2.2 (by omega) (by decide)⟩
  refine ⟨⟨by omega, by omega⟩, ?_⟩
  have E40 : x40 = cT * (2 ^ ((π 3 j).toNat + 1) - 1) := by rw [e40, p37, X20, Int.mul_comm]
  have E48 : x48 = cB * π 2 j * 2 ^ (π 3 j).toNat := by rw [e48, X47, e45, X15, p44, X20, Int.mul_comm, Int.mul_assoc]
  rw [← E40, ← E48]
  clear e40 e48 e45 p37 p44 e44 e39 e47 X47 X39 E40 E48 bX l37 u37 l44 u44
  refine con_mono (t_MD_fraction hb33 (by omega) (by omega)) ?_
  rintro r h50 ⟨rfl, hb50, f50, g1, g2, g3⟩
  obtain ⟨t1, t2⟩ := rdT_b (a := x40) (b := x48) (by omega) (by omega)
  obtain ⟨u1, u2⟩ := rdB_b (a := x40) (b := x48) (by omega) (by omega)
  generalize hlT : rdT x40 x48 = lT at *
  generalize hlB : rdB x40 x48 = lB at *
  refine ⟨rfl, hb50, fun x54 e54 _ _ h55 e55 x58 e58 _ _ h59 e59 x61 e61 _ => ?_⟩
  have X54 : x54 = lT := e54.trans g1
  have X58 : x58 = lB := by rw [e58, mm_l e55 (by omega)]; exact g2
  subst X54 X58
  have hb59 := hb_l (hb_l hb50 e55) e59
  have f59 : fr (WEm q) h h59 := fr_l (fr_l (fr_t f33 f50 (fun a k w => by omega)) e55 (by omega)) e59 (by omega)
  have i59 : h59.2.1 = h25.2.1 := by rw [e59, e55]; exact g3.trans g33
  have X61 : x61 = f := by rw [e61, show h59.2.1 = h33.2.1 from i59.trans g33.symm]; exact c74
  have d187 : h59.2.2.1 187 q = x28 := by rw [mm_l e59 (by omega), mm_l e55 (by omega), fr_gl f50 (by omega)]; exact c187
  have d188 : h59.2.2.1 188 q = x32 := by rw [mm_l e59 (by omega), mm_l e55 (by omega), fr_gl f50 (by omega)]; exact c188
  have d189 : h59.2.2.1 189 q = x54 := by rw [mm_l e59 (by omega), mv_l e55]
  have d190 : h59.2.2.1 190 q = x58 := mv_l e59
  have d65 : h59.2.2.1 170 65 = x54 ∧ h59.2.2.1 170 66 = x58 := by rw [mm_l e59 (by omega), mm_l e55 (by omega), mm_l e59 (by omega), mm_l e55 (by omega)]; exact ⟨g1, g2⟩
  have d75 : h59.2.2.1 170 75 = h.2.2.1 170 75 ∧ h59.2.2.1 170 76 = h.2.2.1 170 76 := by rw [mm_l e59 (by omega), mm_l e55 (by omega), mm_l e59 (by omega), mm_l e55 (by omega), fr_gl f50 (by omega), fr_gl f50 (by omega), gl33, gl33]; exact ⟨rfl, rfl⟩
  refine ⟨fun c0 => ?_, fun c0 h1 e1 => ?_⟩
  · have f0 : f = 0 := X61.symm.trans c0
    obtain ⟨n1, n2, n3, n4, n5, n6⟩ := hN f0
    refine con_mono (t_MD_isFar hb59 ⟨by omega, by omega⟩) ?_
    rintro r h64 ⟨hb64, rfl, rfl⟩
    refine ⟨_, rfl, hb64, fun cz => ?_, fun cz h1 e1 => ?_⟩
    · have nf : ¬ isFr x54 x58 = true := fun w => by rw [if_pos w] at cz; exact absurd cz (by decide)
      have nb := isFr_n nf
      intro x67 e67 _ _ x68 e68 _ _ x69 e69 _ _ x70 e70 _ _
      have X67 : x67 = nT := by rw [e67, d75.1]; exact n1
      have X68 : x68 = nB := by rw [e68, d75.2]; exact n2
      have X69 : x69 = x54 := e69.trans d65.1
      have X70 : x70 = x58 := e70.trans d65.2
      subst X67 X68 X69 X70
      have a1 : 0 ≤ x67 * x70 ∧ x67 * x70 ≤ 1000000000 * 1000000 := ⟨Int.mul_nonneg n3 (by omega), Int.mul_le_mul (by omega) nb.2 (by omega) (by decide)⟩
      have a2 : 1 ≤ x69 * x68 ∧ x69 * x68 ≤ 1000000000 * 1000000 := ⟨by have := Int.mul_le_mul t1 n5 (by decide) (by omega); omega, Int.mul_le_mul (by omega) n6 (by omega) (by decide)⟩
      have a3 : 1 ≤ x68 * x70 ∧ x68 * x70 ≤ 1000000 * 1000000 := ⟨by have := Int.mul_le_mul n5 u1 (by decide) (by omega); omega, Int.mul_le_mul n6 nb.2 (by omega) (by decide)⟩
      refine con_mono (t_MD_sum hb64 ⟨by omega, by omega⟩ ⟨by omega, by omega⟩ ⟨by omega, by omega⟩ ⟨by omega, by omega⟩) ?_
      rintro r h71 ⟨rfl, hb71, f71, g71, g72, g73⟩
      obtain ⟨w1, w2⟩ := rdB_b (a := x67 * x70 + x69 * x68) (b := x68 * x70) (by omega) a3.1
      refine ⟨rfl, hb71, fun x74 e74 _ _ h75 e75 x77 e77 _ _ h78 e78 => ?_⟩
      have X74 : x74 = rdT (x67 * x70 + x69 * x68) (x68 * x70) := e74.trans g71
      have X77 : x77 = rdB (x67 * x70 + x69 * x68) (x68 * x70) := by rw [e77, mm_l e75 (by omega)]; exact g72
      rw [← X77] at w1 w2
      have hb78 := hb_l (hb_l hb71 e75) e78
      refine con_mono (t_MD_isFar hb78 ⟨by omega, by omega⟩) ?_
      rintro r h82 ⟨hb82, rfl, rfl⟩
      refine ⟨_, rfl, hb82, by split <;> omega, fun h85 e85 => ?_⟩
      have i78 : h82.2.1 = h25.2.1 := by rw [e78, e75]; exact g73.trans i59
      have f85 : fr (WEm q) h h85 := fr_i (fr_l (fr_l (fr_t f59 f71 (fun a k w => by omega)) e75 (by omega)) e78 (by omega)) e85 (by omega)
      have L : ∀ a k, a ≠ 170 → h85.2.2.1 a k = h64.2.2.1 a k := fun a k w => by rw [mm_io e85, mm_l e78 (by omega), mm_l e75 (by omega), fr_gl f71 (by omega)]
      have I : ∀ a k, a ≠ 170 → h85.2.1 a k = h25.2.1 a k := fun a k w => by rw [mm_i e85 (by omega), i78]
      refine ⟨x69, x70, rfl, hb_i hb82 e85, f85, rfl, rfl, ⟨t1, u1⟩, fun w => ?_, fun _ _ => ⟨?_, fun p hp => ?_, ?_, ?_, ?_, ?_⟩⟩
      · rcases w with w | w
        · omega
        · exact absurd w nf
      · rw [I _ _ (by decide), I _ _ (by decide), I _ _ (by decide), I _ _ (by decide), I _ _ (by decide), I _ _ (by decide)]
        exact ⟨c191, c194, c195, c196, c197, c198⟩
      · rw [I _ _ (by decide), I _ _ (by decide)]; exact ck p hp
      · rw [L _ _ (by decide), L _ _ (by decide), L _ _ (by decide), L _ _ (by decide)]
        exact ⟨d187.trans (X28.trans n1), d188.trans (X32.trans n2), d189, d190⟩
      · rw [mm_io e85, mm_l e78 (by omega), mv_l e75, X74]
      · rw [mm_io e85, mv_l e78, X77]
      · rw [mv_i e85, X74, X77]
    · have yf : isFr x54 x58 = true := Classical.byContradiction (fun w => cz (if_neg w))
      exact ⟨x54, x58, rfl, hb_i hb64 e1, fr_i f59 e1 (by omega), rfl, rfl, ⟨t1, u1⟩, fun _ => mv_i e1, fun _ w => absurd yf w⟩
  · exact ⟨x54, x58, rfl, hb_i hb59 e1, fr_i f59 e1 (by omega), rfl, rfl, ⟨t1, u1⟩, fun _ => mv_i e1, fun w => absurd (X61.trans w) c0⟩
