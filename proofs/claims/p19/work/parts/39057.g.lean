/-! ===== the WALK, reference: fractions, an event ===== -/
theorem t_MD_divisor {G : cx_T} {s : Nat} {h : ah_T} {a b : Int} (hb0 : hb s h) (ha : 0 ≤ a) (hb1 : 0 ≤ b) : con G 0 0 0 m_MD_divisor [av_R (some 170), av_L a, av_L b] h (fun r h' => ∃ z, r = some (av_L z) ∧ hb s h' ∧ h' = h ∧ z = (Int.gcd a b : Int)) := by
  refine c_MD_divisor (X17 := fun v5 v7 hh => hh = h ∧ 0 ≤ v5 ∧ 0 ≤ v7 ∧ Int.gcd v5 v7 = Int.gcd a b) ?_ hb0 (fun h1 h2 => ?_)
  · refine lp_MD_divisor_17 (a1 := a) (a2 := b) _ (fun _ v7 _ => v7.toNat) ?_
    rintro v5 v7 hh hb2 ⟨rfl, h5, h7, hg⟩
    unfold B_MD_divisor_17
    refine ⟨fun c => ⟨v5, rfl, hb2, rfl, ?_⟩, fun c => ⟨c, fun x2 e2 l2 u2 => ?_⟩⟩
    · rw [← hg, c, Int.gcd_zero_right]; omega
    · have e2' : x2 = v5 % v7 := by rw [e2, Int.tmod_eq_emod_of_nonneg h5]
      have m0 : 0 ≤ v5 % v7 := Int.emod_nonneg _ c
      have m1 : v5 % v7 < v7 := Int.emod_lt_of_pos _ (by omega)
      refine ⟨⟨rfl, h7, by omega, ?_⟩, by omega⟩
      rw [e2', ← hg]; exact gcd_mod v5 v7
  · unfold B_MD_divisor_0 B_MD_divisor_12
    exact ⟨fun _ => ⟨rfl, ha, hb1, rfl⟩, fun c => absurd ha c⟩
theorem t_MD_fraction {G : cx_T} {s : Nat} {h : ah_T} {a b : Int} (hb0 : hb s h) (ha : 0 ≤ a) (hb1 : 1 ≤ b) : con G 1 0 0 m_MD_fraction [av_R (some 170), av_L a, av_L b] h (fun r h' => r = none ∧ hb s h' ∧ fr (fun x k => x = 170 ∧ (k = 65 ∨ k = 66)) h h' ∧ h'.2.2.1 170 65 = rdT a b ∧ h'.2.2.1 170 66 = rdB a b ∧ h'.2.1 = h.2.1) := by
  obtain ⟨g1, g2⟩ := gcd_r (a := a) hb1
  refine c_MD_fraction hb0 (fun ia ib => ?_)
  unfold i64 at ia ib
  unfold B_MD_fraction_0
  refine con_mono (t_MD_divisor hb0 ha (by omega)) ?_
  rintro r h1 ⟨z, rfl, hb1', rfl, ez⟩
  refine ⟨z, rfl, hb1', by omega, fun x4 e4 _ _ h5 e5 => ⟨by omega, fun x7 e7 _ _ h8 e8 => ⟨rfl, hb_l (hb_l hb1' e5) e8, fr_l (fr_l fr_0 e5 (by omega)) e8 (by omega), ?_, ?_, ?_⟩⟩⟩
  · rw [mm_l e8 (by omega), mv_l e5, e4, w64_d ha (by omega) (by omega), ez]; rfl
  · rw [mv_l e8, e7, w64_d (by omega) (by omega) (by omega), ez]; rfl
  · rw [e8, e5]; rfl
theorem t_MD_sum {G : cx_T} {s : Nat} {h : ah_T} {a b c d : Int} (hb0 : hb s h) (h1 : -9223372036854775808 ≤ a * d ∧ a * d ≤ 9223372036854775807) (h2 : -9223372036854775808 ≤ c * b ∧ c * b ≤ 9223372036854775807) (h3 : 0 ≤ a * d + c * b ∧ a * d + c * b ≤ 9223372036854775807) (h4 : 1 ≤ b * d ∧ b * d ≤ 9223372036854775807) : con G 2 0 0 m_MD_sum [av_R (some 170), av_L a, av_L b, av_L c, av_L d] h (fun r h' => r = none ∧ hb s h' ∧ fr (fun x k => x = 170 ∧ (k = 65 ∨ k = 66)) h h' ∧ h'.2.2.1 170 65 = rdT (a * d + c * b) (b * d) ∧ h'.2.2.1 170 66 = rdB (a * d + c * b) (b * d) ∧ h'.2.1 = h.2.1) := by
  refine c_MD_sum hb0 (fun _ _ _ _ => ?_)
  unfold B_MD_sum_0
  intro x1 e1
  rw [← e1] at h1 h3 ⊢
  refine ⟨⟨by omega, by omega⟩, fun x3 e3 => ?_⟩
  rw [← e3] at h2 h3 ⊢
  refine ⟨⟨by omega, by omega⟩, ⟨by omega, by omega⟩, fun x6 e6 => ?_⟩
  rw [← e6] at h4 ⊢
  refine ⟨⟨by omega, by omega⟩, ?_⟩
  refine con_mono (t_MD_fraction hb0 h3.1 h4.1) ?_
  rintro r h' ⟨rfl, hb1, q⟩
  exact ⟨rfl, hb1, rfl, hb1, q⟩
theorem t_MD_isFar {G : cx_T} {s : Nat} {h : ah_T} {a b : Int} (hb0 : hb s h) (h1 : -9000000000000000 ≤ b ∧ b ≤ 9000000000000000) : con G 0 0 0 m_MD_isFar [av_R (some 170), av_L a, av_L b] h (fun r h' => hb s h' ∧ h' = h ∧ r = some (av_I (if isFr a b = true then 1 else 0))) := by
  refine c_MD_isFar hb0 (fun _ _ => ?_)
  unfold B_MD_isFar_0 B_MD_isFar_23 B_MD_isFar_18 B_MD_isFar_23
  have e : isFr a b = true ↔ (1000 * b < a ∨ 1000000 < b) := by unfold isFr; simp
  refine ⟨⟨by omega, by omega⟩, fun c => ⟨Or.inr rfl, hb0, rfl, by rw [if_pos (e.mpr (Or.inl c))]⟩, fun c => ⟨fun d => ⟨Or.inl rfl, hb0, rfl, ?_⟩, fun d => ⟨Or.inr rfl, hb0, rfl, by rw [if_pos (e.mpr (Or.inr (by omega)))]⟩⟩⟩
  rw [if_neg (fun w => by rcases e.mp w with w | w <;> omega)]
/-- a fraction of like multiples -/
theorem rd_mul {g m n : Int} (hg : 1 ≤ g) : rdT (g * m) (g * n) = rdT m n ∧ rdB (g * m) (g * n) = rdB m n := by
  unfold rdT rdB
  have e : ((Int.gcd (g * m) (g * n) : Nat) : Int) = g * (Int.gcd m n : Int) := by
    rw [Int.gcd_mul_left]
    have : ((g.natAbs : Nat) : Int) = g := by omega
    rw [Int.natCast_mul, this]
  rw [e]
  by_cases c : (Int.gcd m n : Int) = 0
  · rw [c]; simp
  · exact ⟨Int.mul_ediv_mul_of_pos _ _ (by omega), Int.mul_ediv_mul_of_pos _ _ (by omega)⟩
theorem rd_e {x y : Int} (hx : 1 ≤ x) : x = (Int.gcd x y : Int) * rdT x y ∧ y = (Int.gcd x y : Int) * rdB x y ∧ 1 ≤ (Int.gcd x y : Int) := by
  obtain ⟨-, g1, -⟩ := gdv_p (b := y) hx
  unfold rdT rdB
  exact ⟨(Int.mul_ediv_cancel' (Int.gcd_dvd_left x y)).symm, (Int.mul_ediv_cancel' (Int.gcd_dvd_right x y)).symm, g1⟩
/-- a shortened fraction times a / b -/
theorem rd_rd {x y a b : Int} (hx : 1 ≤ x) : rdT (rdT x y * a) (rdB x y * b) = rdT (x * a) (y * b) ∧ rdB (rdT x y * a) (rdB x y * b) = rdB (x * a) (y * b) := by
  obtain ⟨e1, e2, e3⟩ := rd_e (y := y) hx
  have h := rd_mul (m := rdT x y * a) (n := rdB x y * b) e3
  rw [← Int.mul_assoc, ← Int.mul_assoc, ← e1, ← e2] at h
  exact ⟨h.1.symm, h.2.symm⟩
/-- scaled and scaled back -/
theorem rd_back {x y a b : Int} (hx : 1 ≤ x) (ha : 1 ≤ a) (hb : 1 ≤ b) : rdT (rdT (x * a) (y * b) * b) (rdB (x * a) (y * b) * a) = rdT x y ∧ rdB (rdT (x * a) (y * b) * b) (rdB (x * a) (y * b) * a) = rdB x y := by
  have h1 : 1 ≤ x * a := by have := Int.mul_le_mul hx ha (by decide) (by omega); omega
  have h := rd_rd (x := x * a) (y := y * b) (a := b) (b := a) h1
  rw [h.1, h.2]
  have e1 : x * a * b = a * b * x := by rw [Int.mul_assoc, Int.mul_comm]
  have e2 : y * b * a = a * b * y := by rw [Int.mul_assoc, Int.mul_comm, Int.mul_comm b a]
  rw [e1, e2]
  exact rd_mul (by have := Int.mul_le_mul ha hb (by decide) (by omega); omega)
theorem t_MD_scale {G : cx_T} {s : Nat} {h : ah_T} {a b : Int} (hb0 : hb s h) (ha : 1 ≤ a ∧ a ≤ 16) (hb1 : 1 ≤ b ∧ b ≤ 16) (hT : 1 ≤ h.2.2.1 170 77 ∧ h.2.2.1 170 77 ≤ 268435456) (hB : 1 ≤ h.2.2.1 170 78 ∧ h.2.2.1 170 78 ≤ 268435456) : con G 2 0 0 m_MD_scale [av_R (some 170), av_I a, av_I b] h (fun r h' => r = none ∧ hb s h' ∧ fr (fun x k => x = 170 ∧ (k = 65 ∨ k = 66 ∨ k = 77 ∨ k = 78)) h h' ∧ h'.2.2.1 170 77 = rdT (h.2.2.1 170 77 * a) (h.2.2.1 170 78 * b) ∧ h'.2.2.1 170 78 = rdB (h.2.2.1 170 77 * a) (h.2.2.1 170 78 * b) ∧ h'.2.1 = h.2.1) := by
  have m1 : 1 ≤ h.2.2.1 170 77 * a ∧ h.2.2.1 170 77 * a ≤ 268435456 * 16 := ⟨by have := Int.mul_le_mul hT.1 ha.1 (by decide) (by omega); omega, Int.mul_le_mul hT.2 ha.2 (by omega) (by decide)⟩
  have m2 : 1 ≤ h.2.2.1 170 78 * b ∧ h.2.2.1 170 78 * b ≤ 268435456 * 16 := ⟨by have := Int.mul_le_mul hB.1 hb1.1 (by decide) (by omega); omega, Int.mul_le_mul hB.2 hb1.2 (by omega) (by decide)⟩
  refine c_MD_scale hb0 (fun _ _ => ?_)
  unfold B_MD_scale_0
  intro x1 e1 _ _ x2 e2
  rw [← e1, ← e2] at m1
  refine ⟨⟨by omega, by omega⟩, fun x4 e4 _ _ x5 e5 => ?_⟩
  rw [← e4, ← e5] at m2
  refine ⟨⟨by omega, by omega⟩, ?_⟩
  refine con_mono (t_MD_fraction hb0 (by omega) (by omega)) ?_
  rintro r h7 ⟨rfl, hb7, f7, g1, g2, g3⟩
  refine ⟨rfl, hb7, fun x10 e10 _ _ h11 e11 x13 e13 _ _ h14 e14 => ⟨rfl, hb_l (hb_l hb7 e11) e14, fr_l (fr_l (fr_w f7 (fun a k w => by omega)) e11 (by omega)) e14 (by omega), ?_, ?_, ?_⟩⟩
  · rw [mm_l e14 (by omega), mv_l e11, e10, g1, e2, e5, e1, e4]
  · rw [mv_l e14, e13, mm_l e11 (by omega), g2, e2, e5, e1, e4]
  · rw [e14, e11]; exact g3
/-- what an event writes, at row q of its voices -/
abbrev WEm (q : Nat) : Nat → Nat → Prop := fun a k => (((187 ≤ a ∧ a ≤ 191) ∨ (194 ≤ a ∧ a ≤ 198)) ∧ k = q) ∨ ((a = 192 ∨ a = 193) ∧ 4 * q ≤ k ∧ k < 4 * q + 4) ∨ (a = 170 ∧ (k = 65 ∨ k = 66 ∨ k = 74 ∨ k = 75 ∨ k = 76))
theorem t_MD_event {G : cx_T} {s v e j : Nat} {h : ah_T} {π : pm_T} {cT cB nT nB l f : Int} (hb0 : hb s h) (hv : 4 ≤ v ∧ v ≤ 7) (he : h.2.1 170 72 = (e : Int)) (he3 : e < 300) (hj : j < 2100) (E : EMj π j h) (P : EVp π j) (hl : h.2.1 170 73 = l) (hf : h.2.1 170 74 = f) (hf1 : f = 0 ∨ f = 1) (hT : h.2.2.1 170 77 = cT ∧ 1 ≤ cT ∧ cT ≤ 268435456) (hB : h.2.2.1 170 78 = cB ∧ 1 ≤ cB ∧ cB ≤ 268435456) (hN : f = 0 → h.2.2.1 170 75 = nT ∧ h.2.2.1 170 76 = nB ∧ 0 ≤ nT ∧ nT ≤ 1000 * nB ∧ 1 ≤ nB ∧ nB ≤ 1000000) :
    con G 3 0 0 m_MD_event_IIV [av_R (some 170), av_I (v : Int), av_I (j : Int)] h (fun r h' => ∃ lT lB, r = none ∧ hb s h' ∧ fr (WEm (300 * v + e)) h h' ∧ lT = rdT (cT * (2 ^ ((π 3 j).toNat + 1) - 1)) (cB * π 2 j * 2 ^ (π 3 j).toNat) ∧ lB = rdB (cT * (2 ^ ((π 3 j).toNat + 1) - 1)) (cB * π 2 j * 2 ^ (π 3 j).toNat) ∧ (1 ≤ lT ∧ 1 ≤ lB) ∧
      ((f = 1 ∨ isFr lT lB = true) → h'.2.1 170 74 = 1) ∧ (f = 0 → ¬ isFr lT lB = true → (h'.2.1 191 (300 * v + e) = π 5 j ∧ h'.2.1 194 (300 * v + e) = π 17 j ∧ h'.2.1 195 (300 * v + e) = π 4 j ∧ h'.2.1 196 (300 * v + e) = l ∧ h'.2.1 197 (300 * v + e) = π 2 j ∧ h'.2.1 198 (300 * v + e) = π 3 j) ∧
        (∀ p : Nat, (p : Int) < π 5 j → h'.2.1 192 (4 * (300 * v + e) + p) = π (6 + p) j ∧ h'.2.1 193 (4 * (300 * v + e) + p) = π (10 + p) j) ∧ (h'.2.2.1 187 (300 * v + e) = nT ∧ h'.2.2.1 188 (300 * v + e) = nB ∧ h'.2.2.1 189 (300 * v + e) = lT ∧ h'.2.2.1 190 (300 * v + e) = lB) ∧
        (h'.2.2.1 170 75 = rdT (nT * lB + lT * nB) (nB * lB) ∧ h'.2.2.1 170 76 = rdB (nT * lB + lT * nB) (nB * lB) ∧ h'.2.1 170 74 = (if isFr (rdT (nT * lB + lT * nB) (nB * lB)) (rdB (nT * lB + lT * nB) (nB * lB)) = true then 1 else 0)))) := by
  obtain ⟨⟨E1, E2, E3⟩, E4, E5, E6⟩ := E
  obtain ⟨⟨hn1, hd3, hw⟩, -, -, ⟨s1, -⟩⟩ := P
  obtain ⟨q, hq⟩ : ∃ q : Nat, q = 300 * v + e := ⟨_, rfl⟩
  rw [← hq]
  have hqi : 300 * (v : Int) + (e : Int) = (q : Int) := by omega
  have hq2 : q < 2400 := by omega
  refine c_MD_event_IIV (X26 := fun v3 v4 hh => v3 = (q : Int) ∧ 0 ≤ v4 ∧ v4 ≤ 4 ∧ fr (fun a k => (a = 191 ∧ k = q) ∨ ((a = 192 ∨ a = 193) ∧ 4 * q ≤ k ∧ k < 4 * q + 4)) h hh ∧ hh.2.1 191 q = π 5 j ∧ (∀ p : Nat, (p : Int) < v4 → (p : Int) < π 5 j → hh.2.1 192 (4 * q + p) = π (6 + p) j ∧ hh.2.1 193 (4 * q + p) = π (10 + p) j)) ?_ hb0 (fun _ _ => ?_)
  case refine_2 =>
    unfold B_MD_event_IIV_0
    refine ⟨⟨by omega, by omega⟩, fun x2 e2 _ _ => ?_⟩
    have ex2 : x2 = (e : Int) := e2.trans he
    subst ex2
    refine ⟨⟨by omega, by omega⟩, ⟨by omega, by omega⟩, ?_⟩
    rw [tn_c]
    intro x6 e6 _ _
    refine ⟨⟨by omega, by omega⟩, ?_⟩
    rw [hqi, tn_c]
    intro h9 e9
    exact ⟨rfl, by decide, by decide, fr_i fr_0 e9 (Or.inl ⟨rfl, rfl⟩), by rw [mv_i e9, e6, E4], fun p hp => by omega⟩
  refine lp_MD_event_IIV_26 (a1 := (v : Int)) (a2 := (j : Int)) _ (fun _ v4 _ => (4 - v4).toNat) ?_
  rintro v3 v4 hh hb1 ⟨rfl, h40, h44, f1, g191, gk⟩
  have gE : ∀ a k, (201 ≤ a ∧ a ≤ 209) ∨ a = 170 → hh.2.1 a k = h.2.1 a k := fun a k w => fr_g f1 (by omega)
  have gL : ∀ k, hh.2.2.1 170 k = h.2.2.1 170 k := fun k => fr_gl f1 (by omega)
  unfold B_MD_event_IIV_26 B_MD_event_IIV_244
  rw [tn_c j]
  refine ⟨fun c => ⟨⟨by omega, by omega⟩, fun x3 e3 _ _ => ⟨⟨by omega, by omega⟩, ?_⟩⟩, fun c => ⟨⟨by omega, by omega⟩, ⟨by omega, by omega⟩, ⟨by omega, by omega⟩, ⟨by omega, by omega⟩, ⟨by omega, by omega⟩, ?_⟩⟩
  case refine_2 =>
    obtain ⟨p, rfl⟩ : ∃ p : Nat, v4 = (p : Int) := ⟨v4.toNat, by omega⟩
    have ek : (4 * (j : Int) + (p : Int)).toNat = 4 * j + p := by omega
    have ek2 : (4 * (q : Int) + (p : Int)).toNat = 4 * q + p := by omega
    rw [ek, ek2]
    intro x93 e93 _ _
    refine ⟨⟨by omega, by omega⟩, fun h96 e96 x100 e100 _ _ h101 e101 => ⟨⟨by omega, by omega⟩, ⟨rfl, by omega, by omega, fr_i (fr_i f1 e96 (Or.inr ⟨Or.inl rfl, by omega, by omega⟩)) e101 (Or.inr ⟨Or.inr rfl, by omega, by omega⟩), ?_, fun p' hp hp5 => ?_⟩, by omega⟩⟩
    · rw [mm_i e101 (by omega), mm_i e96 (by omega)]; exact g191
    · by_cases cp : p' = p
      · subst cp
        rw [mm_i e101 (by omega), mv_i e96, mv_i e101, e93, e100, mm_i e96 (by omega), gE _ _ (by omega), gE _ _ (by omega)]
        exact E6 p' hp5
      · rw [mm_i e101 (by omega), mm_i e96 (by omega), mm_i e101 (by omega), mm_i e96 (by omega)]
        exact gk p' (by omega) hp5
  have ev4 : v4 = 4 := by omega
  subst ev4
  rw [tn_c q]
  have X3 : x3 = π 17 j := by rw [e3, gE _ _ (by omega)]; exact E5
  intro h6 e6 x10 e10 _
  have X10 : x10 = π 4 j := by rw [e10, mm_i e6 (by omega), gE _ _ (by omega)]; exact E3
  refine ⟨by omega, fun h11 e11 x15 e15 _ _ h16 e16 x20 e20 _ _ h21 e21 x24 e24 _ _ h25 e25 x28 e28 _ _ h29 e29 x32 e32 _ _ h33 e33 x37 e37 _ _ => ?_⟩
  have X15 : x15 = π 2 j := by rw [e15, mm_i e11 (by omega), mm_i e6 (by omega), gE _ _ (by omega)]; exact E1
  have X20 : x20 = π 3 j := by rw [e20, mm_i e16 (by omega), mm_i e11 (by omega), mm_i e6 (by omega), gE _ _ (by omega)]; exact E2
  have X24 : x24 = l := by rw [e24, mm_i e21 (by omega), mm_i e16 (by omega), mm_i e11 (by omega), mm_i e6 (by omega), gE _ _ (by omega)]; exact hl
  have gl25 : ∀ k, h25.2.2.1 170 k = h.2.2.1 170 k := fun k => by rw [mm_io e25, mm_io e21, mm_io e16, mm_io e11, mm_io e6]; exact gL k
  have gl33 : ∀ k, h33.2.2.1 170 k = h.2.2.1 170 k := fun k => by rw [mm_l e33 (by omega), mm_l e29 (by omega)]; exact gl25 k
  have g33 : h33.2.1 = h25.2.1 := by rw [e33, e29]; rfl
  have f33 : fr (WEm q) h h33 := fr_l (fr_l (fr_i (fr_i (fr_i (fr_i (fr_i (fr_w f1 (fun a k w => by omega)) e6 (by omega)) e11 (by omega)) e16 (by omega)) e21 (by omega)) e25 (by omega)) e29 (by omega)) e33 (by omega)
  have hb33 : hb s h33 := hb_l (hb_l (hb_i (hb_i (hb_i (hb_i (hb_i hb1 e6) e11) e16) e21) e25) e29) e33
  have k37 : x37 = 2 ^ (x20.toNat + 1) ∧ 2 ≤ x37 ∧ x37 ≤ 16 := by
    have hy : x20 = 0 ∨ x20 = 1 ∨ x20 = 2 ∨ x20 = 3 := by omega
    rw [e37]
    clear e37 e21 e20 X20
    rcases hy with rfl | rfl | rfl | rfl <;> decide
  obtain ⟨p37, l37, u37⟩ := k37
  have c191 : h25.2.1 191 q = π 5 j := by rw [mm_i e25 (by omega), mm_i e21 (by omega), mm_i e16 (by omega), mm_i e11 (by omega), mm_i e6 (by omega)]; exact g191
  have c194 : h25.2.1 194 q = π 17 j := by rw [mm_i e25 (by omega), mm_i e21 (by omega), mm_i e16 (by omega), mm_i e11 (by omega), mv_i e6, X3]
  have c195 : h25.2.1 195 q = π 4 j := by rw [mm_i e25 (by omega), mm_i e21 (by omega), mm_i e16 (by omega), mv_i e11, X10]
  have c197 : h25.2.1 197 q = π 2 j := by rw [mm_i e25 (by omega), mm_i e21 (by omega), mv_i e16, X15]
  have c198 : h25.2.1 198 q = π 3 j := by rw [mm_i e25 (by omega), mv_i e21, X20]
  have c196 : h25.2.1 196 q = l := by rw [mv_i e25, X24]
  have ck : ∀ p : Nat, (p : Int) < π 5 j → h25.2.1 192 (4 * q + p) = π (6 + p) j ∧ h25.2.1 193 (4 * q + p) = π (10 + p) j := fun p hp => by
    rw [mm_i e25 (by omega), mm_i e21 (by omega), mm_i e16 (by omega), mm_i e11 (by omega), mm_i e6 (by omega), mm_i e25 (by omega), mm_i e21 (by omega), mm_i e16 (by omega), mm_i e11 (by omega), mm_i e6 (by omega)]
    exact gk p (by omega) hp
  have c187 : h33.2.2.1 187 q = x28 := by rw [mm_l e33 (by omega), mv_l e29]
  have c188 : h33.2.2.1 188 q = x32 := mv_l e33
  have X28 : x28 = h.2.2.1 170 75 := by rw [e28, gl25]
  have X32 : x32 = h.2.2.1 170 76 := by rw [e32, mm_l e29 (by omega), gl25]
  have c74 : h33.2.1 170 74 = f := by rw [fr_g (W := fun a k => ((187 ≤ a ∧ a ≤ 191) ∨ (194 ≤ a ∧ a ≤ 198)) ∨ (a = 192 ∨ a = 193)) (fr_l (fr_l (fr_i (fr_i (fr_i (fr_i (fr_i (fr_w f1 (fun a k w => by omega)) e6 (by omega)) e11 (by omega)) e16 (by omega)) e21 (by omega)) e25 (by omega)) e29 (by omega)) e33 (by omega)) (by omega)]; exact hf
  clear e6 e11 e16 e21 e25 e29 e33 e3 e10 e15 e20 e24 e28 e32 e37 f1 gk gE gL g191
  have bT : 1 ≤ (x37 - 1) * cT ∧ (x37 - 1) * cT ≤ 15 * 268435456 :=
    ⟨by have := Int.mul_le_mul (show (1:Int) ≤ x37 - 1 by omega) hT.2.1 (by decide) (by omega); omega, Int.mul_le_mul (by omega) hT.2.2 (by omega) (by decide)⟩
  refine ⟨⟨by omega, by omega⟩, fun x39 e39 _ _ x40 e40 => ?_⟩
  have X39 : x39 = cT := by rw [e39, gl33]; exact hT.1
  rw [X39] at e40
  rw [← e40] at bT
  refine ⟨⟨by omega, by omega⟩, fun x44 e44 _ _ x45 e45 => ?_⟩
  have k44 : x44 = 2 ^ x20.toNat ∧ 1 ≤ x44 ∧ x44 ≤ 8 := by
    have hy : x20 = 0 ∨ x20 = 1 ∨ x20 = 2 ∨ x20 = 3 := by omega
    rw [e44]
    clear e44 X20 p37
    rcases hy with rfl | rfl | rfl | rfl <;> decide
  obtain ⟨p44, l44, u44⟩ := k44
  have bX : 1 ≤ x45 ∧ x45 ≤ 64 * 8 := by
    rw [e45, X15]
    exact ⟨by have := Int.mul_le_mul hn1.1 l44 (by decide) (by omega); omega, Int.mul_le_mul hn1.2 u44 (by omega) (by decide)⟩
  refine ⟨⟨by omega, by omega⟩, fun x47 e47 _ _ x48 e48 => ?_⟩
  have X47 : x47 = cB := by rw [e47, gl33]; exact hB.1
  have bB : 1 ≤ x48 ∧ x48 ≤ 512 * 268435456 := by
    rw [e48, X47]
    exact ⟨by have := Int.mul_le_mul bX.1 hB.2.1 (by decide) (by omega); omega, Int.mul_le_mul (by omega) hB.2.2 (by omega) (by decide)⟩
  refine ⟨⟨by omega, by omega⟩, ?_⟩
  have E40 : x40 = cT * (2 ^ ((π 3 j).toNat + 1) - 1) := by rw [e40, p37, X20, Int.mul_comm]
  have E48 : x48 = cB * π 2 j * 2 ^ (π 3 j).toNat := by rw [e48, X47, e45, X15, p44, X20, Int.mul_comm, Int.mul_assoc]
  rw [← E40, ← E48]
  clear e40 e48 e45 p37 p44 e44 e39 e47 X47 X39 E40 E48 bX l37 u37 l44 u44
  refine con_mono (t_MD_fraction hb33 (by omega) (by omega)) ?_
  rintro r h50 ⟨rfl, hb50, f50, g1, g2, g3⟩
  obtain ⟨t1, t2⟩ := rdT_b (a := x40) (b := x48) (by omega) (by omega)
  obtain ⟨u1, u2⟩ := rdB_b (a := x40) (b := x48) (by omega) (by omega)
  generalize hlT : rdT x40 x48 = lT at *
  generalize hlB : rdB x40 x48 = lB at *
  refine ⟨rfl, hb50, fun x54 e54 _ _ h55 e55 x58 e58 _ _ h59 e59 x61 e61 _ => ?_⟩
  have X54 : x54 = lT := e54.trans g1
  have X58 : x58 = lB := by rw [e58, mm_l e55 (by omega)]; exact g2
  subst X54 X58
  have hb59 := hb_l (hb_l hb50 e55) e59
  have f59 : fr (WEm q) h h59 := fr_l (fr_l (fr_t f33 f50 (fun a k w => by omega)) e55 (by omega)) e59 (by omega)
  have i59 : h59.2.1 = h25.2.1 := by rw [e59, e55]; exact g3.trans g33
  have X61 : x61 = f := by rw [e61, show h59.2.1 = h33.2.1 from i59.trans g33.symm]; exact c74
  have d187 : h59.2.2.1 187 q = x28 := by rw [mm_l e59 (by omega), mm_l e55 (by omega), fr_gl f50 (by omega)]; exact c187
  have d188 : h59.2.2.1 188 q = x32 := by rw [mm_l e59 (by omega), mm_l e55 (by omega), fr_gl f50 (by omega)]; exact c188
  have d189 : h59.2.2.1 189 q = x54 := by rw [mm_l e59 (by omega), mv_l e55]
  have d190 : h59.2.2.1 190 q = x58 := mv_l e59
  have d65 : h59.2.2.1 170 65 = x54 ∧ h59.2.2.1 170 66 = x58 := by rw [mm_l e59 (by omega), mm_l e55 (by omega), mm_l e59 (by omega), mm_l e55 (by omega)]; exact ⟨g1, g2⟩
  have d75 : h59.2.2.1 170 75 = h.2.2.1 170 75 ∧ h59.2.2.1 170 76 = h.2.2.1 170 76 := by rw [mm_l e59 (by omega), mm_l e55 (by omega), mm_l e59 (by omega), mm_l e55 (by omega), fr_gl f50 (by omega), fr_gl f50 (by omega), gl33, gl33]; exact ⟨rfl, rfl⟩
  refine ⟨fun c0 => ?_, fun c0 h1 e1 => ?_⟩
  · have f0 : f = 0 := X61.symm.trans c0
    obtain ⟨n1, n2, n3, n4, n5, n6⟩ := hN f0
    refine con_mono (t_MD_isFar hb59 ⟨by omega, by omega⟩) ?_
    rintro r h64 ⟨hb64, rfl, rfl⟩
    refine ⟨_, rfl, hb64, fun cz => ?_, fun cz h1 e1 => ?_⟩
    · have nf : ¬ isFr x54 x58 = true := fun w => by rw [if_pos w] at cz; exact absurd cz (by decide)
      have nb := isFr_n nf
      intro x67 e67 _ _ x68 e68 _ _ x69 e69 _ _ x70 e70 _ _
      have X67 : x67 = nT := by rw [e67, d75.1]; exact n1
      have X68 : x68 = nB := by rw [e68, d75.2]; exact n2
      have X69 : x69 = x54 := e69.trans d65.1
      have X70 : x70 = x58 := e70.trans d65.2
      subst X67 X68 X69 X70
      have a1 : 0 ≤ x67 * x70 ∧ x67 * x70 ≤ 1000000000 * 1000000 := ⟨Int.mul_nonneg n3 (by omega), Int.mul_le_mul (by omega) nb.2 (by omega) (by decide)⟩
      have a2 : 1 ≤ x69 * x68 ∧ x69 * x68 ≤ 1000000000 * 1000000 := ⟨by have := Int.mul_le_mul t1 n5 (by decide) (by omega); omega, Int.mul_le_mul (by omega) n6 (by omega) (by decide)⟩
      have a3 : 1 ≤ x68 * x70 ∧ x68 * x70 ≤ 1000000 * 1000000 := ⟨by have := Int.mul_le_mul n5 u1 (by decide) (by omega); omega, Int.mul_le_mul n6 nb.2 (by omega) (by decide)⟩
      refine con_mono (t_MD_sum hb64 ⟨by omega, by omega⟩ ⟨by omega, by omega⟩ ⟨by omega, by omega⟩ ⟨by omega, by omega⟩) ?_
      rintro r h71 ⟨rfl, hb71, f71, g71, g72, g73⟩
      obtain ⟨w1, w2⟩ := rdB_b (a := x67 * x70 + x69 * x68) (b := x68 * x70) (by omega) a3.1
      refine ⟨rfl, hb71, fun x74 e74 _ _ h75 e75 x77 e77 _ _ h78 e78 => ?_⟩
      have X74 : x74 = rdT (x67 * x70 + x69 * x68) (x68 * x70) := e74.trans g71
      have X77 : x77 = rdB (x67 * x70 + x69 * x68) (x68 * x70) := by rw [e77, mm_l e75 (by omega)]; exact g72
      rw [← X77] at w1 w2
      have hb78 := hb_l (hb_l hb71 e75) e78
      refine con_mono (t_MD_isFar hb78 ⟨by omega, by omega⟩) ?_
      rintro r h82 ⟨hb82, rfl, rfl⟩
      refine ⟨_, rfl, hb82, by split <;> omega, fun h85 e85 => ?_⟩
      have i78 : h82.2.1 = h25.2.1 := by rw [e78, e75]; exact g73.trans i59
      have f85 : fr (WEm q) h h85 := fr_i (fr_l (fr_l (fr_t f59 f71 (fun a k w => by omega)) e75 (by omega)) e78 (by omega)) e85 (by omega)
      have L : ∀ a k, a ≠ 170 → h85.2.2.1 a k = h64.2.2.1 a k := fun a k w => by rw [mm_io e85, mm_l e78 (by omega), mm_l e75 (by omega), fr_gl f71 (by omega)]
      have I : ∀ a k, a ≠ 170 → h85.2.1 a k = h25.2.1 a k := fun a k w => by rw [mm_i e85 (by omega), i78]
      refine ⟨x69, x70, rfl, hb_i hb82 e85, f85, rfl, rfl, ⟨t1, u1⟩, fun w => ?_, fun _ _ => ⟨?_, fun p hp => ?_, ?_, ?_, ?_, ?_⟩⟩
      · rcases w with w | w
        · omega
        · exact absurd w nf
      · rw [I _ _ (by decide), I _ _ (by decide), I _ _ (by decide), I _ _ (by decide), I _ _ (by decide), I _ _ (by decide)]
        exact ⟨c191, c194, c195, c196, c197, c198⟩
      · rw [I _ _ (by decide), I _ _ (by decide)]; exact ck p hp
      · rw [L _ _ (by decide), L _ _ (by decide), L _ _ (by decide), L _ _ (by decide)]
        exact ⟨d187.trans (X28.trans n1), d188.trans (X32.trans n2), d189, d190⟩
      · rw [mm_io e85, mm_l e78 (by omega), mv_l e75, X74]
      · rw [mm_io e85, mv_l e78, X77]
      · rw [mv_i e85, X74, X77]
    · have yf : isFr x54 x58 = true := Classical.byContradiction (fun w => cz (if_neg w))
      exact ⟨x54, x58, rfl, hb_i hb64 e1, fr_i f59 e1 (by omega), rfl, rfl, ⟨t1, u1⟩, fun _ => mv_i e1, fun _ w => absurd yf w⟩
  · exact ⟨x54, x58, rfl, hb_i hb59 e1, fr_i f59 e1 (by omega), rfl, rfl, ⟨t1, u1⟩, fun _ => mv_i e1, fun w => absurd (X61.trans w) c0⟩

/-! ===== the WALK, reference: what its cells tell ===== -/
def EVm (π α : pm_T) (v e : Nat) (h : ah_T) : Prop := (0 ≤ α 1 e ∧ α 1 e < π 0 0 ∧ π 1 (α 1 e).toNat = 256) ∧
  (h.2.1 191 (300 * v + e) = π 5 (α 1 e).toNat ∧ h.2.1 194 (300 * v + e) = π 17 (α 1 e).toNat ∧ h.2.1 195 (300 * v + e) = π 4 (α 1 e).toNat ∧ h.2.1 196 (300 * v + e) = α 2 e ∧ h.2.1 197 (300 * v + e) = π 2 (α 1 e).toNat ∧ h.2.1 198 (300 * v + e) = π 3 (α 1 e).toNat) ∧
  (∀ p : Nat, (p : Int) < π 5 (α 1 e).toNat → h.2.1 192 (4 * (300 * v + e) + p) = π (6 + p) (α 1 e).toNat ∧ h.2.1 193 (4 * (300 * v + e) + p) = π (10 + p) (α 1 e).toNat) ∧
  (h.2.2.1 187 (300 * v + e) = α 3 e ∧ h.2.2.1 188 (300 * v + e) = α 4 e ∧ h.2.2.1 189 (300 * v + e) = α 5 e ∧ h.2.2.1 190 (300 * v + e) = α 6 e)
def stT (α : pm_T) (e : Nat) : Int := if (e : Int) < α 0 1 then α 3 e else α 0 4
def stB (α : pm_T) (e : Nat) : Int := if (e : Int) < α 0 1 then α 4 e else α 0 5
def WMe (π α : pm_T) (v : Nat) (h : ah_T) : Prop := (h.2.2.1 170 75 = α 0 4 ∧ h.2.2.1 170 76 = α 0 5) ∧ (0 ≤ α 0 4 ∧ α 0 4 ≤ 1000 * α 0 5 ∧ 1 ≤ α 0 5 ∧ α 0 5 ≤ 1000000) ∧ (∀ e : Nat, (e : Int) < α 0 1 → EVm π α v e h) ∧
  (α 0 2 ≤ 100 → ∀ b : Nat, (b : Int) ≤ α 0 2 → (0 ≤ α 7 b ∧ α 7 b ≤ α 0 1) ∧ h.2.2.1 199 (102 * v + b) = stT α (α 7 b).toNat ∧ h.2.2.1 200 (102 * v + b) = stB α (α 7 b).toNat)
def WMh (π α : pm_T) (v : Nat) (h : ah_T) : Prop := (h.2.1 170 71 = α 0 0 ∧ h.2.1 170 72 = α 0 1 ∧ h.2.1 170 73 = α 0 2 ∧ h.2.1 170 74 = α 0 3 ∧ (α 0 3 = 0 ∨ α 0 3 = 1)) ∧ (0 ≤ α 0 1 ∧ α 0 1 ≤ α 0 0 ∧ 0 ≤ α 0 2 ∧ α 0 2 ≤ α 0 0) ∧ (α 0 3 = 0 ∧ α 0 1 ≤ 300 → WMe π α v h)
theorem WMe_c {π α α' : pm_T} {v : Nat} {h h' : ah_T} (H : WMe π α v h) (e : ∀ a k, ¬ (a = 0 ∧ (k = 0 ∨ k = 3)) → α' a k = α a k) (g : ∀ a k, 187 ≤ a → a ≤ 198 → h'.2.1 a k = h.2.1 a k ∧ h'.2.2.1 a k = h.2.2.1 a k) (g3 : ∀ b : Nat, (b : Int) ≤ α 0 2 → h'.2.2.1 199 (102 * v + b) = h.2.2.1 199 (102 * v + b) ∧ h'.2.2.1 200 (102 * v + b) = h.2.2.1 200 (102 * v + b)) (g2 : h'.2.2.1 170 75 = h.2.2.1 170 75 ∧ h'.2.2.1 170 76 = h.2.2.1 170 76) : WMe π α' v h' := by
  have e0 : ∀ k, k ≠ 0 → k ≠ 3 → α' 0 k = α 0 k := fun k h0 h3 => e 0 k (by omega)
  have e1 : ∀ a k, 1 ≤ a → α' a k = α a k := fun a k ha => e a k (by omega)
  have gi : ∀ a k, 187 ≤ a → a ≤ 198 → h'.2.1 a k = h.2.1 a k := fun a k q1 q2 => (g a k q1 q2).1
  have gl : ∀ a k, 187 ≤ a → a ≤ 198 → h'.2.2.1 a k = h.2.2.1 a k := fun a k q1 q2 => (g a k q1 q2).2
  obtain ⟨h1, h2, h3, h4⟩ := H
  unfold WMe
  rw [e0 1 (by decide) (by decide), e0 4 (by decide) (by decide), e0 5 (by decide) (by decide), e0 2 (by decide) (by decide), g2.1, g2.2]
  refine ⟨h1, h2, fun k hk => ?_, fun hl b hb => ?_⟩
  · have := h3 k hk
    unfold EVm at this ⊢
    rw [e1 1 _ (by decide), e1 2 _ (by decide), e1 3 _ (by decide), e1 4 _ (by decide), e1 5 _ (by decide), e1 6 _ (by decide), gi 191 _ (by decide) (by decide), gi 194 _ (by decide) (by decide), gi 195 _ (by decide) (by decide), gi 196 _ (by decide) (by decide), gi 197 _ (by decide) (by decide), gi 198 _ (by decide) (by decide), gl 187 _ (by decide) (by decide), gl 188 _ (by decide) (by decide), gl 189 _ (by decide) (by decide), gl 190 _ (by decide) (by decide)]
    refine ⟨this.1, this.2.1, fun p hp => ?_, this.2.2.2⟩
    rw [gi _ _ (by decide) (by decide), gi _ _ (by decide) (by decide)]
    exact this.2.2.1 p hp
  · have := h4 hl b hb
    unfold stT stB at this ⊢
    rw [e1 7 _ (by decide), e0 1 (by decide) (by decide), e0 4 (by decide) (by decide), e0 5 (by decide) (by decide), e1 3 _ (by decide), e1 4 _ (by decide), (g3 b hb).1, (g3 b hb).2]
    exact this
/-- other cells are written -/
theorem WMh_f {π α : pm_T} {v : Nat} {h h' : ah_T} {W : Nat → Nat → Prop} (H : WMh π α v h) (f : fr W h h') (hW : ∀ a k, W a k → (a = 170 ∧ (k ≤ 70 ∨ 77 ≤ k)) ∨ 201 ≤ a) : WMh π α v h' := by
  obtain ⟨⟨a1, a2, a3, a4, a5⟩, b, c⟩ := H
  have g : ∀ (a k : Nat), ¬ ((a = 170 ∧ (k ≤ 70 ∨ 77 ≤ k)) ∨ 201 ≤ a) → h'.2.1 a k = h.2.1 a k := fun a k q => fr_g f (fun w => q (hW a k w))
  have gl : ∀ (a k : Nat), ¬ ((a = 170 ∧ (k ≤ 70 ∨ 77 ≤ k)) ∨ 201 ≤ a) → h'.2.2.1 a k = h.2.2.1 a k := fun a k q => fr_gl f (fun w => q (hW a k w))
  refine ⟨⟨by rw [g _ _ (by omega)]; exact a1, by rw [g _ _ (by omega)]; exact a2, by rw [g _ _ (by omega)]; exact a3, by rw [g _ _ (by omega)]; exact a4, a5⟩, b, fun q => WMe_c (c q) (fun _ _ _ => rfl) (fun a k q1 q2 => ⟨g _ _ (by omega), gl _ _ (by omega)⟩) (fun b _ => ⟨gl _ _ (by omega), gl _ _ (by omega)⟩) ⟨gl _ _ (by omega), gl _ _ (by omega)⟩⟩
/-- a step -/
theorem WMh_st {π α : pm_T} {v : Nat} {h h' : ah_T} {x : Int} (H : WMh π α v h) (hx : x = h.2.1 170 71) (e : h' = st_i h 170 71 (x + 1)) : WMh π (wk_st α) v h' := by
  obtain ⟨⟨a1, a2, a3, a4, a5⟩, b, c⟩ := H
  have g : ∀ a k, ¬ (a = 170 ∧ k = 71) → h'.2.1 a k = h.2.1 a k := fun a k q => mm_i e q
  unfold WMh
  rw [wk_st_0, wk_st_o (by omega), wk_st_o (by omega), wk_st_o (by omega)]
  refine ⟨⟨by rw [mv_i e]; omega, by rw [g _ _ (by omega)]; exact a2, by rw [g _ _ (by omega)]; exact a3, by rw [g _ _ (by omega)]; exact a4, a5⟩, by omega, fun q => WMe_c (c q) (fun a k q => wk_st_o (by omega)) (fun a k q1 q2 => ⟨g _ _ (by omega), mm_io e⟩) (fun _ _ => ⟨mm_io e, mm_io e⟩) ⟨mm_io e, mm_io e⟩⟩
/-- a | met -/
theorem WMh_ln {π α : pm_T} {v l : Nat} {h h' : ah_T} (H : WMh π α v h) (hs : α 0 2 + 1 ≤ α 0 0) (hl : α 0 2 = (l : Int)) (f : fr (fun a k => (a = 170 ∧ k = 73) ∨ ((a = 199 ∨ a = 200) ∧ k = 102 * v + (l + 1))) h h') (g1 : h'.2.1 170 73 = (l : Int) + 1) (g2 : l < 100 → h'.2.2.1 199 (102 * v + (l + 1)) = h.2.2.1 170 75 ∧ h'.2.2.1 200 (102 * v + (l + 1)) = h.2.2.1 170 76) : WMh π (wk_ln α) v h' := by
  obtain ⟨⟨a1, a2, a3, a4, a5⟩, bb, d⟩ := H
  have o : ∀ a k, ¬ (a = 0 ∧ k = 2) → a ≠ 7 → wk_ln α a k = α a k := fun a k q q7 => by
    unfold wk_ln; rw [up2_o q]; split
    · rw [up2_o (by omega)]
    · rfl
  have o2 : wk_ln α 0 2 = α 0 2 + 1 := by unfold wk_ln; rw [up2_at]
  have o0 : ∀ k, k ≠ 2 → wk_ln α 0 k = α 0 k := fun k hk => o 0 k (by omega) (by decide)
  have g : ∀ a k, ¬ ((a = 170 ∧ k = 73) ∨ ((a = 199 ∨ a = 200) ∧ k = 102 * v + (l + 1))) → h'.2.1 a k = h.2.1 a k := fun a k q => fr_g f q
  have gl : ∀ a k, ¬ ((a = 170 ∧ k = 73) ∨ ((a = 199 ∨ a = 200) ∧ k = 102 * v + (l + 1))) → h'.2.2.1 a k = h.2.2.1 a k := fun a k q => fr_gl f q
  unfold WMh
  rw [o0 0 (by decide), o0 1 (by decide), o0 3 (by decide), o2]
  refine ⟨⟨by rw [g _ _ (by omega)]; exact a1, by rw [g _ _ (by omega)]; exact a2, by rw [g1]; omega, by rw [g _ _ (by omega)]; exact a4, a5⟩, by omega, fun q => ?_⟩
  obtain ⟨w1, w2, w3, w4⟩ := d q
  unfold WMe
  rw [o0 1 (by decide), o0 4 (by decide), o0 5 (by decide), o2]
  refine ⟨by rw [gl _ _ (by omega), gl _ _ (by omega)]; exact w1, w2, fun e he => ?_, fun hl' k hk => ?_⟩
  · obtain ⟨y1, y2, y3, y4⟩ := w3 e he
    unfold EVm
    rw [o 1 _ (by omega) (by decide), o 2 _ (by omega) (by decide), o 3 _ (by omega) (by decide), o 4 _ (by omega) (by decide), o 5 _ (by omega) (by decide), o 6 _ (by omega) (by decide), g _ _ (by omega), g _ _ (by omega), g _ _ (by omega), g _ _ (by omega), g _ _ (by omega), g _ _ (by omega), gl _ _ (by omega), gl _ _ (by omega), gl _ _ (by omega), gl _ _ (by omega)]
    exact ⟨y1, y2, fun p hp => by rw [g _ _ (by omega), g _ _ (by omega)]; exact y3 p hp, y4⟩
  · have e7 : ∀ k, wk_ln α 7 k = (if k = l + 1 then α 0 1 else α 7 k) := fun k => by
      unfold wk_ln; rw [up2_o (by omega), if_pos (by omega)]
      have : (α 0 2).toNat + 1 = l + 1 := by omega
      rw [this]
      by_cases hc : k = l + 1
      · rw [if_pos hc, hc, up2_at]
      · rw [if_neg hc, up2_o (by omega)]
    have eT : ∀ e, stT (wk_ln α) e = stT α e := fun e => by unfold stT; rw [o0 1 (by decide), o0 4 (by decide), o 3 _ (by omega) (by decide)]
    have eB : ∀ e, stB (wk_ln α) e = stB α e := fun e => by unfold stB; rw [o0 1 (by decide), o0 5 (by decide), o 4 _ (by omega) (by decide)]
    rw [e7, eT, eB]
    by_cases hc : k = l + 1
    · rw [if_pos hc, hc, (g2 (by omega)).1, (g2 (by omega)).2]
      refine ⟨⟨by omega, Int.le_refl _⟩, ?_, ?_⟩
      · unfold stT; rw [if_neg (by omega)]; exact w1.1
      · unfold stB; rw [if_neg (by omega)]; exact w1.2
    · rw [if_neg hc, gl _ _ (by omega), gl _ _ (by omega)]
      exact w4 (by omega) k (by omega)
/-- an event that isn't told -/
theorem WMh_evn {π α : pm_T} {v q j : Nat} {sT sB : Int} {h h' : ah_T} (H : WMh π α v h) (hs : α 0 1 + 1 ≤ α 0 0) (hc : ¬ (α 0 3 = 0 ∧ α 0 1 < 300)) (f : fr (fun a k => (187 ≤ a ∧ a ≤ 198) ∨ (a = 170 ∧ (k = 65 ∨ k = 66 ∨ k = 72 ∨ k = 74 ∨ k = 75 ∨ k = 76))) h h') (g1 : h'.2.1 170 72 = α 0 1 + 1) (g2 : h'.2.1 170 74 = α 0 3) : WMh π (wk_ev π j sT sB α) v h' := by
  obtain ⟨⟨a1, a2, a3, a4, a5⟩, b, d⟩ := H
  rw [wk_ev_n hc]
  unfold WMh
  rw [up2_at, up2_o (by omega), up2_o (by omega), up2_o (by omega)]
  exact ⟨⟨by rw [fr_g f (by omega)]; exact a1, g1, by rw [fr_g f (by omega)]; exact a3, g2, a5⟩, by omega, fun w => absurd ⟨w.1, by omega⟩ hc⟩
/-- an event told -/
theorem WMh_evy {π α : pm_T} {v e j : Nat} {sT sB lT lB : Int} {h h1 h' : ah_T} (P : PW π) (H : WMh π α v h) (hs : α 0 1 + 1 ≤ α 0 0) (hc : α 0 3 = 0 ∧ α 0 1 < 300) (hj : (j : Int) < π 0 0 ∧ π 1 j = 256) (he : α 0 1 = (e : Int)) (f : fr (WEm (300 * v + e)) h h1) (hT : lT = lT_ π j sT sB) (hB : lB = lB_ π j sT sB) (hp : 1 ≤ lT ∧ 1 ≤ lB) (g1 : isFr lT lB = true → h1.2.1 170 74 = 1)
    (g2 : ¬ isFr lT lB = true → (h1.2.1 191 (300 * v + e) = π 5 j ∧ h1.2.1 194 (300 * v + e) = π 17 j ∧ h1.2.1 195 (300 * v + e) = π 4 j ∧ h1.2.1 196 (300 * v + e) = α 0 2 ∧ h1.2.1 197 (300 * v + e) = π 2 j ∧ h1.2.1 198 (300 * v + e) = π 3 j) ∧
        (∀ p : Nat, (p : Int) < π 5 j → h1.2.1 192 (4 * (300 * v + e) + p) = π (6 + p) j ∧ h1.2.1 193 (4 * (300 * v + e) + p) = π (10 + p) j) ∧ (h1.2.2.1 187 (300 * v + e) = α 0 4 ∧ h1.2.2.1 188 (300 * v + e) = α 0 5 ∧ h1.2.2.1 189 (300 * v + e) = lT ∧ h1.2.2.1 190 (300 * v + e) = lB) ∧
        (h1.2.2.1 170 75 = rdT (α 0 4 * lB + lT * α 0 5) (α 0 5 * lB) ∧ h1.2.2.1 170 76 = rdB (α 0 4 * lB + lT * α 0 5) (α 0 5 * lB) ∧ h1.2.1 170 74 = (if isFr (rdT (α 0 4 * lB + lT * α 0 5) (α 0 5 * lB)) (rdB (α 0 4 * lB + lT * α 0 5) (α 0 5 * lB)) = true then 1 else 0)))
    (e' : h' = st_i h1 170 72 (α 0 1 + 1)) : WMh π (wk_ev π j sT sB α) v h' := by
  obtain ⟨⟨a1, a2, a3, a4, a5⟩, b, d⟩ := H
  have f' : fr (fun a k => WEm (300 * v + e) a k ∨ (a = 170 ∧ k = 72)) h h' := fr_i (fr_w f (fun a k w => Or.inl w)) e' (Or.inr ⟨rfl, rfl⟩)
  have n72 : h'.2.1 170 72 = α 0 1 + 1 := mv_i e'
  have m : ∀ a k, ¬ (a = 170 ∧ k = 72) → h'.2.1 a k = h1.2.1 a k := fun a k q => mm_i e' q
  have ml : ∀ a k, h'.2.2.1 a k = h1.2.2.1 a k := fun a k => mm_io e'
  have z0 := wk_ev_0 (π := π) (j := j) (sT := sT) (sB := sB) (α := α)
  have c71 : h'.2.1 170 71 = h.2.1 170 71 := fr_g f' (by omega)
  have c73 : h'.2.1 170 73 = h.2.1 170 73 := fr_g f' (by omega)
  by_cases hf : isFr lT lB = true
  · have hf' := hf
    rw [hT, hB] at hf'
    obtain ⟨y3, y1, y2⟩ := wk_ev_f hc hf'
    unfold WMh
    rw [z0, y1, y2, y3]
    exact ⟨⟨c71.trans a1, n72, c73.trans a3, by rw [m _ _ (by omega)]; exact g1 hf, Or.inr rfl⟩, by omega, fun w => absurd w.1 (by decide)⟩
  · have hf' := hf
    rw [hT, hB] at hf'
    obtain ⟨yo, y1, ⟨v1, v2, v3, v4, v5, v6⟩, y4, y5, y3⟩ := wk_ev_y (sT := sT) (sB := sB) hc he hf'
    rw [← hT, ← hB] at y4 y5 y3
    rw [← hT] at v5
    rw [← hB] at v6
    obtain ⟨k1, k2, k3, k4, k5, k6⟩ := g2 hf
    obtain ⟨w1, w2, w3, w4⟩ := d ⟨hc.1, by omega⟩
    have y2 : wk_ev π j sT sB α 0 2 = α 0 2 := yo 0 2 (by omega) (by omega)
    unfold WMh
    rw [z0, y1, y2]
    refine ⟨⟨c71.trans a1, n72, c73.trans a3, by rw [m _ _ (by omega), k6, y3], by rw [y3]; split <;> omega⟩, by omega, fun w => ?_⟩
    rw [y3] at w
    have nf : ¬ isFr (rdT (α 0 4 * lB + lT * α 0 5) (α 0 5 * lB)) (rdB (α 0 4 * lB + lT * α 0 5) (α 0 5 * lB)) = true := fun q => by rw [if_pos q] at w; exact absurd w.1 (by decide)
    have nb := isFr_n nf
    obtain ⟨n3, n4, n5, n6⟩ := w2
    have p1 : 0 ≤ α 0 4 * lB := Int.mul_nonneg n3 (by omega)
    have p2 : 1 ≤ lT * α 0 5 := by have := Int.mul_le_mul hp.1 n5 (by decide) (by omega); omega
    have p3 : 1 ≤ α 0 5 * lB := by have := Int.mul_le_mul n5 hp.2 (by decide) (by omega); omega
    obtain ⟨r1, -⟩ := rdT_b (a := α 0 4 * lB + lT * α 0 5) (b := α 0 5 * lB) (by omega) p3
    obtain ⟨r2, -⟩ := rdB_b (a := α 0 4 * lB + lT * α 0 5) (b := α 0 5 * lB) (by omega) p3
    unfold WMe
    rw [y1, y2, y4, y5]
    refine ⟨⟨by rw [ml]; exact k4, by rw [ml]; exact k5⟩, ⟨by omega, nb.1, r2, nb.2⟩, fun x hx => ?_, fun hl b hb => ?_⟩
    · unfold EVm
      by_cases c : x = e
      · subst c
        rw [v1, v2, v3, v4, v5, v6, tn_c, m _ _ (by omega), m _ _ (by omega), m _ _ (by omega), m _ _ (by omega), m _ _ (by omega), m _ _ (by omega), ml, ml, ml, ml]
        exact ⟨⟨by omega, hj.1, hj.2⟩, k1, fun p hp => by rw [m _ _ (by omega), m _ _ (by omega)]; exact k2 p hp, k3⟩
      · have o1 : ∀ a, 1 ≤ a → a ≤ 6 → wk_ev π j sT sB α a x = α a x := fun a q1 q2 => yo a x (by omega) (by omega)
        obtain ⟨u1, u2, u3, u4⟩ := w3 x (by omega)
        have G : ∀ a k, ¬ (WEm (300 * v + e) a k ∨ (a = 170 ∧ k = 72)) → h'.2.1 a k = h.2.1 a k := fun a k q => fr_g f' q
        have GL : ∀ a k, ¬ (WEm (300 * v + e) a k ∨ (a = 170 ∧ k = 72)) → h'.2.2.1 a k = h.2.2.1 a k := fun a k q => fr_gl f' q
        rw [o1 1 (by decide) (by decide), o1 2 (by decide) (by decide), o1 3 (by decide) (by decide), o1 4 (by decide) (by decide), o1 5 (by decide) (by decide), o1 6 (by decide) (by decide), G _ _ (by omega), G _ _ (by omega), G _ _ (by omega), G _ _ (by omega), G _ _ (by omega), G _ _ (by omega), GL _ _ (by omega), GL _ _ (by omega), GL _ _ (by omega), GL _ _ (by omega)]
        refine ⟨u1, u2, fun p hp => ?_, u4⟩
        have hp4 : π 5 (α 1 x).toNat ≤ 4 := ((P.2.2 _ (by omega)).2.1 u1.2.2).2.2.2.1.2
        rw [G _ _ (by omega), G _ _ (by omega)]
        exact u3 p hp
    · obtain ⟨u1, u2, u3⟩ := w4 hl b hb
      rw [yo 7 b (by omega) (by omega)]
      refine ⟨by omega, ?_, ?_⟩
      · rw [fr_gl f' (by omega), u2]
        unfold stT
        rw [y1]
        by_cases c : ((α 7 b).toNat : Int) < α 0 1
        · rw [if_pos c, if_pos (by omega), yo 3 _ (by omega) (by omega)]
        · have : (α 7 b).toNat = e := by omega
          rw [if_neg c, if_pos (by omega), this, v3]
      · rw [fr_gl f' (by omega), u3]
        unfold stB
        rw [y1]
        by_cases c : ((α 7 b).toNat : Int) < α 0 1
        · rw [if_pos c, if_pos (by omega), yo 4 _ (by omega) (by omega)]
        · have : (α 7 b).toNat = e := by omega
          rw [if_neg c, if_pos (by omega), this, v4]

/-! ===== the WALK: runs without their fuel, what is left of it ===== -/
def wt (π : pm_T) (x y : Nat) (sT sB : Int) (α : pm_T) : pm_T := wk π 5000 true x y sT sB α
def wf (π : pm_T) (o y : Nat) (sT sB : Int) (α : pm_T) : pm_T := wk π 5000 false o y sT sB α
/-- enough fuel is enough -/
def Ft (π : pm_T) (x y : Nat) : Prop := ∀ F1 F2, y + 1 ≤ F1 + x → y + 1 ≤ F2 + x → ∀ (sT sB : Int) (α : pm_T), wk π F1 true x y sT sB α = wk π F2 true x y sT sB α
def Ff (π : pm_T) (p c : Nat) : Prop := Ft π (p + 1) (lk π p) ∧ ∀ o, o < lk π o → Ft π (o + 1) (lk π o) → ∀ F1 F2, c + 1 + lk π o ≤ F1 + lk π p + o → c + 1 + lk π o ≤ F2 + lk π p + o → ∀ (sT sB : Int) (α : pm_T), wk π F1 false o (lk π p) sT sB α = wk π F2 false o (lk π p) sT sB α
theorem wk_fuel {π : pm_T} {b : Bool} {d x y : Nat} (H : RG π b d x y) : (b = true → Ft π x y) ∧ (b = false → Ff π x y) := by
  induction H using RG.rc with
  | nil d x =>
    refine ⟨fun _ F1 F2 h1 h2 sT sB α => ?_, fun w => by cases w⟩
    obtain ⟨f1, rfl⟩ : ∃ f, F1 = f + 1 := ⟨F1 - 1, by omega⟩
    obtain ⟨f2, rfl⟩ : ∃ f, F2 = f + 1 := ⟨F2 - 1, by omega⟩
    rw [wk, wk, if_pos (Nat.le_refl _), if_pos (Nat.le_refl _)]
  | @ev d x y h r ih =>
    refine ⟨fun _ F1 F2 h1 h2 sT sB α => ?_, fun w => by cases w⟩
    have := (RG_le r).1
    obtain ⟨f1, rfl⟩ : ∃ f, F1 = f + 1 := ⟨F1 - 1, by omega⟩
    obtain ⟨f2, rfl⟩ : ∃ f, F2 = f + 1 := ⟨F2 - 1, by omega⟩
    have e : ∀ f, wk π (f + 1) true x y sT sB α = wk π f true (x + 1) y sT sB (wk_ev π x sT sB (wk_st α)) := fun f => by rw [wk, if_neg (by omega), if_neg (by omega), if_neg (by omega), if_neg (by omega), if_pos h]
    rw [e, e]
    exact ih.1 rfl f1 f2 (by omega) (by omega) _ _ _
  | @ln d x y h r ih =>
    refine ⟨fun _ F1 F2 h1 h2 sT sB α => ?_, fun w => by cases w⟩
    have := (RG_le r).1
    obtain ⟨f1, rfl⟩ : ∃ f, F1 = f + 1 := ⟨F1 - 1, by omega⟩
    obtain ⟨f2, rfl⟩ : ∃ f, F2 = f + 1 := ⟨F2 - 1, by omega⟩
    have e : ∀ f, wk π (f + 1) true x y sT sB α = wk π f true (x + 1) y sT sB (wk_ln (wk_st α)) := fun f => by rw [wk, if_neg (by omega), if_neg (by omega), if_neg (by omega), if_pos h]
    rw [e, e]
    exact ih.1 rfl f1 f2 (by omega) (by omega) _ _ _
  | @st d x y h hl hk r r2 ih i2 =>
    refine ⟨fun _ F1 F2 h1 h2 sT sB α => ?_, fun w => by cases w⟩
    have := (RG_le r2).1
    obtain ⟨f1, rfl⟩ : ∃ f, F1 = f + 1 := ⟨F1 - 1, by omega⟩
    obtain ⟨f2, rfl⟩ : ∃ f, F2 = f + 1 := ⟨F2 - 1, by omega⟩
    have e : ∀ f, wk π (f + 1) true x y sT sB α = wk π f true (lk π x + 1) y sT sB (wk π f true (x + 1) (lk π x) (sT * π 3 x) (sB * π 2 x) (wk_st α)) := fun f => by rw [wk, if_neg (by omega), if_neg (by omega), if_pos h]
    rw [e, e]
    rw [ih.1 rfl f1 f2 (by omega) (by omega)]
    exact i2.1 rfl f1 f2 (by omega) (by omega) _ _ _
  | @rp d x c y h r r2 ih i2 =>
    refine ⟨fun _ F1 F2 h1 h2 sT sB α => ?_, fun w => by cases w⟩
    have e1 := (RG_le r).2 rfl
    have e2 := (RG_le r2).1
    obtain ⟨o1, o2, -, oc⟩ := RG_1 r
    obtain ⟨f1, rfl⟩ : ∃ f, F1 = f + 1 := ⟨F1 - 1, by omega⟩
    obtain ⟨f2, rfl⟩ : ∃ f, F2 = f + 1 := ⟨F2 - 1, by omega⟩
    obtain ⟨j1, j2⟩ := ih.2 rfl
    have e : ∀ f, c ≤ f + x → wk π (f + 1) true x y sT sB α = wk π f true (c + 1) y sT sB (if π 1 (lk π x) = 58 then wk π f false x (lk π x) sT sB (wk_st α) else wk π f true (x + 1) (lk π x) sT sB (wk_st (wk π f true (x + 1) (lk π x) sT sB (wk_st (wk_st α))))) := fun f hf => by rw [wk, if_neg (by omega), if_pos h, cls_ok r rfl f hf]
    rw [e f1 (by omega), e f2 (by omega)]
    have e3 : (if π 1 (lk π x) = 58 then wk π f1 false x (lk π x) sT sB (wk_st α) else wk π f1 true (x + 1) (lk π x) sT sB (wk_st (wk π f1 true (x + 1) (lk π x) sT sB (wk_st (wk_st α))))) = (if π 1 (lk π x) = 58 then wk π f2 false x (lk π x) sT sB (wk_st α) else wk π f2 true (x + 1) (lk π x) sT sB (wk_st (wk π f2 true (x + 1) (lk π x) sT sB (wk_st (wk_st α))))) := by
      split
      · exact j2 x o1 j1 f1 f2 (by omega) (by omega) _ _ _
      · rw [j1 f1 f2 (by omega) (by omega), j1 f1 f2 (by omega) (by omega)]
    rw [e3]
    exact i2.1 rfl f1 f2 (by omega) (by omega) _ _ _
  | @m1 d p h hk r ih =>
    refine ⟨fun w => (by cases w), fun _ => ⟨ih.1 rfl, fun o ho hs F1 F2 h1 h2 sT sB α => ?_⟩⟩
    have e : ∀ F, wk π F false o (lk π p) sT sB α = α := by
      intro F
      cases F with
      | zero => rw [wk]
      | succ f => rw [wk, if_neg (by omega)]
    rw [e, e]
  | @m2 d p c h hk r r2 ih i2 =>
    refine ⟨fun w => (by cases w), fun _ => ⟨ih.1 rfl, fun o ho hs F1 F2 h1 h2 sT sB α => ?_⟩⟩
    obtain ⟨k1, k2⟩ := i2.2 rfl
    obtain ⟨o1, o2, -, -⟩ := RG_1 r2
    obtain ⟨f1, rfl⟩ : ∃ f, F1 = f + 1 := ⟨F1 - 1, by omega⟩
    obtain ⟨f2, rfl⟩ : ∃ f, F2 = f + 1 := ⟨F2 - 1, by omega⟩
    have e : ∀ f, wk π (f + 1) false o (lk π p) sT sB α = wk π f false o (lk π (lk π p)) sT sB (wk π f true (lk π p + 1) (lk π (lk π p)) sT sB (wk π f true (o + 1) (lk π o) sT sB (wk_st α))) := fun f => by rw [wk, if_pos hk]
    rw [e, e, hs f1 f2 (by omega) (by omega), k1 f1 f2 (by omega) (by omega)]
    exact k2 o ho hs f1 f2 (by omega) (by omega) _ _ _
theorem wt_nil {π : pm_T} {x : Nat} {sT sB : Int} {α : pm_T} : wt π x x sT sB α = α := by
  unfold wt; rw [wk, if_pos (Nat.le_refl _)]
theorem wt_ev {π : pm_T} {d x y : Nat} {sT sB : Int} {α : pm_T} (h : π 1 x = 256) (r : RG π true d (x + 1) y) (hy : y ≤ 4000) : wt π x y sT sB α = wt π (x + 1) y sT sB (wk_ev π x sT sB (wk_st α)) := by
  have := (RG_le r).1
  unfold wt
  rw [wk, if_neg (by omega), if_neg (by omega), if_neg (by omega), if_neg (by omega), if_pos h]
  exact (wk_fuel r).1 rfl _ _ (by omega) (by omega) _ _ _
theorem wt_ln {π : pm_T} {d x y : Nat} {sT sB : Int} {α : pm_T} (h : π 1 x = 124) (r : RG π true d (x + 1) y) (hy : y ≤ 4000) : wt π x y sT sB α = wt π (x + 1) y sT sB (wk_ln (wk_st α)) := by
  have := (RG_le r).1
  unfold wt
  rw [wk, if_neg (by omega), if_neg (by omega), if_neg (by omega), if_pos h]
  exact (wk_fuel r).1 rfl _ _ (by omega) (by omega) _ _ _
theorem wt_st {π : pm_T} {d d' x y : Nat} {sT sB : Int} {α : pm_T} (h : π 1 x = 123) (hl : x < lk π x) (r : RG π true d' (x + 1) (lk π x)) (r2 : RG π true d (lk π x + 1) y) (hy : y ≤ 4000) : wt π x y sT sB α = wt π (lk π x + 1) y sT sB (wt π (x + 1) (lk π x) (sT * π 3 x) (sB * π 2 x) (wk_st α)) := by
  have := (RG_le r2).1
  unfold wt
  rw [wk, if_neg (by omega), if_neg (by omega), if_pos h]
  rw [(wk_fuel r).1 rfl 4999 5000 (by omega) (by omega)]
  exact (wk_fuel r2).1 rfl _ _ (by omega) (by omega) _ _ _
theorem wt_rp {π : pm_T} {d d' x c y : Nat} {sT sB : Int} {α : pm_T} (h : π 1 x = 91) (r : RG π false d' x c) (r2 : RG π true d (c + 1) y) (hy : y ≤ 4000) : wt π x y sT sB α = wt π (c + 1) y sT sB (if π 1 (lk π x) = 58 then wf π x (lk π x) sT sB (wk_st α) else wt π (x + 1) (lk π x) sT sB (wk_st (wt π (x + 1) (lk π x) sT sB (wk_st (wk_st α))))) := by
  have e1 := (RG_le r).2 rfl
  have e2 := (RG_le r2).1
  obtain ⟨o1, o2, -, -⟩ := RG_1 r
  obtain ⟨j1, j2⟩ := (wk_fuel r).2 rfl
  unfold wt wf
  rw [wk, if_neg (by omega), if_pos h, cls_ok r rfl 4999 (by omega)]
  rw [j2 x o1 j1 4999 5000 (by omega) (by omega), j1 4999 5000 (by omega) (by omega), j1 4999 5000 (by omega) (by omega)]
  exact (wk_fuel r2).1 rfl _ _ (by omega) (by omega) _ _ _
theorem wf_c {π : pm_T} {d o p c : Nat} {sT sB : Int} {α : pm_T} (ho : o < lk π o) (r0 : RG π true d (o + 1) (lk π o)) (h : π 1 p = 58) (r : RG π false d p c) (hc : c ≤ 2000) (hop : lk π o ≤ p) : wf π o p sT sB α = wf π o (lk π p) sT sB (wt π (p + 1) (lk π p) sT sB (wt π (o + 1) (lk π o) sT sB (wk_st α))) := by
  have e1 := (RG_le r).2 rfl
  obtain ⟨o1, o2, -, -⟩ := RG_1 r
  obtain ⟨j1, j2⟩ := (wk_fuel r).2 rfl
  have j0 := (wk_fuel r0).1 rfl
  unfold wt wf
  have e : ∀ f, wk π (f + 1) false o p sT sB α = wk π f false o (lk π p) sT sB (wk π f true (p + 1) (lk π p) sT sB (wk π f true (o + 1) (lk π o) sT sB (wk_st α))) := fun f => by rw [wk, if_pos h]
  show wk π (4999 + 1) false o p sT sB α = _
  rw [e, j0 4999 5000 (by omega) (by omega), j1 4999 5000 (by omega) (by omega)]
  exact j2 o ho j0 4999 5000 (by omega) (by omega) _ _ _
theorem wf_e {π : pm_T} {o p : Nat} {sT sB : Int} {α : pm_T} (h : ¬ π 1 p = 58) : wf π o p sT sB α = α := by
  unfold wf; rw [wk, if_neg h]
theorem wk_ev_m {π : pm_T} {j : Nat} {sT sB : Int} {α : pm_T} {c : Nat} (hc : c = 0 ∨ c = 1 ∨ c = 2) : α 0 c ≤ wk_ev π j sT sB α 0 c := by
  have key : wk_ev π j sT sB α 0 c = up2 α 0 1 (α 0 1 + 1) 0 c := by
    unfold wk_ev
    dsimp only
    split
    · split
      · rw [up2_o (by omega), up2_o (by omega), up2_o (by omega), up2_o (by omega), up2_o (by omega), up2_o (by omega), up2_o (by omega)]
      · rw [up2_o (by omega), up2_o (by omega), up2_o (by omega), up2_o (by omega), up2_o (by omega), up2_o (by omega), up2_o (by omega), up2_o (by omega), up2_o (by omega)]
    · rfl
  rw [key]
  by_cases q : c = 1
  · subst q; rw [up2_at]; omega
  · rw [up2_o (by omega)]; exact Int.le_refl _
theorem wk_ln_m {α : pm_T} {c : Nat} (hc : c = 0 ∨ c = 1 ∨ c = 2) : α 0 c ≤ wk_ln α 0 c := by
  unfold wk_ln
  by_cases q : c = 2
  · subst q; rw [up2_at]; omega
  · rw [up2_o (by omega)]
    split
    · rw [up2_o (by omega)]; exact Int.le_refl _
    · exact Int.le_refl _
theorem wk_st_m {α : pm_T} {c : Nat} : α 0 c ≤ wk_st α 0 c := by
  by_cases q : c = 0
  · subst q; rw [wk_st_0]; omega
  · rw [wk_st_o (by omega)]; exact Int.le_refl _
theorem wk_m {π : pm_T} {c : Nat} (hc : c = 0 ∨ c = 1 ∨ c = 2) : ∀ (f : Nat) (b : Bool) (x y : Nat) (sT sB : Int) (α : pm_T), α 0 c ≤ wk π f b x y sT sB α 0 c
  | 0, _, _, _, _, _, _ => by rw [wk]; exact Int.le_refl _
  | f + 1, true, x, y, sT, sB, α => by
    rw [wk]
    split
    · exact Int.le_refl _
    split
    · refine Int.le_trans ?_ (wk_m hc f true _ y sT sB _)
      split
      · exact Int.le_trans wk_st_m (wk_m hc f false x _ sT sB _)
      · refine Int.le_trans ?_ (wk_m hc f true (x + 1) _ sT sB _)
        refine Int.le_trans ?_ wk_st_m
        refine Int.le_trans ?_ (wk_m hc f true (x + 1) _ sT sB _)
        exact Int.le_trans wk_st_m wk_st_m
    split
    · refine Int.le_trans ?_ (wk_m hc f true _ y sT sB _)
      exact Int.le_trans wk_st_m (wk_m hc f true (x + 1) _ _ _ _)
    split
    · refine Int.le_trans ?_ (wk_m hc f true _ y sT sB _)
      exact Int.le_trans wk_st_m (wk_ln_m hc)
    split
    · refine Int.le_trans ?_ (wk_m hc f true _ y sT sB _)
      exact Int.le_trans wk_st_m (wk_ev_m hc)
    · exact Int.le_trans wk_st_m (wk_m hc f true _ y sT sB _)
  | f + 1, false, x, y, sT, sB, α => by
    rw [wk]
    split
    · refine Int.le_trans ?_ (wk_m hc f false x _ sT sB _)
      refine Int.le_trans ?_ (wk_m hc f true (y + 1) _ sT sB _)
      exact Int.le_trans wk_st_m (wk_m hc f true (x + 1) _ sT sB _)
    · exact Int.le_refl _
/-- a bracket that is being walked: where it stands, its turn (0: a {), whether behind a mark, where the run around it ends, the scale there -/
abbrev fm_T : Type := Nat × Nat × Bool × Nat × Int × Int
def cl (π : pm_T) (p : Nat) : Nat := cls π 5000 (lk π p)
/-- what is left of a [ when a stretch of it ends -/
def rst (π : pm_T) (p i : Nat) (e : Bool) (sT sB : Int) (α : pm_T) : pm_T :=
  if π 1 (lk π p) = 58 then wf π p (mkn π p (i + 1)) sT sB (if e = true then α else wt π (mkn π p i + 1) (mkn π p (i + 1)) sT sB α)
  else if i = 1 then wt π (p + 1) (lk π p) sT sB (wk_st α) else α
def fin (π : pm_T) : List fm_T → pm_T → pm_T
  | [], α => α
  | (p, 0, _, y, sT, sB) :: L, α => fin π L (wt π (lk π p + 1) y sT sB α)
  | (p, i + 1, e, y, sT, sB) :: L, α => fin π L (wt π (cl π p + 1) y sT sB (rst π p (i + 1) e sT sB α))
theorem fin_0 {π : pm_T} {p y : Nat} {e : Bool} {sT sB : Int} {L : List fm_T} {α : pm_T} : fin π ((p, 0, e, y, sT, sB) :: L) α = fin π L (wt π (lk π p + 1) y sT sB α) := by rw [fin]
theorem fin_s {π : pm_T} {p i y : Nat} {e : Bool} {sT sB : Int} {L : List fm_T} {α : pm_T} : fin π ((p, i + 1, e, y, sT, sB) :: L) α = fin π L (wt π (cl π p + 1) y sT sB (rst π p (i + 1) e sT sB α)) := by rw [fin]
theorem walk_wt {π : pm_T} : walk π = wt π 0 (sz π) 1 1 wk0 := by unfold walk wt; exact Eq.refl _
theorem fin_m {π : pm_T} {c : Nat} (hc : c = 0 ∨ c = 1 ∨ c = 2) : ∀ (L : List fm_T) (α : pm_T), α 0 c ≤ fin π L α 0 c
  | [], _ => Int.le_refl _
  | (p, 0, _, y, sT, sB) :: L, α => by
    rw [fin_0]; unfold wt
    exact Int.le_trans (wk_m hc 5000 true _ _ _ _ _) (fin_m hc L _)
  | (p, i + 1, e, y, sT, sB) :: L, α => by
    rw [fin_s]
    refine Int.le_trans ?_ (fin_m hc L _)
    unfold wt rst wt wf
    refine Int.le_trans ?_ (wk_m hc 5000 true _ _ _ _ _)
    split
    · refine Int.le_trans ?_ (wk_m hc 5000 false _ _ _ _ _)
      split
      · exact Int.le_refl _
      · exact wk_m hc 5000 true _ _ _ _ _
    split
    · exact Int.le_trans wk_st_m (wk_m hc 5000 true _ _ _ _ _)
    · exact Int.le_refl _
/-- how the brackets being walked stand around a run that ends at Y -/
def FWp (π : pm_T) : List fm_T → Nat → Nat → Int → Int → Prop
  | [], Y, d, sT, sB => Y = sz π ∧ d = 7 ∧ sT = 1 ∧ sB = 1
  | (p, i, e, y, uT, uB) :: L, Y, d, sT, sB => (p < Y ∧ Y < y) ∧
    (i = 0 → π 1 p = 123 ∧ Y = lk π p ∧ π 1 Y = 125 ∧ sT = uT * π 3 p ∧ sB = uB * π 2 p ∧ RG π true (d + 1) (Y + 1) y) ∧
    (1 ≤ i → π 1 p = 91 ∧ sT = uT ∧ sB = uB ∧ (∃ c, RG π false d p c ∧ RG π true (d + 1) (c + 1) y ∧ (π 1 (lk π p) = 58 → RG π false d (mkn π p i) c ∧ π 1 (mkn π p i) = 58)) ∧
      (e = false → Y = lk π p) ∧ (e = true → π 1 (lk π p) = 58 ∧ Y = mkn π p (i + 1)) ∧ (¬ π 1 (lk π p) = 58 → i ≤ 2)) ∧
    FWp π L y (d + 1) uT uB
theorem FWp_le {π : pm_T} : ∀ (L : List fm_T) (Y d : Nat) (sT sB : Int), FWp π L Y d sT sB → Y ≤ sz π ∧ (L ≠ [] → Y < sz π) ∧ d + L.length = 7
  | [], Y, d, sT, sB, h => ⟨Nat.le_of_eq h.1, fun w => absurd rfl w, by have := h.2.1; simp; omega⟩
  | (p, i, e, y, uT, uB) :: L, Y, d, sT, sB, h => by
    obtain ⟨⟨h1, h2⟩, -, -, h3⟩ := h
    obtain ⟨a, b, c⟩ := FWp_le L y (d + 1) uT uB h3
    exact ⟨by omega, fun _ => by omega, by simp; omega⟩
theorem FWp_s {π : pm_T} (P : PW π) : ∀ (L : List fm_T) (Y d : Nat) (sT sB : Int), FWp π L Y d sT sB → (1 ≤ sT ∧ sT ≤ bq d) ∧ 1 ≤ sB ∧ sB ≤ bq d
  | [], Y, d, sT, sB, h => by
    obtain ⟨-, rfl, rfl, rfl⟩ := h
    exact ⟨⟨by decide, by decide⟩, by decide, by decide⟩
  | (p, i, e, y, uT, uB) :: L, Y, d, sT, sB, h => by
    have hle := FWp_le _ _ _ _ _ h
    obtain ⟨⟨h1, h2⟩, q0, q1, h3⟩ := h
    obtain ⟨⟨a1, a2⟩, b1, b2⟩ := FWp_s P L y (d + 1) uT uB h3
    have hl : d < 7 := by have := hle.2.2; simp at this; omega
    have bs := bq_s d hl
    have bu := bq_u (d + 1) (by omega)
    by_cases c : i = 0
    · obtain ⟨k1, -, -, k2, k3, -⟩ := q0 c
      have hp : (p : Int) < π 0 0 := by have := hle.1; unfold sz at this; have := P.1.1; omega
      obtain ⟨⟨v1, v2⟩, v3, v4⟩ := (P.2.2 p hp).2.2 k1
      rw [k2, k3, ← bs]
      exact ⟨⟨by have := Int.mul_le_mul a1 v3 (by decide) (by omega); omega, Int.mul_le_mul a2 v4 (by omega) (by omega)⟩, by have := Int.mul_le_mul b1 v1 (by decide) (by omega); omega, Int.mul_le_mul b2 v2 (by omega) (by omega)⟩
    · obtain ⟨-, k2, k3, -⟩ := q1 (by omega)
      rw [k2, k3]
      omega
def nTw : List fm_T → Nat
  | [] => 0
  | (_, i, _) :: L => if i = 0 then nTw L else nTw L + 1
theorem nTw_l : ∀ L : List fm_T, nTw L ≤ L.length
  | [] => Nat.le_refl _
  | (_, i, _) :: L => by
    have := nTw_l L
    show (if i = 0 then nTw L else nTw L + 1) ≤ L.length + 1
    split <;> omega
/-- the cells of the [ being walked -/
def CFh (π : pm_T) (h : ah_T) : List fm_T → Prop
  | [] => True
  | (p, i, e, _, _, _) :: L => (1 ≤ i → h.2.1 217 (nTw L) = (p : Int) ∧ h.2.1 218 (nTw L) = (i : Int) ∧ h.2.1 219 (nTw L) = (if π 1 (lk π p) = 58 then h.2.1 214 p else 2) ∧ h.2.1 220 (nTw L) = (if e = true then 1 else 0) ∧ (π 1 (lk π p) = 58 → (i : Int) ≤ h.2.1 214 p)) ∧ CFh π h L
theorem CFh_c {π : pm_T} {h h' : ah_T} : ∀ (L : List fm_T), CFh π h L → (∀ a k, 217 ≤ a → a ≤ 220 → k < nTw L → h'.2.1 a k = h.2.1 a k) → (∀ k, h'.2.1 214 k = h.2.1 214 k) → CFh π h' L
  | [], _, _, _ => trivial
  | (p, i, e, y, uT, uB) :: L, H, g, g2 => by
    obtain ⟨H1, H2⟩ := H
    have hn : nTw L ≤ nTw ((p, i, e, y, uT, uB) :: L) := by
      show nTw L ≤ (if i = 0 then nTw L else nTw L + 1)
      split <;> omega
    refine ⟨fun w => ?_, CFh_c L H2 (fun a k q1 q2 q3 => g a k q1 q2 (by omega)) g2⟩
    have hl : nTw L < nTw ((p, i, e, y, uT, uB) :: L) := by
      show nTw L < (if i = 0 then nTw L else nTw L + 1)
      rw [if_neg (by omega)]; omega
    rw [g _ _ (by decide) (by decide) hl, g _ _ (by decide) (by decide) hl, g _ _ (by decide) (by decide) hl, g _ _ (by decide) (by decide) hl, g2]
    exact H1 w

/-! ===== the WALK, reference: marks asked for ===== -/
theorem t_MD_closing {G : cx_T} {s p : Nat} {h : ah_T} {x : Int} (hb0 : hb s h) (hp : p < 2100) (hx : h.2.1 210 p = x) : con G 0 0 0 m_MD_closing [av_R (some 170), av_I (p : Int)] h (fun r h' => hb s h' ∧ h' = h ∧ r = some (av_I x)) := by
  refine c_MD_closing hb0 (fun _ => ?_)
  unfold B_MD_closing_0
  rw [tn_c]
  exact ⟨⟨by omega, by omega⟩, fun x2 e2 _ _ => ⟨hb0, rfl, by rw [e2, hx]⟩⟩
theorem t_MD_opening {G : cx_T} {s p : Nat} {h : ah_T} {x : Int} (hb0 : hb s h) (hp : p < 2100) (hx : h.2.1 210 p = x) : con G 0 0 0 m_MD_opening [av_R (some 170), av_I (p : Int)] h (fun r h' => hb s h' ∧ h' = h ∧ r = some (av_I x)) := by
  refine c_MD_opening hb0 (fun _ => ?_)
  unfold B_MD_opening_0
  rw [tn_c]
  exact ⟨⟨by omega, by omega⟩, fun x2 e2 _ _ => ⟨hb0, rfl, by rw [e2, hx]⟩⟩
theorem t_MD_colons {G : cx_T} {s p : Nat} {h : ah_T} {x : Int} (hb0 : hb s h) (hp : p < 2100) (hx : h.2.1 214 p = x) : con G 0 0 0 m_MD_colons [av_R (some 170), av_I (p : Int)] h (fun r h' => hb s h' ∧ h' = h ∧ r = some (av_I x)) := by
  refine c_MD_colons hb0 (fun _ => ?_)
  unfold B_MD_colons_0
  rw [tn_c]
  exact ⟨⟨by omega, by omega⟩, fun x2 e2 _ _ => ⟨hb0, rfl, by rw [e2, hx]⟩⟩
theorem t_MD_isIn {G : cx_T} {s t : Nat} {h : ah_T} {a x : Int} (hb0 : hb s h) (ht : h.2.1 170 70 = (t : Int) + 1) (ht2 : t < 10) (hx : h.2.1 220 t = x) (hx2 : x = 0 ∨ x = 1) : con G 0 0 0 m_MD_isIn [av_R (some 170), av_I a] h (fun r h' => hb s h' ∧ h' = h ∧ r = some (av_I x)) := by
  refine c_MD_isIn hb0 (fun _ => ?_)
  unfold B_MD_isIn_0
  intro x2 e2 _ _
  have et : (x2 - 1).toNat = t := by omega
  rw [et]
  exact ⟨⟨by omega, by omega⟩, ⟨by omega, by omega⟩, fun x4 e4 _ => ⟨by rw [e4, hx]; exact hx2, hb0, rfl, by rw [e4, hx]⟩⟩
theorem t_MD_behindColon {G : cx_T} {s : Nat} {h : ah_T} {π : pm_T} {ow : Nat → Nat} {p C i : Nat} (hb0 : hb s h) (H : MKc π h ow p C) (hz : sz π ≤ 2000) (hp : p < sz π) (hi : 1 ≤ i ∧ i ≤ C) : con G 0 0 0 m_MD_behindColon [av_R (some 170), av_I (p : Int), av_I (i : Int)] h (fun r h' => hb s h' ∧ h' = h ∧ r = some (av_I ((mkn π p i : Nat) + 1 : Int))) := by
  have hin : ∀ j, 1 ≤ j → j ≤ C → mkn π p j < sz π := by
    intro j h1 h2
    obtain ⟨k, rfl⟩ : ∃ k, j = k + 1 := ⟨j - 1, by omega⟩
    exact (H.2.1 k (by omega)).2.1
  have hCn := MKc_n H C (Nat.le_refl _)
  have hCz := hin C (by omega) (Nat.le_refl _)
  refine c_MD_behindColon (X10 := fun v3 v4 hh => hh = h ∧ ∃ j : Nat, v4 = (j : Int) ∧ 1 ≤ j ∧ j ≤ i ∧ v3 = (mkn π p j : Int)) ?_ hb0 (fun _ _ => ?_)
  · refine lp_MD_behindColon_10 (a1 := (p : Int)) (a2 := (i : Int)) _ (fun _ v4 _ => (i - v4).toNat) ?_
    rintro v3 v4 hh hb1 ⟨rfl, j, rfl, h1, h2, rfl⟩
    have hj := hin j h1 (by omega)
    unfold B_MD_behindColon_10
    refine ⟨fun c => ⟨⟨by omega, by omega⟩, hb1, rfl, ?_⟩, fun c => ⟨⟨by omega, by omega⟩, ?_⟩⟩
    · have : j = i := by omega
      rw [this]
    · rw [tn_c]
      intro x3 e3 _ _
      exact ⟨⟨by omega, by omega⟩, ⟨rfl, j + 1, by omega, by omega, by omega, e3.trans (H.2.2.2 j h1 (by omega))⟩, by omega⟩
  · unfold B_MD_behindColon_0
    rw [tn_c]
    exact ⟨⟨by omega, by omega⟩, fun x2 e2 _ _ => ⟨rfl, 1, rfl, Nat.le_refl _, hi.1, e2.trans (H.2.2.1 (by omega)).1⟩⟩
theorem t_MD_turned {G : cx_T} {s t p : Nat} {h : ah_T} {i n c x : Int} (hb0 : hb s h) (hp : p < 2100) (ht : h.2.1 170 70 = (t : Int) + 1) (ht2 : t < 10) (hi : h.2.1 218 t = i) (hn : h.2.1 219 t = n) (hc : h.2.1 210 p = c) (hc2 : 0 ≤ c ∧ c ≤ 2100) (hx : h.2.1 170 71 = x) (hx2 : 0 ≤ x ∧ x ≤ 3000) (hi2 : 0 ≤ i ∧ i ≤ 3000) : con G 1 0 0 m_MD_turned [av_R (some 170), av_I (p : Int)] h (fun r h' => hb s h' ∧
    ((n ≤ i ∧ r = some (av_I (c + 1)) ∧ fr (fun a k => (a = 220 ∧ k = t) ∨ (a = 170 ∧ k = 70)) h h' ∧ h'.2.1 170 70 = (t : Int)) ∨
     (¬ n ≤ i ∧ r = some (av_I ((p : Int) + 1)) ∧ fr (fun a k => ((a = 218 ∨ a = 220) ∧ k = t) ∨ (a = 170 ∧ k = 71)) h h' ∧ h'.2.1 220 t = 0 ∧ h'.2.1 218 t = i + 1 ∧ h'.2.1 170 71 = x + 1 ∧ ∃ h1, fr (fun a k => (a = 218 ∨ a = 220) ∧ k = t) h h1 ∧ h' = st_i h1 170 71 (x + 1)))) := by
  refine c_MD_turned hb0 (fun _ => ?_)
  unfold B_MD_turned_0
  intro x2 e2 _ _
  have et : (x2 - 1).toNat = t := by omega
  rw [et]
  refine ⟨⟨by omega, by omega⟩, ⟨by omega, by omega⟩, fun h5 e5 x9 e9 _ _ x12 e12 _ _ => ?_⟩
  have ex9 : x9 = i := by rw [e9, mm_i e5 (by omega)]; exact hi
  have ex12 : x12 = n := by rw [e12, mm_i e5 (by omega)]; exact hn
  subst ex9 ex12
  refine ⟨fun d h14 e14 => ?_, fun d => ⟨⟨by omega, by omega⟩, fun h24 e24 x26 e26 _ _ => ?_⟩⟩
  · refine con_mono (t_MD_closing (x := c) (hb_i (hb_i hb0 e5) e14) hp (by rw [mm_i e14 (by omega), mm_i e5 (by omega)]; exact hc)) ?_
    rintro r h16 ⟨hb16, rfl, rfl⟩
    exact ⟨c, rfl, hb16, ⟨by omega, by omega⟩, hb16, Or.inl ⟨d, rfl, fr_i (fr_i fr_0 e5 (Or.inl ⟨rfl, rfl⟩)) e14 (Or.inr ⟨rfl, rfl⟩), by rw [mv_i e14]; omega⟩⟩
  · have ex26 : x26 = x := by rw [e26, mm_i e24 (by omega), mm_i e5 (by omega)]; exact hx
    subst ex26
    refine ⟨⟨by omega, by omega⟩, fun h28 e28 => ⟨⟨by omega, by omega⟩, hb_i (hb_i (hb_i hb0 e5) e24) e28, Or.inr ⟨d, rfl, fr_i (fr_i (fr_i fr_0 e5 (Or.inl ⟨Or.inr rfl, rfl⟩)) e24 (Or.inl ⟨Or.inl rfl, rfl⟩)) e28 (Or.inr ⟨rfl, rfl⟩), ?_, ?_, mv_i e28, h24, fr_i (fr_i fr_0 e5 ⟨Or.inr rfl, rfl⟩) e24 ⟨Or.inl rfl, rfl⟩, e28⟩⟩⟩
    · rw [mm_i e28 (by omega), mm_i e24 (by omega), mv_i e5]
    · rw [mm_i e28 (by omega), mv_i e24]

/-! ===== the WALK, reference: its loop ===== -/
abbrev WWm (v : Nat) : Nat → Nat → Prop := fun a k => (a = 170 ∧ 65 ≤ k ∧ k ≤ 78) ∨ (217 ≤ a ∧ a ≤ 220) ∨ (((187 ≤ a ∧ a ≤ 191) ∨ (194 ≤ a ∧ a ≤ 198)) ∧ 300 * v ≤ k ∧ k < 300 * v + 300) ∨ ((a = 192 ∨ a = 193) ∧ 1200 * v ≤ k ∧ k < 1200 * v + 1200) ∨ ((a = 199 ∨ a = 200) ∧ 102 * v ≤ k ∧ k < 102 * v + 102)
/-- the state between two turns -/
def WBw (π : pm_T) (h0 : ah_T) (v : Nat) (L : List fm_T) (Y d : Nat) (sT sB : Int) (α : pm_T) (k : Nat) (h : ah_T) : Prop := fr (WWm v) h0 h ∧ RG π true d k Y ∧ FWp π L Y d sT sB ∧ CFh π h L ∧ h.2.1 170 70 = (nTw L : Int) ∧ (h.2.2.1 170 77 = rdT sT sB ∧ h.2.2.1 170 78 = rdB sT sB) ∧ WMh π α v h
def WIv (π : pm_T) (h0 : ah_T) (v k : Nat) (h : ah_T) : Prop := ∃ (L : List fm_T) (Y d : Nat) (sT sB : Int) (α : pm_T), WBw π h0 v L Y d sT sB α k h ∧ walk π = fin π L (wt π k Y sT sB α) ∧ α 0 0 ≤ 2003 ∧ α 0 1 ≤ 301 ∧ α 0 2 ≤ 101
def IVt (π : pm_T) (h0 : ah_T) (v : Nat) (v2 v3 v4 : Int) (h : ah_T) : Prop := v2 = (v : Int) ∧ ∃ k : Nat, v3 = (k : Int) ∧ WIv π h0 v k h ∧ ((v4 = 0 ∧ h.2.1 170 71 ≤ 2000 ∧ h.2.1 170 72 ≤ 300 ∧ h.2.1 170 73 ≤ 100) ∨ (v4 = 1 ∧ (2000 < h.2.1 170 71 ∨ 300 < h.2.1 170 72 ∨ 100 < h.2.1 170 73)))
def mea (v3 : Int) (h : ah_T) : Nat := (2010 - h.2.1 170 71).toNat * 3000 + (2001 - v3).toNat
theorem wk_next {G : cx_T} {s v k Y d m0 : Nat} {a1 : Int} {π α : pm_T} {h0 h' : ah_T} {L : List fm_T} {sT sB : Int} {Q : Option av_T → ah_T → Prop} (B : WBw π h0 v L Y d sT sB α k h') (E : walk π = fin π L (wt π k Y sT sB α)) (b : α 0 0 ≤ 2003 ∧ α 0 1 ≤ 301 ∧ α 0 2 ≤ 101) (hm : (2010 - α 0 0).toNat * 3000 + (2001 - k) < m0) :
    B_MD_walk_491 G s a1 (v : Int) (k : Int) h' Q (fun v2 v3 v4 h => IVt π h0 v v2 v3 v4 h ∧ mea v3 h < m0) := by
  have M := B.2.2.2.2.2.2
  obtain ⟨c1, c2, c3, -, -⟩ := M.1
  have I : WIv π h0 v k h' := ⟨L, Y, d, sT, sB, α, B, E, b⟩
  have hmm : mea (k : Int) h' < m0 := by
    unfold mea; rw [c1]
    have : (2001 - (k : Int)).toNat = 2001 - k := by omega
    rw [this]; exact hm
  unfold B_MD_walk_491 B_MD_walk_520 B_MD_walk_525
  intro x1 e1 _ _
  refine ⟨fun c => ⟨⟨rfl, k, rfl, I, Or.inr ⟨rfl, Or.inr (Or.inl (by omega))⟩⟩, hmm⟩, fun c x2 e2 _ _ => ⟨fun d => ⟨⟨rfl, k, rfl, I, Or.inr ⟨rfl, Or.inr (Or.inr (by omega))⟩⟩, hmm⟩, fun d x3 e3 _ _ => ⟨fun f => ⟨⟨rfl, k, rfl, I, Or.inl ⟨rfl, by omega, by omega, by omega⟩⟩, hmm⟩, fun f => ⟨⟨rfl, k, rfl, I, Or.inr ⟨rfl, Or.inl (by omega)⟩⟩, hmm⟩⟩⟩⟩
/-- an event -/
theorem W_ev {G : cx_T} {s v k Y d m0 : Nat} {a1 : Int} {π α : pm_T} {h0 h : ah_T} {L : List fm_T} {sT sB : Int} {Q : Option av_T → ah_T → Prop} (hb1 : hb s h) (hv : 4 ≤ v ∧ v ≤ 7) (P : PW π) (hz : π 0 0 ≤ 2000) (R : RPm π h0) (hk : k < Y) (B : WBw π h0 v L Y d sT sB (wk_st α) k h) (r : RG π true d (k + 1) Y) (k256 : π 1 k = 256) (E : walk π = fin π L (wt π k Y sT sB α)) (b : α 0 0 ≤ 2000 ∧ α 0 1 ≤ 300 ∧ α 0 2 ≤ 100 ∧ α 0 1 ≤ α 0 0 ∧ α 0 2 ≤ α 0 0) (hm : (2010 - α 0 0).toNat * 3000 + (2001 - k) ≤ m0) :
    B_MD_walk_133 G s a1 (v : Int) (k : Int) 0 h Q (fun v2 v3 v4 h => IVt π h0 v v2 v3 v4 h ∧ mea v3 h < m0) := by
  obtain ⟨f0, -, W, C, c70, cS, M⟩ := B
  obtain ⟨wl, -, wd⟩ := FWp_le _ _ _ _ _ W
  have ws := FWp_s P _ _ _ _ _ W
  have bu := bq_u d (by omega)
  have hkz : (k : Int) < π 0 0 := by unfold sz at wl; have := P.1.1; omega
  have ev := wt_ev (sT := sT) (sB := sB) (α := α) k256 r (by unfold sz at wl; omega)
  rw [ev] at E
  have s0 := wk_st_0 (α := α)
  have s1 : wk_st α 0 1 = α 0 1 := wk_st_o (by omega)
  have s2 : wk_st α 0 2 = α 0 2 := wk_st_o (by omega)
  have e0 := wk_ev_0 (π := π) (j := k) (sT := sT) (sB := sB) (α := wk_st α)
  generalize wk_st α = α1 at *
  obtain ⟨⟨c1, c2, c3, c4, c5⟩, bb, hW⟩ := id M
  have e12 : wk_ev π k sT sB α1 0 1 = α1 0 1 + 1 ∧ wk_ev π k sT sB α1 0 2 = α1 0 2 := by
    by_cases c : α1 0 3 = 0 ∧ α1 0 1 < 300
    · by_cases w : isFr (lT_ π k sT sB) (lB_ π k sT sB) = true
      · exact (wk_ev_f c w).2
      · obtain ⟨yo, y1, -⟩ := wk_ev_y (sT := sT) (sB := sB) c (e := (α1 0 1).toNat) (by omega) w
        exact ⟨y1, yo 0 2 (by omega) (by omega)⟩
    · rw [wk_ev_n c]; exact ⟨up2_at, up2_o (by omega)⟩
  have fin' : ∀ h' : ah_T, hb s h' → fr (WWm v) h0 h' → CFh π h' L → h'.2.1 170 70 = (nTw L : Int) → (h'.2.2.1 170 77 = rdT sT sB ∧ h'.2.2.1 170 78 = rdB sT sB) → WMh π (wk_ev π k sT sB α1) v h' → B_MD_walk_491 G s a1 (v : Int) ((k : Int) + 1) h' Q (fun v2 v3 v4 h => IVt π h0 v v2 v3 v4 h ∧ mea v3 h < m0) := by
    intro h' _ f C' c70' cS' M'
    exact wk_next (k := k + 1) ⟨f, r, W, C', c70', cS', M'⟩ E ⟨by rw [e0]; omega, by rw [e12.1]; omega, by rw [e12.2]; omega⟩ (by rw [e0]; omega)
  unfold B_MD_walk_133 B_MD_walk_154
  refine ⟨fun _ x93 e93 _ _ => ?_, fun w => absurd rfl w⟩
  have ex93 : x93 = α1 0 1 := e93.trans c2
  refine ⟨fun c x1 e1 _ _ => ⟨⟨by omega, by omega⟩, fun h3 e3 => ⟨⟨by omega, by omega⟩, ?_⟩⟩, fun c => ?_⟩
  · have ex1 : x1 = α1 0 1 := e1.trans c2
    have f3 : fr (fun a k => a = 170 ∧ k = 72) h h3 := fr_i fr_0 e3 ⟨rfl, rfl⟩
    exact fin' h3 (hb_i hb1 e3) (fr_i f0 e3 (Or.inl ⟨rfl, by decide, by decide⟩)) (CFh_c L C (fun a k q1 q2 _ => fr_g f3 (by omega)) (fun k => fr_g f3 (by omega))) (by rw [fr_g f3 (by omega)]; exact c70) (by rw [fr_gl f3 (by omega), fr_gl f3 (by omega)]; exact cS) (WMh_evn (q := 0) M (by omega) (by omega) (fr_w f3 (fun a k w => by omega)) (by rw [mv_i e3, ex1]) (by rw [fr_g f3 (by omega)]; exact c4))
  · obtain ⟨e, he⟩ : ∃ e : Nat, α1 0 1 = (e : Int) := ⟨(α1 0 1).toNat, by omega⟩
    have gP : ∀ a j, 201 ≤ a → a ≤ 216 → h.2.1 a j = h0.2.1 a j := fun a j q1 q2 => fr_g f0 (by omega)
    have Ek := (R.2.2.2 k hkz).2.1 k256
    have Pk := (P.2.2 k hkz).2.1 k256
    have Ek' : EMj π k h := ⟨by rw [gP _ _ (by decide) (by decide), gP _ _ (by decide) (by decide), gP _ _ (by decide) (by decide)]; exact Ek.1, ESm_c Ek.2 Pk.2.2.2.1.2 (fun _ _ => rfl) ⟨gP _ _ (by decide) (by decide), gP _ _ (by decide) (by decide)⟩ (fun _ _ _ => ⟨gP _ _ (by decide) (by decide), gP _ _ (by decide) (by decide)⟩)⟩
    obtain ⟨t1, t2⟩ := rdT_b (a := sT) (b := sB) ws.1.1 ws.2.1
    obtain ⟨u1, u2⟩ := rdB_b (a := sT) (b := sB) ws.1.1 ws.2.1
    refine con_mono (t_MD_event (π := π) (cT := rdT sT sB) (cB := rdB sT sB) (nT := α1 0 4) (nB := α1 0 5) (l := α1 0 2) (f := α1 0 3) hb1 hv (e := e) (by rw [c2, he]) (by omega) (by omega) Ek' Pk c3 c4 c5 ⟨cS.1, t1, by omega⟩ ⟨cS.2, u1, by omega⟩ (fun w => ?_)) ?_
    · obtain ⟨⟨w1, w2⟩, w3, -⟩ := hW ⟨w, by omega⟩
      exact ⟨w1, w2, w3.1, w3.2.1, w3.2.2.1, w3.2.2.2⟩
    rintro r' h94 ⟨lT, lB, rfl, hb94, f94, eT, eB, hp, g1, g2⟩
    refine ⟨rfl, hb94, fun x1 e1 _ _ => ⟨⟨by have := f94; rw [e1, fr_g f94 (by omega), c2] ; omega, by rw [e1, fr_g f94 (by omega), c2]; omega⟩, fun h3 e3 => ⟨⟨by omega, by omega⟩, ?_⟩⟩⟩
    have ex1 : x1 = α1 0 1 := by rw [e1, fr_g f94 (by omega), c2]
    rw [ex1] at e3
    have f3 : fr (fun a k => WEm (300 * v + e) a k ∨ (a = 170 ∧ k = 72)) h h3 := fr_i (fr_w f94 (fun a k w => Or.inl w)) e3 (Or.inr ⟨rfl, rfl⟩)
    have fW : fr (WWm v) h0 h3 := by
      refine fr_t f0 f3 (fun a k w => ?_)
      rcases w with (⟨w1, w2⟩ | ⟨w1, w2, w3⟩ | ⟨w1, w2⟩) | ⟨w1, w2⟩
      · exact Or.inr (Or.inr (Or.inl ⟨w1, by omega, by omega⟩))
      · exact Or.inr (Or.inr (Or.inr (Or.inl ⟨w1, by omega, by omega⟩)))
      · exact Or.inl ⟨w1, by omega, by omega⟩
      · exact Or.inl ⟨w1, by omega, by omega⟩
    have C3 := CFh_c L C (h' := h3) (fun a k q1 q2 _ => fr_g f3 (by omega)) (fun k => fr_g f3 (by omega))
    have k70 : h3.2.1 170 70 = (nTw L : Int) := by rw [fr_g f3 (by omega)]; exact c70
    have kS : h3.2.2.1 170 77 = rdT sT sB ∧ h3.2.2.1 170 78 = rdB sT sB := by rw [fr_gl f3 (by omega), fr_gl f3 (by omega)]; exact cS
    refine fin' h3 (hb_i hb94 e3) fW C3 k70 kS ?_
    by_cases c0 : α1 0 3 = 0
    · have EL : lT = lT_ π k sT sB := by
        rw [eT]; unfold lT_ lnT lnB
        rw [Int.mul_assoc (rdB sT sB)]
        rw [(rd_rd (x := sT) (y := sB) (a := 2 ^ ((π 3 k).toNat + 1) - 1) (b := π 2 k * 2 ^ (π 3 k).toNat) ws.1.1).1, Int.mul_assoc sB]
      have EB : lB = lB_ π k sT sB := by
        rw [eB]; unfold lB_ lnT lnB
        rw [Int.mul_assoc (rdB sT sB)]
        rw [(rd_rd (x := sT) (y := sB) (a := 2 ^ ((π 3 k).toNat + 1) - 1) (b := π 2 k * 2 ^ (π 3 k).toNat) ws.1.1).2, Int.mul_assoc sB]
      exact WMh_evy P M (by omega) ⟨c0, by omega⟩ ⟨hkz, k256⟩ he f94 EL EB hp (fun w => g1 (Or.inr w)) (fun w => g2 c0 w) e3
    · have c1' : α1 0 3 = 1 := by rcases c5 with w | w; exact absurd w c0; exact w
      exact WMh_evn (q := 0) M (by omega) (fun w => c0 w.1) (fr_w f3 (fun a k w => by omega)) (mv_i e3) (by rw [mm_i e3 (by omega), g1 (Or.inl c1'), c1'])
/-- a | -/
theorem W_ln {G : cx_T} {s v k Y d m0 : Nat} {a1 : Int} {π α : pm_T} {h0 h : ah_T} {L : List fm_T} {sT sB : Int} {Q : Option av_T → ah_T → Prop} (hb1 : hb s h) (hv : 4 ≤ v ∧ v ≤ 7) (P : PW π) (hz : π 0 0 ≤ 2000) (hk : k < Y) (B : WBw π h0 v L Y d sT sB (wk_st α) k h) (r : RG π true d (k + 1) Y) (k124 : π 1 k = 124) (E : walk π = fin π L (wt π k Y sT sB α)) (b : α 0 0 ≤ 2000 ∧ α 0 1 ≤ 300 ∧ α 0 2 ≤ 100 ∧ α 0 1 ≤ α 0 0 ∧ α 0 2 ≤ α 0 0) (hm : (2010 - α 0 0).toNat * 3000 + (2001 - k) ≤ m0) :
    B_MD_walk_133 G s a1 (v : Int) (k : Int) 1 h Q (fun v2 v3 v4 h => IVt π h0 v v2 v3 v4 h ∧ mea v3 h < m0) := by
  obtain ⟨f0, -, W, C, c70, cS, M⟩ := B
  obtain ⟨wl, -, wd⟩ := FWp_le _ _ _ _ _ W
  have hkz : (k : Int) < π 0 0 := by unfold sz at wl; have := P.1.1; omega
  have ev := wt_ln (sT := sT) (sB := sB) (α := α) k124 r (by unfold sz at wl; omega)
  rw [ev] at E
  have s0 := wk_st_0 (α := α)
  have s1 : wk_st α 0 1 = α 0 1 := wk_st_o (by omega)
  have s2 : wk_st α 0 2 = α 0 2 := wk_st_o (by omega)
  have e0 := wk_ln_0 (α := wk_st α)
  generalize wk_st α = α1 at *
  obtain ⟨⟨c1, c2, c3, c4, c5⟩, bb, hW⟩ := id M
  have e1' : wk_ln α1 0 1 = α1 0 1 := by
    unfold wk_ln; rw [up2_o (by omega)]; split
    · rw [up2_o (by omega)]
    · rfl
  have e2' : wk_ln α1 0 2 = α1 0 2 + 1 := by unfold wk_ln; rw [up2_at]
  obtain ⟨l, hl⟩ : ∃ l : Nat, α1 0 2 = (l : Int) := ⟨(α1 0 2).toNat, by omega⟩
  have fin' : ∀ h' : ah_T, fr (WWm v) h0 h' → CFh π h' L → h'.2.1 170 70 = (nTw L : Int) → (h'.2.2.1 170 77 = rdT sT sB ∧ h'.2.2.1 170 78 = rdB sT sB) → WMh π (wk_ln α1) v h' → B_MD_walk_491 G s a1 (v : Int) ((k : Int) + 1) h' Q (fun v2 v3 v4 h => IVt π h0 v v2 v3 v4 h ∧ mea v3 h < m0) := by
    intro h' f C' c70' cS' M'
    exact wk_next (k := k + 1) ⟨f, r, W, C', c70', cS', M'⟩ E ⟨by rw [e0]; omega, by rw [e1']; omega, by rw [e2']; omega⟩ (by rw [e0]; omega)
  unfold B_MD_walk_133 B_MD_walk_231
  refine ⟨fun w => absurd w (by decide), fun _ => ⟨fun _ x75 e75 _ _ => ?_, fun w => absurd rfl w⟩⟩
  have ex75 : x75 = (l : Int) := by rw [e75, c3, hl]
  subst ex75
  refine ⟨⟨by omega, by omega⟩, fun h77 e77 => ⟨fun c => ⟨⟨by omega, by omega⟩, ?_⟩, fun c => ⟨⟨by omega, by omega⟩, ⟨by omega, by omega⟩, fun x84 e84 _ _ => ⟨⟨by omega, by omega⟩, ?_⟩⟩⟩⟩
  · have f3 : fr (fun a k => a = 170 ∧ k = 73) h h77 := fr_i fr_0 e77 ⟨rfl, rfl⟩
    exact fin' h77 (fr_i f0 e77 (Or.inl ⟨rfl, by decide, by decide⟩)) (CFh_c L C (fun a k q1 q2 _ => fr_g f3 (by omega)) (fun k => fr_g f3 (by omega))) (by rw [fr_g f3 (by omega)]; exact c70) (by rw [fr_gl f3 (by omega), fr_gl f3 (by omega)]; exact cS) (WMh_ln M (by omega) hl (fr_w f3 (fun a k w => Or.inl w)) (mv_i e77) (fun w => by omega))
  · have ek : (102 * (v : Int) + (l : Int) + 1).toNat = 102 * v + (l + 1) := by omega
    rw [ek]
    intro h86 e86 x90 e90 _ _ h91 e91
    have f3 : fr (fun a k => (a = 170 ∧ k = 73) ∨ ((a = 199 ∨ a = 200) ∧ k = 102 * v + (l + 1))) h h91 := fr_l (fr_l (fr_i fr_0 e77 (Or.inl ⟨rfl, rfl⟩)) e86 (Or.inr ⟨Or.inl rfl, rfl⟩)) e91 (Or.inr ⟨Or.inr rfl, rfl⟩)
    refine ⟨⟨by omega, by omega⟩, fin' h91 ?_ (CFh_c L C (fun a k q1 q2 _ => fr_g f3 (by omega)) (fun k => fr_g f3 (by omega))) (by rw [fr_g f3 (by omega)]; exact c70) (by rw [fr_gl f3 (by omega), fr_gl f3 (by omega)]; exact cS) (WMh_ln M (by omega) hl f3 ?_ (fun _ => ⟨?_, ?_⟩))⟩
    · refine fr_t f0 f3 (fun a k w => ?_)
      rcases w with ⟨w1, w2⟩ | ⟨w1, w2⟩
      · exact Or.inl ⟨w1, by omega, by omega⟩
      · exact Or.inr (Or.inr (Or.inr (Or.inr ⟨w1, by omega, by omega⟩)))
    · rw [mm_lo e91, mm_lo e86, mv_i e77]
    · rw [mm_l e91 (by omega), mv_l e86, e84, mm_io e77]
    · rw [mv_l e91, e90, mm_l e86 (by omega), mm_io e77]

/-! ===== the WALK, reference: brackets met ===== -/
/-- the marks of the brackets that are all closed -/
def MKa (π : pm_T) (h : ah_T) : Prop := ∃ ow : Nat → Nat, ∀ p, p < sz π → (π 1 p = 91 → MKx π h ow p) ∧ (π 1 p = 123 → MKy π h p)
theorem MKa_of {π : pm_T} {h : ah_T} (M : MKm π h) (hd : dp π = 0) : MKa π h := by
  obtain ⟨ow, -, H⟩ := M
  refine ⟨ow, fun p hp => ⟨fun k => ?_, fun k => ?_⟩⟩
  · rcases (H p hp).1 k with ⟨d, q, -⟩ | q
    · omega
    · exact q
  · rcases (H p hp).2 k with ⟨d, q, -⟩ | q
    · omega
    · exact q
theorem MKa_f {π : pm_T} {h h' : ah_T} (M : MKa π h) (g : ∀ a j, 210 ≤ a → a ≤ 214 → h'.2.1 a j = h.2.1 a j) : MKa π h' := by
  obtain ⟨ow, H⟩ := M
  refine ⟨ow, fun p hp => ⟨fun k => ?_, fun k => ?_⟩⟩
  · exact MKx_c ((H p hp).1 k) hp (Nat.le_refl _) (fun _ _ _ _ => rfl) (fun _ _ => rfl) (fun _ _ => rfl) ⟨g _ _ (by decide) (by decide), g _ _ (by decide) (by decide), g _ _ (by decide) (by decide), g _ _ (by decide) (by decide)⟩ (fun _ _ _ _ _ => g _ _ (by decide) (by decide))
  · obtain ⟨r1, r2, r3, r4⟩ := (H p hp).2 k
    exact ⟨r1, r2, r3, by rw [g _ _ (by decide) (by decide)]; exact r4⟩
/-- a { -/
theorem W_st {G : cx_T} {s v k Y d d' m0 : Nat} {a1 : Int} {π α : pm_T} {h0 h : ah_T} {L : List fm_T} {sT sB : Int} {Q : Option av_T → ah_T → Prop} (hb1 : hb s h) (hv : 4 ≤ v ∧ v ≤ 7) (P : PW π) (hz : π 0 0 ≤ 2000) (R : RPm π h0) (hk : k < Y) (B : WBw π h0 v L Y d sT sB (wk_st α) k h) (k123 : π 1 k = 123) (ed : d = d' + 1) (hl : k < lk π k) (kc : π 1 (lk π k) = 125) (r1 : RG π true d' (k + 1) (lk π k)) (r2 : RG π true d (lk π k + 1) Y) (E : walk π = fin π L (wt π k Y sT sB α)) (b : α 0 0 ≤ 2000 ∧ α 0 1 ≤ 300 ∧ α 0 2 ≤ 100 ∧ α 0 1 ≤ α 0 0 ∧ α 0 2 ≤ α 0 0) (hm : (2010 - α 0 0).toNat * 3000 + (2001 - k) ≤ m0) :
    B_MD_walk_133 G s a1 (v : Int) (k : Int) 5 h Q (fun v2 v3 v4 h => IVt π h0 v v2 v3 v4 h ∧ mea v3 h < m0) := by
  obtain ⟨f0, -, W, C, c70, cS, M⟩ := B
  obtain ⟨wl, -, wd⟩ := FWp_le _ _ _ _ _ W
  have ws := FWp_s P _ _ _ _ _ W
  have bu := bq_u d (by omega)
  have hkz : (k : Int) < π 0 0 := by unfold sz at wl; have := P.1.1; omega
  have ev := wt_st (sT := sT) (sB := sB) (α := α) k123 hl r1 r2 (by unfold sz at wl; omega)
  have hl2 := (RG_le r2).1
  have s0 := wk_st_0 (α := α)
  have s1 : wk_st α 0 1 = α 0 1 := wk_st_o (by omega)
  have s2 : wk_st α 0 2 = α 0 2 := wk_st_o (by omega)
  have gP : ∀ a j, 201 ≤ a → a ≤ 216 → h.2.1 a j = h0.2.1 a j := fun a j q1 q2 => fr_g f0 (by omega)
  obtain ⟨m2, m3⟩ := (R.2.2.2 k hkz).2.2 k123
  obtain ⟨v2, v3⟩ := (P.2.2 k hkz).2.2 k123
  obtain ⟨t1, t2⟩ := rdT_b (a := sT) (b := sB) ws.1.1 ws.2.1
  obtain ⟨u1, u2⟩ := rdB_b (a := sT) (b := sB) ws.1.1 ws.2.1
  unfold B_MD_walk_133
  refine ⟨fun w => absurd w (by decide), fun _ => ⟨fun w => absurd w (by decide), fun _ => ⟨fun w => absurd w (by decide), fun _ => ⟨fun _ => ⟨⟨by omega, by omega⟩, ?_⟩, fun w => absurd rfl w⟩⟩⟩⟩
  rw [tn_c]
  intro x46 e46 _ _ x49 e49 _ _
  have ex46 : x46 = π 3 k := by rw [e46, gP _ _ (by decide) (by decide)]; exact m3
  have ex49 : x49 = π 2 k := by rw [e49, gP _ _ (by decide) (by decide)]; exact m2
  subst ex46 ex49
  refine con_mono (t_MD_scale hb1 v3 v2 (by rw [cS.1]; omega) (by rw [cS.2]; omega)) ?_
  rintro r' h50 ⟨rfl, hb50, f50, g1, g2, g3⟩
  refine ⟨rfl, hb50, ⟨by omega, by omega⟩, ?_⟩
  rw [cS.1, cS.2] at g1 g2
  have rr := rd_rd (x := sT) (y := sB) (a := π 3 k) (b := π 2 k) ws.1.1
  have i50 : ∀ a j, h50.2.1 a j = h.2.1 a j := fun a j => by rw [g3]
  refine wk_next (k := k + 1) (L := (k, 0, false, Y, sT, sB) :: L) (Y := lk π k) (d := d') (sT := sT * π 3 k) (sB := sB * π 2 k) (α := wk_st α) ⟨fr_t f0 f50 (fun a j w => Or.inl ⟨w.1, by omega, by omega⟩), r1, ?_, ⟨fun w => absurd w (by decide), CFh_c L C (fun a j _ _ _ => i50 a j) (fun j => i50 _ j)⟩, by rw [i50]; exact c70, ⟨by rw [g1, rr.1], by rw [g2, rr.2]⟩, WMh_f M f50 (fun a j w => by omega)⟩ ?_ ⟨by omega, by omega, by omega⟩ (by omega)
  · exact ⟨⟨hl, by omega⟩, fun _ => ⟨k123, rfl, kc, rfl, rfl, by rw [← ed]; exact r2⟩, fun w => absurd w (by decide), by rw [← ed]; exact W⟩
  · rw [E, ev, fin_0]
/-- a [ -/
theorem W_rp {G : cx_T} {s v k Y c d d' m0 : Nat} {a1 : Int} {π α : pm_T} {h0 h : ah_T} {L : List fm_T} {sT sB : Int} {Q : Option av_T → ah_T → Prop} (hb1 : hb s h) (hv : 4 ≤ v ∧ v ≤ 7) (P : PW π) (hz : π 0 0 ≤ 2000) (MA : MKa π h0) (hk : k < Y) (B : WBw π h0 v L Y d sT sB (wk_st α) k h) (k91 : π 1 k = 91) (ed : d = d' + 1) (r1 : RG π false d' k c) (r2 : RG π true d (c + 1) Y) (E : walk π = fin π L (wt π k Y sT sB α)) (b : α 0 0 ≤ 2000 ∧ α 0 1 ≤ 300 ∧ α 0 2 ≤ 100 ∧ α 0 1 ≤ α 0 0 ∧ α 0 2 ≤ α 0 0) (hm : (2010 - α 0 0).toNat * 3000 + (2001 - k) ≤ m0) :
    B_MD_walk_133 G s a1 (v : Int) (k : Int) 2 h Q (fun v2 v3 v4 h => IVt π h0 v v2 v3 v4 h ∧ mea v3 h < m0) := by
  obtain ⟨f0, -, W, C, c70, cS, M⟩ := B
  obtain ⟨wl, -, wd⟩ := FWp_le _ _ _ _ _ W
  have hkz : k < sz π := by omega
  have hz2 : sz π ≤ 2000 := by unfold sz; omega
  have ev := wt_rp (sT := sT) (sB := sB) (α := α) k91 r1 r2 (by omega)
  have l1 := (RG_le r1).2 rfl
  have l2 := (RG_le r2).1
  obtain ⟨o1, o2, R1, oc⟩ := RG_1 r1
  have s0 := wk_st_0 (α := α)
  have s1 : wk_st α 0 1 = α 0 1 := wk_st_o (by omega)
  have s2 : wk_st α 0 2 = α 0 2 := wk_st_o (by omega)
  have hcl : cl π k = c := cls_ok r1 rfl 5000 (by omega)
  obtain ⟨ow, HA⟩ := MKa_f MA (h' := h) (fun a j q1 q2 => fr_g f0 (by omega))
  obtain ⟨Cn, Hc, y1, y2, y3, y4⟩ := (HA k hkz).1 k91
  have hCn := MKc_n Hc Cn (Nat.le_refl _)
  have hC0 : Cn = 0 ↔ ¬ π 1 (lk π k) = 58 := by
    constructor
    · intro w w2; subst w
      have : π 1 (lk π k) = 93 := y3
      omega
    · intro w
      refine Classical.byContradiction fun q => ?_
      exact w (Hc.2.1 0 (by omega)).2.2.1
  have hnt := nTw_l L
  unfold B_MD_walk_133 B_MD_walk_298
  refine ⟨fun w => absurd w (by decide), fun _ => ⟨fun w => absurd w (by decide), fun _ => ⟨fun _ x55 e55 _ _ => ?_, fun w => absurd rfl w⟩⟩⟩
  have ex55 : x55 = (nTw L : Int) := e55.trans c70
  subst ex55
  refine ⟨⟨by omega, by omega⟩, ?_⟩
  rw [tn_c]
  intro h57 e57 h61 e61 h65 e65
  have f65 : fr (fun a j => (a = 217 ∨ a = 218 ∨ a = 220) ∧ j = nTw L) h h65 := fr_i (fr_i (fr_i fr_0 e57 ⟨Or.inl rfl, rfl⟩) e61 ⟨Or.inr (Or.inr rfl), rfl⟩) e65 ⟨Or.inr (Or.inl rfl), rfl⟩
  have hb65 := hb_i (hb_i (hb_i hb1 e57) e61) e65
  have q217 : h65.2.1 217 (nTw L) = (k : Int) := by rw [mm_i e65 (by omega), mm_i e61 (by omega), mv_i e57]
  have q218 : h65.2.1 218 (nTw L) = 1 := mv_i e65
  have q220 : h65.2.1 220 (nTw L) = 0 := by rw [mm_i e65 (by omega), mv_i e61]
  have q214 : h65.2.1 214 k = (Cn : Int) := by rw [fr_g f65 (by omega)]; exact Hc.1
  have q70 : h65.2.1 170 70 = (nTw L : Int) := by rw [fr_g f65 (by omega)]; exact c70
  have q71 : h65.2.1 170 71 = α 0 0 + 1 := by rw [fr_g f65 (by omega), M.1.1, s0]
  have k298 : ∀ t2 : Int, t2 = (if π 1 (lk π k) = 58 then h.2.1 214 k else 2) → ((0 : Int) ≤ (nTw L : Int) ∧ (nTw L : Int) < 10) ∧ ∀ h2 : ah_T, h2 = st_i h65 219 ((nTw L : Int)).toNat t2 → ∀ x4 : Int, x4 = h2.2.1 170 70 → -2147483648 ≤ x4 → x4 ≤ 2147483647 → (-2147483648 ≤ (x4 + 1) ∧ (x4 + 1) ≤ 2147483647) ∧ ∀ h6 : ah_T, h6 = st_i h2 170 70 (x4 + 1) → ∀ x8 : Int, x8 = h6.2.1 170 71 → -2147483648 ≤ x8 → x8 ≤ 2147483647 → (-2147483648 ≤ (x8 + 1) ∧ (x8 + 1) ≤ 2147483647) ∧ ∀ h10 : ah_T, h10 = st_i h6 170 71 (x8 + 1) → (-2147483648 ≤ ((k : Int) + 1) ∧ ((k : Int) + 1) ≤ 2147483647) ∧ B_MD_walk_491 G s a1 ((v : Int)) (((k : Int) + 1)) h10 Q (fun v2 v3 v4 h => IVt π h0 v v2 v3 v4 h ∧ mea v3 h < m0) := by
    intro t2 et2
    rw [tn_c]
    refine ⟨⟨by omega, by omega⟩, fun h2 e2 x4 e4 _ _ => ?_⟩
    have ex4 : x4 = (nTw L : Int) := by rw [e4, mm_i e2 (by omega)]; exact q70
    subst ex4
    refine ⟨⟨by omega, by omega⟩, fun h6 e6 x8 e8 _ _ => ?_⟩
    have ex8 : x8 = α 0 0 + 1 := by rw [e8, mm_i e6 (by omega), mm_i e2 (by omega)]; exact q71
    refine ⟨⟨by omega, by omega⟩, fun h10 e10 => ⟨⟨by omega, by omega⟩, ?_⟩⟩
    have f6 : fr (fun a j => ((a = 217 ∨ a = 218 ∨ a = 219 ∨ a = 220) ∧ j = nTw L) ∨ (a = 170 ∧ j = 70)) h h6 := fr_i (fr_i (fr_w f65 (fun a j w => by omega)) e2 (by omega)) e6 (by omega)
    have f10 : fr (fun a j => ((a = 217 ∨ a = 218 ∨ a = 219 ∨ a = 220) ∧ j = nTw L) ∨ (a = 170 ∧ (j = 70 ∨ j = 71))) h h10 := fr_i (fr_w f6 (fun a j w => by omega)) e10 (by omega)
    have M6 : WMh π (wk_st α) v h6 := WMh_f M f6 (fun a j w => by omega)
    have M10 : WMh π (wk_st (wk_st α)) v h10 := WMh_st M6 e8 e10
    have fW : fr (WWm v) h0 h10 := by
      refine fr_t f0 f10 (fun a j w => ?_)
      rcases w with ⟨w1, w2⟩ | ⟨w1, w2⟩
      · exact Or.inr (Or.inl ⟨by omega, by omega⟩)
      · exact Or.inl ⟨w1, by omega, by omega⟩
    have t0 := wk_st_0 (α := wk_st α)
    have t1 : wk_st (wk_st α) 0 1 = wk_st α 0 1 := wk_st_o (by omega)
    have t2' : wk_st (wk_st α) 0 2 = wk_st α 0 2 := wk_st_o (by omega)
    refine wk_next (k := k + 1) (L := (k, 1, false, Y, sT, sB) :: L) (Y := lk π k) (d := d') (sT := sT) (sB := sB) (α := wk_st (wk_st α)) ⟨fW, R1, ?_, ⟨fun _ => ⟨?_, ?_, ?_, ?_, fun w => ?_⟩, CFh_c L C (fun a j h1 h2 h3 => fr_g f10 (by omega)) (fun j => fr_g f10 (by omega))⟩, ?_, ⟨?_, ?_⟩, M10⟩ ?_ ⟨by omega, by omega, by omega⟩ (by omega)
    · refine ⟨⟨o1, by omega⟩, fun w => absurd w (by decide), fun _ => ⟨k91, rfl, rfl, ⟨c, r1, by rw [← ed]; exact r2, fun w => ?_⟩, fun _ => rfl, fun w => absurd w (by decide), fun _ => by decide⟩, by rw [← ed]; exact W⟩
      rcases oc with ⟨q, -⟩ | ⟨-, q⟩
      · omega
      · exact ⟨q, w⟩
    · rw [mm_i e10 (by omega), mm_i e6 (by omega), mm_i e2 (by omega)]; exact q217
    · rw [mm_i e10 (by omega), mm_i e6 (by omega), mm_i e2 (by omega)]; exact q218
    · rw [mm_i e10 (by omega), mm_i e6 (by omega), mv_i e2, et2, fr_g f10 (by omega)]
    · rw [mm_i e10 (by omega), mm_i e6 (by omega), mm_i e2 (by omega), q220]; rfl
    · rw [fr_g f10 (by omega), Hc.1]
      have : ¬ Cn = 0 := fun q => hC0.mp q w
      omega
    · rw [mm_i e10 (by omega), mv_i e6]; rfl
    · rw [fr_gl f10 (by omega)]; exact cS.1
    · rw [fr_gl f10 (by omega)]; exact cS.2
    · rw [E, ev, fin_s, hcl]
      have key : (if π 1 (lk π k) = 58 then wf π k (lk π k) sT sB (wk_st α) else wt π (k + 1) (lk π k) sT sB (wk_st (wt π (k + 1) (lk π k) sT sB (wk_st (wk_st α))))) = rst π k (0 + 1) false sT sB (wt π (k + 1) (lk π k) sT sB (wk_st (wk_st α))) := by
        unfold rst
        by_cases w : π 1 (lk π k) = 58
        · rw [if_pos w, if_pos w, if_neg (by decide)]
          rcases oc with ⟨q, -⟩ | ⟨-, q⟩
          · omega
          · exact wf_c o1 R1 w q (by omega) (Nat.le_refl _)
        · rw [if_neg w, if_neg w, if_pos rfl]
      rw [key]
  refine con_mono (t_MD_colons (x := (Cn : Int)) hb65 (by omega) q214) ?_
  rintro r' h69 ⟨hb69, rfl, rfl⟩
  refine ⟨_, rfl, hb69, fun w => ?_, fun w => ?_⟩
  · exact k298 2 (by rw [if_neg (hC0.mp (by omega))])
  · refine con_mono (t_MD_colons (x := (Cn : Int)) hb69 (by omega) q214) ?_
    rintro r' h72 ⟨hb72, rfl, rfl⟩
    have y58 : π 1 (lk π k) = 58 := Classical.byContradiction fun q => w (by have := hC0.mpr q; omega)
    exact ⟨_, rfl, hb72, k298 _ (by rw [if_pos y58, Hc.1])⟩

/-! ===== the WALK, reference: where a stretch ends ===== -/
theorem W_end {G : cx_T} {s v p i y Y d m0 : Nat} {e : Bool} {a1 x3 : Int} {π α : pm_T} {h0 h : ah_T} {L : List fm_T} {sT sB uT uB : Int} {Q : Option av_T → ah_T → Prop} (hb1 : hb s h) (P : PW π) (hz : π 0 0 ≤ 2000) (R : RPm π h0) (MA : MKa π h0) (B : WBw π h0 v ((p, i, e, y, uT, uB) :: L) Y d sT sB α Y h) (hx : x3 = mkd (π 1 Y)) (E : walk π = fin π ((p, i, e, y, uT, uB) :: L) (wt π Y Y sT sB α)) (b : α 0 0 ≤ 2000 ∧ α 0 1 ≤ 300 ∧ α 0 2 ≤ 100) (hm : (2010 - α 0 0).toNat * 3000 + (2001 - Y) ≤ m0) :
    (x3 = 3 ∨ x3 = 4 ∨ x3 = 6) ∧ B_MD_walk_133 G s a1 (v : Int) (Y : Int) x3 h Q (fun v2 v3 v4 h => IVt π h0 v v2 v3 v4 h ∧ mea v3 h < m0) := by
  obtain ⟨f0, -, W, C, c70, cS, M⟩ := B
  have wl := FWp_le _ _ _ _ _ W
  have ws := FWp_s P _ _ _ _ _ W
  obtain ⟨⟨hpY, hYy⟩, W0, W1, W2⟩ := W
  have wl2 := FWp_le _ _ _ _ _ W2
  have ws2 := FWp_s P _ _ _ _ _ W2
  have bu := bq_u d (by omega)
  have bu2 := bq_u (d + 1) (by simp at wl; omega)
  have hz2 : sz π ≤ 2000 := by unfold sz; omega
  have hYz : Y < sz π := wl.2.1 (by simp)
  have hpz : p < sz π := by omega
  have hpz' : (p : Int) < π 0 0 := by unfold sz at hpz; have := P.1.1; omega
  have gP : ∀ a j, 201 ≤ a → a ≤ 216 → h.2.1 a j = h0.2.1 a j := fun a j q1 q2 => fr_g f0 (by omega)
  obtain ⟨ow, HA⟩ := MKa_f MA (h' := h) (fun a j q1 q2 => gP a j (by omega) (by omega))
  have hnt := nTw_l L
  have hlen : L.length ≤ 6 := by simp at wl; omega
  rw [wt_nil] at E
  by_cases ci : i = 0
  · -- a {
    subst ci
    obtain ⟨k123, eY, k125, eT, eB, r2⟩ := W0 rfl
    have x6 : x3 = 6 := by rw [hx, k125]; rfl
    subst x6
    refine ⟨Or.inr (Or.inr rfl), ?_⟩
    obtain ⟨q1, q2, q3, q4⟩ := (HA p hpz).2 k123
    obtain ⟨m2, m3⟩ := (R.2.2.2 p hpz').2.2 k123
    obtain ⟨v2, v3⟩ := (P.2.2 p hpz').2.2 k123
    obtain ⟨t1, t2⟩ := rdT_b (a := sT) (b := sB) ws.1.1 ws.2.1
    obtain ⟨u1, u2⟩ := rdB_b (a := sT) (b := sB) ws.1.1 ws.2.1
    unfold B_MD_walk_133
    refine ⟨fun w => absurd w (by decide), fun _ => ⟨fun w => absurd w (by decide), fun _ => ⟨fun w => absurd w (by decide), fun _ => ⟨fun w => absurd w (by decide), fun _ => ⟨fun _ => ?_, fun w => absurd rfl w⟩⟩⟩⟩⟩
    refine con_mono (t_MD_opening (x := (p : Int)) hb1 (by omega) (by rw [eY]; exact q4)) ?_
    rintro r' h33 ⟨hb33, rfl, rfl⟩
    refine ⟨_, rfl, hb33, ⟨by omega, by omega⟩, ?_⟩
    rw [tn_c]
    intro x37 e37 _ _ x40 e40 _ _
    have ex37 : x37 = π 2 p := by rw [e37, gP _ _ (by decide) (by decide)]; exact m2
    have ex40 : x40 = π 3 p := by rw [e40, gP _ _ (by decide) (by decide)]; exact m3
    subst ex37 ex40
    refine con_mono (t_MD_scale hb33 v2 v3 (by rw [cS.1]; omega) (by rw [cS.2]; omega)) ?_
    rintro r' h41 ⟨rfl, hb41, f41, g1, g2, g3⟩
    refine ⟨rfl, hb41, ⟨by omega, by omega⟩, ?_⟩
    rw [cS.1, cS.2, eT, eB] at g1 g2
    have rr := rd_back (x := uT) (y := uB) (a := π 3 p) (b := π 2 p) ws2.1.1 v3.1 v2.1
    have i41 : ∀ a j, h41.2.1 a j = h33.2.1 a j := fun a j => by rw [g3]
    refine wk_next (k := Y + 1) (L := L) (Y := y) (d := d + 1) (sT := uT) (sB := uB) (α := α) ⟨fr_t f0 f41 (fun a j w => Or.inl ⟨w.1, by omega, by omega⟩), r2, W2, CFh_c L C.2 (fun a j _ _ _ => i41 a j) (fun j => i41 _ j), by rw [i41]; exact c70, ⟨by rw [g1, rr.1], by rw [g2, rr.2]⟩, WMh_f M f41 (fun a j w => by omega)⟩ ?_ ⟨by omega, by omega, by omega⟩ (by omega)
    rw [E, fin_0, eY]
  obtain ⟨j, rfl⟩ : ∃ j, i = j + 1 := ⟨i - 1, by omega⟩
  obtain ⟨k91, eT, eB, ⟨c, r1, r2, hch⟩, he0, he1, hi2⟩ := W1 (by omega)
  obtain ⟨⟨c217, c218, c219, c220, cile⟩, C2⟩ : (_ ∧ _) := ⟨C.1 (by omega), C.2⟩
  obtain ⟨o1, o2, R1, oc⟩ := RG_1 r1
  have l1 := (RG_le r1).2 rfl
  have l2 := (RG_le r2).1
  have hcl : cl π p = c := cls_ok r1 rfl 5000 (by omega)
  obtain ⟨Cn, Hc, y1, y2, y3, y4⟩ := (HA p hpz).1 k91
  have hCn := MKc_n Hc Cn (Nat.le_refl _)
  have hC0 : Cn = 0 ↔ ¬ π 1 (lk π p) = 58 := by
    constructor
    · intro w w2; subst w
      have : π 1 (lk π p) = 93 := y3
      omega
    · intro w
      refine Classical.byContradiction fun q => ?_
      exact w (Hc.2.1 0 (by omega)).2.2.1
  have ht70 : h.2.1 170 70 = (nTw L : Int) + 1 := by
    rw [c70]
    show ((if j + 1 = 0 then nTw L else nTw L + 1 : Nat) : Int) = _
    rw [if_neg (by omega)]; omega
  have hM := M.1.1
  rw [fin_s, hcl] at E
  -- the [ ends
  have pop : ∀ h' : ah_T, hb s h' → fr (fun a k => (a = 220 ∧ k = nTw L) ∨ (a = 170 ∧ k = 70)) h h' → h'.2.1 170 70 = (nTw L : Int) → rst π p (j + 1) e uT uB α = α → B_MD_walk_491 G s a1 (v : Int) ((c : Int) + 1) h' Q (fun v2 v3 v4 h => IVt π h0 v v2 v3 v4 h ∧ mea v3 h < m0) := by
    intro h' _ f' g70 er
    rw [er] at E
    refine wk_next (k := c + 1) (L := L) (Y := y) (d := d + 1) (sT := uT) (sB := uB) (α := α) ⟨?_, r2, W2, CFh_c L C2 (fun a k q1 q2 q3 => fr_g f' (by omega)) (fun k => fr_g f' (by omega)), g70, ?_, WMh_f M f' (fun a k w => by omega)⟩ E ⟨by omega, by omega, by omega⟩ (by
      have : Y ≤ c := by
        rcases he : e with _ | _
        · have := he0 he; omega
        · obtain ⟨w58, w2⟩ := he1 he
          have := (RG_1 (hch w58).1).2.1
          have e2 : mkn π p (j + 1 + 1) = lk π (mkn π p (j + 1)) := rfl
          omega
      omega)
    · refine fr_t f0 f' (fun a k w => ?_)
      rcases w with ⟨w1, w2⟩ | ⟨w1, w2⟩
      · exact Or.inr (Or.inl ⟨by omega, by omega⟩)
      · exact Or.inl ⟨w1, by omega, by omega⟩
    · rw [fr_gl f' (by omega), fr_gl f' (by omega), ← eT, ← eB]; exact cS
  -- the next turn
  have trn : ∀ h' h1 : ah_T, hb s h' → fr (fun a k => (a = 218 ∨ a = 220) ∧ k = nTw L) h h1 → h' = st_i h1 170 71 (α 0 0 + 1) → h'.2.1 220 (nTw L) = 0 → h'.2.1 218 (nTw L) = ((j + 1 : Nat) : Int) + 1 → (π 1 (lk π p) = 58 → RG π false d (mkn π p (j + 1 + 1)) c ∧ π 1 (mkn π p (j + 1 + 1)) = 58 ∧ j + 1 + 1 ≤ Cn) → (¬ π 1 (lk π p) = 58 → j = 0) → rst π p (j + 1) e uT uB α = rst π p (j + 1 + 1) false uT uB (wt π (p + 1) (lk π p) uT uB (wk_st α)) → B_MD_walk_491 G s a1 (v : Int) ((p : Int) + 1) h' Q (fun v2 v3 v4 h => IVt π h0 v v2 v3 v4 h ∧ mea v3 h < m0) := by
    intro h' h1 _ f1 e' g220 g218 w58 w93 er
    rw [er] at E
    have f' : fr (fun a k => ((a = 218 ∨ a = 220) ∧ k = nTw L) ∨ (a = 170 ∧ k = 71)) h h' := fr_i (fr_w f1 (fun a k w => Or.inl w)) e' (Or.inr ⟨rfl, rfl⟩)
    have M1 : WMh π α v h1 := WMh_f M f1 (fun a k w => by omega)
    have M2 : WMh π (wk_st α) v h' := WMh_st M1 (by rw [fr_g f1 (by omega), hM]) e'
    have s0 := wk_st_0 (α := α)
    have s1 : wk_st α 0 1 = α 0 1 := wk_st_o (by omega)
    have s2 : wk_st α 0 2 = α 0 2 := wk_st_o (by omega)
    refine wk_next (k := p + 1) (L := (p, j + 1 + 1, false, y, uT, uB) :: L) (Y := lk π p) (d := d) (sT := sT) (sB := sB) (α := wk_st α) ⟨?_, R1, ⟨⟨o1, by omega⟩, fun w => absurd w (by omega), fun _ => ⟨k91, eT, eB, ⟨c, r1, r2, fun w => ⟨(w58 w).1, (w58 w).2.1⟩⟩, fun _ => rfl, fun w => absurd w (by decide), fun w => by have := w93 w; omega⟩, W2⟩, ⟨fun _ => ⟨?_, ?_, ?_, ?_, fun w => ?_⟩, CFh_c L C2 (fun a k q1 q2 q3 => fr_g f' (by omega)) (fun k => fr_g f' (by omega))⟩, ?_, ?_, M2⟩ ?_ ⟨by omega, by omega, by omega⟩ (by omega)
    · refine fr_t f0 f' (fun a k w => ?_)
      rcases w with ⟨w1, w2⟩ | ⟨w1, w2⟩
      · exact Or.inr (Or.inl ⟨by omega, by omega⟩)
      · exact Or.inl ⟨w1, by omega, by omega⟩
    · rw [fr_g f' (by omega)]; exact c217
    · rw [g218]; rfl
    · rw [fr_g f' (by omega), c219, fr_g f' (by omega)]
    · rw [g220]; rfl
    · rw [fr_g f' (by omega), Hc.1]; have := (w58 w).2.2; omega
    · rw [fr_g f' (by omega), ht70]
      show _ = ((if j + 1 + 1 = 0 then nTw L else nTw L + 1 : Nat) : Int)
      rw [if_neg (by omega)]; omega
    · rw [fr_gl f' (by omega), fr_gl f' (by omega)]; exact cS
    · rw [E, fin_s, hcl, eT, eB]
  have hp210 : h.2.1 210 p = (mkn π p (Cn + 1) : Int) := y4
  have turnC : con G 1 0 0 m_MD_turned [av_R (some 170), av_I (p : Int)] h _ := t_MD_turned (t := nTw L) (i := ((j + 1 : Nat) : Int)) (n := if π 1 (lk π p) = 58 then h.2.1 214 p else 2) (c := (mkn π p (Cn + 1) : Int)) (x := α 0 0) hb1 (by omega) ht70 (by omega) c218 c219 hp210 ⟨by omega, by omega⟩ hM ⟨by have := M.2.1; omega, by omega⟩ ⟨by omega, by
    by_cases w : π 1 (lk π p) = 58
    · have := cile w; rw [Hc.1] at this; omega
    · have := hi2 w; omega⟩
  have ex217 : ∀ x10 : Int, x10 = h.2.1 170 70 → (x10 - 1).toNat = nTw L ∧ x10 = (nTw L : Int) + 1 := fun x10 ex => by rw [ex, ht70]; exact ⟨by omega, rfl⟩
  -- without a mark : at Y
  by_cases k58 : π 1 (lk π p) = 58
  · have hCp : ¬ Cn = 0 := fun w => hC0.mp w k58
    obtain ⟨r5, k5⟩ := hch k58
    obtain ⟨o3, o4, R5, oc5⟩ := RG_1 r5
    have emk : mkn π p (j + 1 + 1) = lk π (mkn π p (j + 1)) := rfl
    have hjC : j + 1 ≤ Cn := by have := cile k58; rw [Hc.1] at this; omega
    have hpm : p < mkn π p (j + 1) := MKc_m Hc (j + 1) hjC 0 (by omega)
    have er0 : e = false → rst π p (j + 1) e uT uB α = wf π p (mkn π p (j + 1 + 1)) uT uB (wt π (mkn π p (j + 1) + 1) (mkn π p (j + 1 + 1)) uT uB α) := fun w => by unfold rst; rw [if_pos k58, w, if_neg (by decide)]
    have er1 : ∀ β, rst π p (j + 1) true uT uB β = wf π p (mkn π p (j + 1 + 1)) uT uB β := fun β => by unfold rst; rw [if_pos k58, if_pos rfl]
    rcases he : e with _ | _
    · -- behind the first stretch
      have eY := he0 he
      have x33 : x3 = 3 := by rw [hx, eY, k58]; rfl
      subst x33
      refine ⟨Or.inl rfl, ?_⟩
      rw [he] at c220
      unfold B_MD_walk_133 B_MD_walk_465 B_MD_walk_472
      refine ⟨fun w => absurd w (by decide), fun _ => ⟨fun w => absurd w (by decide), fun _ => ⟨fun w => absurd w (by decide), fun _ => ⟨fun w => absurd w (by decide), fun _ => ⟨fun w => absurd w (by decide), fun _ => ⟨fun _ x10 e10 _ _ => ?_, fun w => absurd rfl w⟩⟩⟩⟩⟩⟩
      obtain ⟨t1, t2⟩ := ex217 x10 e10
      rw [t1]
      refine ⟨⟨by omega, by omega⟩, ⟨by omega, by omega⟩, fun x12 e12 _ _ => ?_⟩
      have ex12 : x12 = (p : Int) := e12.trans c217
      subst ex12
      refine ⟨⟨by omega, by omega⟩, ?_⟩
      refine con_mono (t_MD_behindColon (i := 1) hb1 Hc hz2 hpz ⟨Nat.le_refl _, by omega⟩) ?_
      rintro r' h15 ⟨hb15, rfl, rfl⟩
      refine ⟨_, rfl, hb15, fun _ => ?_, fun w => absurd (by rw [eY]; rfl) w⟩
      refine con_mono (t_MD_isIn (t := nTw L) (x := 0) hb15 ht70 (by omega) c220 (Or.inl rfl)) ?_
      rintro r' h18 ⟨hb18, rfl, rfl⟩
      refine ⟨0, rfl, hb18, fun _ x22 e22 _ _ => ?_, fun w => absurd rfl w⟩
      obtain ⟨t3, t4⟩ := ex217 x22 e22
      rw [t3]
      refine ⟨⟨by omega, by omega⟩, ⟨by omega, by omega⟩, fun h25 e25 x29 e29 _ _ => ?_⟩
      have ex29 : x29 = ((j + 1 : Nat) : Int) := by rw [e29, mm_i e25 (by omega)]; exact c218
      subst ex29
      have f25 : fr (fun a k => a = 220 ∧ k = nTw L) h18 h25 := fr_i fr_0 e25 ⟨rfl, rfl⟩
      have Hc' : MKc π h25 ow p Cn := MKc_c Hc hpz (Nat.le_refl _) (fun _ _ => rfl) (fun _ _ => rfl) (fun _ _ => rfl) ⟨fr_g f25 (by omega), fr_g f25 (by omega), fr_g f25 (by omega)⟩ (fun i _ _ => fr_g f25 (by omega))
      refine con_mono (t_MD_behindColon (i := j + 1) (hb_i hb18 e25) Hc' hz2 hpz ⟨by omega, hjC⟩) ?_
      rintro r' h30 ⟨hb30, rfl, rfl⟩
      refine ⟨_, rfl, hb30, ?_⟩
      rw [er0 he] at E
      refine wk_next (k := mkn π p (j + 1) + 1) (L := (p, j + 1, true, y, uT, uB) :: L) (Y := mkn π p (j + 1 + 1)) (d := d) (sT := sT) (sB := sB) (α := α) ⟨?_, R5, ⟨⟨by omega, by omega⟩, fun w => absurd w (by omega), fun _ => ⟨k91, eT, eB, ⟨c, r1, r2, hch⟩, fun w => absurd w (by decide), fun _ => ⟨k58, rfl⟩, hi2⟩, W2⟩, ⟨fun _ => ⟨?_, ?_, ?_, ?_, fun w => ?_⟩, CFh_c L C2 (fun a k q1 q2 q3 => fr_g f25 (by omega)) (fun k => fr_g f25 (by omega))⟩, ?_, ?_, WMh_f M f25 (fun a k w => by omega)⟩ ?_ ⟨by omega, by omega, by omega⟩ (by
        have hm1 : lk π p ≤ mkn π p (j + 1) := by
          have e1 : mkn π p 1 = lk π p := rfl
          rcases Nat.eq_zero_or_pos j with w | w
          · subst w; exact Nat.le_of_eq e1.symm
          · have := MKc_m Hc (j + 1) hjC 1 (by omega); omega
        omega)
      · exact fr_t f0 f25 (fun a k w => Or.inr (Or.inl ⟨by omega, by omega⟩))
      · rw [fr_g f25 (by omega)]; exact c217
      · rw [fr_g f25 (by omega)]; exact c218
      · rw [fr_g f25 (by omega), c219, fr_g f25 (by omega)]
      · rw [mv_i e25]; rfl
      · rw [fr_g f25 (by omega)]; exact cile w
      · rw [fr_g f25 (by omega), c70]; rfl
      · rw [fr_gl f25 (by omega), fr_gl f25 (by omega)]; exact cS
      · rw [E, fin_s, hcl, er1, eT, eB]
    · -- behind a mark's stretch
      obtain ⟨-, eY⟩ := he1 he
      rw [he] at c220
      rw [he] at pop trn
      rcases oc5 with ⟨k93, ec⟩ | ⟨k58', r6⟩
      · -- the last one
        have x34 : x3 = 4 := by rw [hx, eY, emk, k93]; rfl
        subst x34
        have hCe : j + 1 = Cn := by
          rcases Nat.lt_or_ge (j + 1) Cn with w | w
          · have := (Hc.2.1 (j + 1) w).2.2.1
            rw [emk, k93] at this; cases this
          · omega
        refine ⟨Or.inr (Or.inl rfl), ?_⟩
        unfold B_MD_walk_133
        refine ⟨fun w => absurd w (by decide), fun _ => ⟨fun w => absurd w (by decide), fun _ => ⟨fun w => absurd w (by decide), fun _ => ⟨fun w => absurd w (by decide), fun _ => ⟨fun w => absurd w (by decide), fun _ => ⟨fun w => absurd w (by decide), fun _ x2 e2 _ _ => ?_⟩⟩⟩⟩⟩⟩
        obtain ⟨t1, t2⟩ := ex217 x2 e2
        rw [t1]
        refine ⟨⟨by omega, by omega⟩, ⟨by omega, by omega⟩, fun x4 e4 _ _ => ?_⟩
        have ex4 : x4 = (p : Int) := e4.trans c217
        subst ex4
        refine con_mono turnC ?_
        rintro r' h6 ⟨hb6, ⟨w1, rfl, f6, g70⟩ | ⟨w1, -⟩⟩
        · refine ⟨_, rfl, hb6, ?_⟩
          have : ((mkn π p (Cn + 1) : Nat) : Int) + 1 = (c : Int) + 1 := by rw [← hCe, emk, ec]
          rw [this]
          exact pop h6 hb6 f6 g70 (by rw [er1]; exact wf_e (by rw [emk, k93]; decide))
        · rw [if_pos k58, Hc.1] at w1; omega
      · have x33 : x3 = 3 := by rw [hx, eY, emk, k58']; rfl
        subst x33
        have hjC2 : j + 1 + 1 ≤ Cn := by
          rcases Nat.lt_or_ge (j + 1) Cn with w | w
          · omega
          · have : j + 1 = Cn := by omega
            rw [← this, emk, k58'] at y3; cases y3
        have hne : ¬ ((Y : Int) + 1 = (mkn π p 1 : Int) + 1) := by
          have := MKc_m Hc (j + 1 + 1) hjC2 1 (by omega)
          rw [eY]; omega
        refine ⟨Or.inl rfl, ?_⟩
        unfold B_MD_walk_133 B_MD_walk_465 B_MD_walk_472
        refine ⟨fun w => absurd w (by decide), fun _ => ⟨fun w => absurd w (by decide), fun _ => ⟨fun w => absurd w (by decide), fun _ => ⟨fun w => absurd w (by decide), fun _ => ⟨fun w => absurd w (by decide), fun _ => ⟨fun _ x10 e10 _ _ => ?_, fun w => absurd rfl w⟩⟩⟩⟩⟩⟩
        obtain ⟨t1, t2⟩ := ex217 x10 e10
        rw [t1]
        refine ⟨⟨by omega, by omega⟩, ⟨by omega, by omega⟩, fun x12 e12 _ _ => ?_⟩
        have ex12 : x12 = (p : Int) := e12.trans c217
        subst ex12
        refine ⟨⟨by omega, by omega⟩, ?_⟩
        refine con_mono (t_MD_behindColon (i := 1) hb1 Hc hz2 hpz ⟨Nat.le_refl _, by omega⟩) ?_
        rintro r' h15 ⟨hb15, rfl, rfl⟩
        refine ⟨_, rfl, hb15, fun w => absurd w hne, fun _ => ?_⟩
        refine con_mono turnC ?_
        rintro r' h6 ⟨hb6, ⟨w1, -⟩ | ⟨w1, rfl, f6, g220, g218, g71, h1, f1, e1⟩⟩
        · rw [if_pos k58, Hc.1] at w1; omega
        · refine ⟨_, rfl, hb6, trn h6 h1 hb6 f1 e1 g220 g218 (fun _ => ⟨by rw [emk]; exact r6, by rw [emk]; exact k58', hjC2⟩) (fun w => absurd k58 w) ?_⟩
          rw [er1, emk, wf_c o1 R1 k58' r6 (by omega) (by
            have e1 : mkn π p 1 = lk π p := rfl
            have := MKc_m Hc (j + 1 + 1) hjC2 1 (by omega)
            rw [emk] at this; omega)]
          unfold rst
          rw [if_pos k58, if_neg (by decide)]
          rfl
  · have hCz : Cn = 0 := hC0.mpr k58
    subst hCz
    have k93 : π 1 (lk π p) = 93 := y3
    have ec : c = lk π p := by rcases oc with ⟨-, q⟩ | ⟨q, -⟩; exact q; exact absurd q k58
    have ef : e = false := by
      rcases he : e with _ | _
      · rfl
      · exact absurd (he1 he).1 k58
    have eY := he0 ef
    have x34 : x3 = 4 := by rw [hx, eY, k93]; rfl
    subst x34
    refine ⟨Or.inr (Or.inl rfl), ?_⟩
    unfold B_MD_walk_133
    refine ⟨fun w => absurd w (by decide), fun _ => ⟨fun w => absurd w (by decide), fun _ => ⟨fun w => absurd w (by decide), fun _ => ⟨fun w => absurd w (by decide), fun _ => ⟨fun w => absurd w (by decide), fun _ => ⟨fun w => absurd w (by decide), fun _ x2 e2 _ _ => ?_⟩⟩⟩⟩⟩⟩
    obtain ⟨t1, t2⟩ := ex217 x2 e2
    rw [t1]
    refine ⟨⟨by omega, by omega⟩, ⟨by omega, by omega⟩, fun x4 e4 _ _ => ?_⟩
    have ex4 : x4 = (p : Int) := e4.trans c217
    subst ex4
    have hj2 := hi2 k58
    refine con_mono turnC ?_
    rintro r' h6 ⟨hb6, ⟨w1, rfl, f6, g70⟩ | ⟨w1, rfl, f6, g220, g218, g71, h1, f1, e1⟩⟩
    · rw [if_neg k58] at w1
      refine ⟨_, rfl, hb6, ?_⟩
      have : ((mkn π p (0 + 1) : Nat) : Int) + 1 = (c : Int) + 1 := by rw [ec]; rfl
      rw [this]
      exact pop h6 hb6 f6 g70 (by unfold rst; rw [if_neg k58, if_neg (by omega)])
    · rw [if_neg k58] at w1
      have hj0 : j = 0 := by omega
      subst hj0
      refine ⟨_, rfl, hb6, trn h6 h1 hb6 f1 e1 g220 g218 (fun w => absurd w k58) (fun _ => rfl) ?_⟩
      unfold rst
      rw [if_neg k58, if_neg k58, if_pos rfl, if_neg (by decide)]

/-! ===== the WALK, reference, whole ===== -/
theorem t_MD_wrongn {G : cx_T} {s : Nat} {h : ah_T} {a1 a2 : Int} (hb0 : hb s h) (h0 : h.2.1 170 11 = 0) : con G 0 0 0 m_MD_wrong [av_R (some 170), av_I a1, av_I a2] h (fun r h' => ∃ z, r = some (av_I z) ∧ hb s h' ∧ fr (fun a k => a = 170 ∧ (k = 11 ∨ k = 12)) h h' ∧ z = 0 ∧ h'.2.1 170 11 = a1 ∧ h'.2.1 170 12 = a2) := by
  refine c_MD_wrong hb0 (fun _ _ => ?_)
  unfold B_MD_wrong_0 B_MD_wrong_17
  intro x1 e1 _ _
  exact ⟨fun _ h2 e2 h4 e4 => ⟨0, rfl, hb_i (hb_i hb0 e2) e4, fr_i (fr_i fr_0 e2 ⟨rfl, by decide⟩) e4 ⟨rfl, by decide⟩, rfl, by rw [mm_i e4 (by omega), mv_i e2], mv_i e4⟩, fun c => absurd (e1.trans h0) c⟩
/-- a voice's walk told by the reference's cells -/
def WTm (π : pm_T) (v : Nat) (h : ah_T) : Prop := (h.2.1 185 v = walk π 0 1 ∧ h.2.1 186 v = walk π 0 2 + 1) ∧ (0 ≤ walk π 0 1 ∧ walk π 0 1 ≤ 300 ∧ 0 ≤ walk π 0 2 ∧ walk π 0 2 ≤ 100) ∧ WMe π (walk π) v h ∧ h.2.2.1 199 (102 * v + ((walk π 0 2).toNat + 1)) = walk π 0 4 ∧ h.2.2.1 200 (102 * v + ((walk π 0 2).toNat + 1)) = walk π 0 5
abbrev WWf (v : Nat) : Nat → Nat → Prop := fun a k => WWm v a k ∨ (a = 170 ∧ (k = 11 ∨ k = 12)) ∨ ((a = 185 ∨ a = 186) ∧ k = v)
theorem t_MD_walk {G : cx_T} {s n v : Nat} {h : ah_T} {π : pm_T} {a1 : Int} (hb0 : hb s h) (hn : h.2.1 172 1 = (n : Int)) (hn3 : n ≤ 3) (ev : v = n + 4) (P : PW π) (hz : π 0 0 ≤ 2000) (R : RPm π h) (hG : RG π true 7 0 (sz π)) (M : MKm π h) (hd : dp π = 0) (h11 : h.2.1 170 11 = 0) :
    con G 4 0 0 m_MD_walk [av_R (some 170), av_I a1] h (fun r h' => ∃ z, r = some (av_I z) ∧ hb s h' ∧ fr (WWf v) h h' ∧ ((wkF π = 0 ∧ z = 1 ∧ h'.2.1 170 11 = 0 ∧ WTm π v h') ∨ (wkF π ≠ 0 ∧ z = 0 ∧ h'.2.1 170 11 = wkF π ∧ h'.2.1 170 12 = a1))) := by
  have hv : 4 ≤ v ∧ v ≤ 7 := by omega
  have MA := MKa_of M hd
  have p0 := P.1.1
  have hz2 : sz π ≤ 2000 := by unfold sz; omega
  have hszi : (sz π : Int) = π 0 0 := by unfold sz; omega
  -- the cells before the loop
  have start : ∀ h28 : ah_T, fr (WWm v) h h28 → h28.2.1 170 70 = 0 → h28.2.1 170 71 = 0 → h28.2.1 170 72 = 0 → h28.2.1 170 73 = 0 → h28.2.1 170 74 = 0 → (h28.2.2.1 170 75 = 0 ∧ h28.2.2.1 170 76 = 1) → (h28.2.2.1 170 77 = 1 ∧ h28.2.2.1 170 78 = 1) → (h28.2.2.1 199 (102 * v) = 0 ∧ h28.2.2.1 200 (102 * v) = 1) → IVt π h v (v : Int) 0 0 h28 := by
    intro h28 f c70 c71 c72 c73 c74 c75 c77 cb
    refine ⟨rfl, 0, rfl, ⟨[], sz π, 7, 1, 1, wk0, ⟨f, hG, ⟨rfl, rfl, rfl, rfl⟩, trivial, c70, c77, ⟨⟨c71, c72, c73, c74, Or.inl rfl⟩, ⟨by decide, by decide, by decide, by decide⟩, fun _ => ⟨c75, ⟨by decide, by decide, by decide, by decide⟩, fun e he => absurd he (by show ¬ (e : Int) < 0; omega), fun _ b hb => ?_⟩⟩⟩, walk_wt, by decide, by decide, by decide⟩, Or.inl ⟨rfl, by omega, by omega, by omega⟩⟩
    have hb' : (b : Int) ≤ 0 := hb
    have : b = 0 := by omega
    subst this
    exact ⟨⟨by decide, by decide⟩, cb.1, cb.2⟩
  -- behind the loop
  have fin530 : ∀ (v4 : Int) (hh : ah_T) (k : Nat), hb s hh → WIv π h v k hh → ((v4 = 0 ∧ sz π ≤ k ∧ hh.2.1 170 71 ≤ 2000 ∧ hh.2.1 170 72 ≤ 300 ∧ hh.2.1 170 73 ≤ 100) ∨ (v4 = 1 ∧ (2000 < hh.2.1 170 71 ∨ 300 < hh.2.1 170 72 ∨ 100 < hh.2.1 170 73))) → B_MD_walk_530 G s a1 (v : Int) v4 hh (fun r h' => ∃ z, r = some (av_I z) ∧ hb s h' ∧ fr (WWf v) h h' ∧ ((wkF π = 0 ∧ z = 1 ∧ h'.2.1 170 11 = 0 ∧ WTm π v h') ∨ (wkF π ≠ 0 ∧ z = 0 ∧ h'.2.1 170 11 = wkF π ∧ h'.2.1 170 12 = a1))) := by
    rintro v4 hh k hb1 ⟨L, Y, d, sT, sB, α, ⟨f, r, W, C, c70, cS, WM⟩, E, -⟩ hc
    obtain ⟨⟨c1, c2, c3, c4, c5⟩, bb, hW⟩ := WM
    have h11' : hh.2.1 170 11 = 0 := (fr_g f (by omega)).trans h11
    have fw : fr (WWf v) h hh := fr_w f (fun a k w => Or.inl w)
    unfold B_MD_walk_530
    rw [tn_c]
    rcases hc with ⟨rfl, hk, q1, q2, q3⟩ | ⟨rfl, q⟩
    · -- the end is come to
      have wl := FWp_le _ _ _ _ _ W
      have hkY := (RG_le r).1
      have hL : L = [] := Classical.byContradiction fun w => by have := wl.2.1 w; omega
      subst hL
      obtain ⟨eY, -⟩ := W
      have ek : k = Y := by omega
      subst ek
      rw [wt_nil] at E
      have Eα : walk π = α := E.trans (by rw [fin])
      have ewk : wkF π = if α 0 3 = 0 then 0 else 6 := by unfold wkF; rw [Eα, if_neg (by omega)]
      refine ⟨fun _ x1 e1 _ => ⟨fun c0 x3 e3 _ _ => ⟨⟨by omega, by omega⟩, fun h5 e5 x8 e8 _ _ => ⟨⟨?_, ?_⟩, fun h10 e10 => ⟨⟨by omega, by omega⟩, ⟨?_, ?_⟩, ⟨?_, ?_⟩, fun x17 e17 _ _ => ?_⟩⟩⟩, fun c0 => ?_⟩, fun w => absurd rfl w⟩
      all_goals try (have ex8 : x8 = α 0 2 := by rw [e8, mm_i e5 (by omega)]; exact c3)
      · omega
      · omega
      · omega
      · omega
      · omega
      · omega
      · obtain ⟨l, hl⟩ : ∃ l : Nat, α 0 2 = (l : Int) := ⟨(α 0 2).toNat, by omega⟩
        have ek : (102 * (v : Int) + x8 + 1).toNat = 102 * v + (l + 1) := by omega
        rw [ek]
        have f3 : α 0 3 = 0 := by rw [← c4, ← e1]; exact c0
        have w0 := hW ⟨f3, by omega⟩
        refine ⟨⟨by omega, by omega⟩, fun h19 e19 x23 e23 _ _ h24 e24 => ?_⟩
        have fh : fr (fun a j => ((a = 185 ∨ a = 186) ∧ j = v) ∨ ((a = 199 ∨ a = 200) ∧ j = 102 * v + (l + 1))) hh h24 := fr_l (fr_l (fr_i (fr_i fr_0 e5 (Or.inl ⟨Or.inl rfl, rfl⟩)) e10 (Or.inl ⟨Or.inr rfl, rfl⟩)) e19 (Or.inr ⟨Or.inl rfl, rfl⟩)) e24 (Or.inr ⟨Or.inr rfl, rfl⟩)
        refine ⟨1, rfl, hb_l (hb_l (hb_i (hb_i hb1 e5) e10) e19) e24, fr_t fw fh (fun a j w => ?_), Or.inl ⟨by rw [ewk, if_pos f3], rfl, by rw [fr_g fh (by omega)]; exact h11', ⟨⟨?_, ?_⟩, ?_, ?_, ?_, ?_⟩⟩⟩
        · rcases w with w | ⟨w1, w2⟩
          · exact Or.inr (Or.inr w)
          · exact Or.inl (Or.inr (Or.inr (Or.inr (Or.inr ⟨w1, by omega, by omega⟩))))
        · rw [Eα, mm_lo e24, mm_lo e19, mm_i e10 (by omega), mv_i e5, e3, c2]
        · rw [Eα, mm_lo e24, mm_lo e19, mv_i e10, ex8]
        · rw [Eα]; omega
        · rw [Eα]
          exact WMe_c w0 (fun _ _ _ => rfl) (fun a j h1 h2 => ⟨fr_g fh (by omega), fr_gl fh (by omega)⟩) (fun b hb => ⟨fr_gl fh (by omega), fr_gl fh (by omega)⟩) ⟨fr_gl fh (by omega), fr_gl fh (by omega)⟩
        · have : (α 0 2).toNat + 1 = l + 1 := by omega
          rw [Eα, this, mm_l e24 (by omega), mv_l e19, e17, mm_io e10, mm_io e5]; exact w0.1.1
        · have : (α 0 2).toNat + 1 = l + 1 := by omega
          rw [Eα, this, mv_l e24, e23, mm_l e19 (by omega), mm_io e10, mm_io e5]; exact w0.1.2
      · have f3 : ¬ α 0 3 = 0 := by rw [← c4, ← e1]; exact c0
        refine con_mono (t_MD_wrongn hb1 h11') ?_
        rintro r' h' ⟨z, rfl, hb2, f2, rfl, w1, w2⟩
        have e6 : wkF π = 6 := by rw [ewk, if_neg f3]
        exact ⟨0, rfl, hb2, Or.inl rfl, 0, rfl, hb2, fr_t fw f2 (fun a j w => Or.inr (Or.inl w)), Or.inr ⟨by rw [e6]; decide, rfl, by rw [w1, e6], w2⟩⟩
    · -- too much
      have m : ∀ c, (c = 0 ∨ c = 1 ∨ c = 2) → α 0 c ≤ walk π 0 c := fun c hc => by
        rw [E]
        refine Int.le_trans ?_ (fin_m hc L _)
        unfold wt
        exact wk_m hc 5000 true _ _ _ _ _
      have m0 := m 0 (Or.inl rfl)
      have m1 := m 1 (Or.inr (Or.inl rfl))
      have m2 := m 2 (Or.inr (Or.inr rfl))
      have e3 : wkF π = 3 := by unfold wkF; rw [if_pos (by omega)]
      refine ⟨fun w => absurd w (by decide), fun _ => ?_⟩
      refine con_mono (t_MD_wrongn hb1 h11') ?_
      rintro r' h' ⟨z, rfl, hb2, f2, rfl, w1, w2⟩
      exact ⟨0, rfl, hb2, Or.inl rfl, 0, rfl, hb2, fr_t fw f2 (fun a j w => Or.inr (Or.inl w)), Or.inr ⟨by rw [e3]; decide, rfl, by rw [w1, e3], w2⟩⟩
  refine c_MD_walk (X79 := IVt π h v) ?_ hb0 (fun _ => ?_)
  · refine lp_MD_walk_79 (a1 := a1) (IVt π h v) (fun _ v3 _ hh => mea v3 hh) ?_
    rintro v2 v3 v4 hh hb1 ⟨rfl, k, rfl, I, hc⟩
    obtain ⟨L, Y, d, sT, sB, α, B, E, b⟩ := id I
    have f := B.1
    have c43 : hh.2.1 170 43 = (sz π : Int) := by rw [fr_g f (by omega), R.1, hszi]
    have WM := B.2.2.2.2.2.2
    have hM := WM.1
    have hbb := WM.2.1
    unfold B_MD_walk_79
    intro x1 e1 _ _
    have ex1 : x1 = (sz π : Int) := e1.trans c43
    subst ex1
    refine ⟨fun c => fin530 v4 hh k hb1 I ?_, fun c => ⟨fun c4 => ⟨⟨by omega, by omega⟩, ?_⟩, fun c4 => fin530 v4 hh k hb1 I ?_⟩⟩
    · rcases hc with ⟨q, q1, q2, q3⟩ | q
      · exact Or.inl ⟨q, by omega, q1, q2, q3⟩
      · exact Or.inr q
    case refine_3 =>
      rcases hc with ⟨q, -⟩ | q
      · exact absurd q c4
      · exact Or.inr q
    have hc0 : α 0 0 ≤ 2000 ∧ α 0 1 ≤ 300 ∧ α 0 2 ≤ 100 := by
      rcases hc with ⟨-, q⟩ | ⟨q, -⟩
      · omega
      · omega
    have hb' : α 0 0 ≤ 2000 ∧ α 0 1 ≤ 300 ∧ α 0 2 ≤ 100 ∧ α 0 1 ≤ α 0 0 ∧ α 0 2 ≤ α 0 0 := by omega
    have hkz : k < sz π := by omega
    have hkz' : (k : Int) < π 0 0 := by omega
    have hmea : (2010 - α 0 0).toNat * 3000 + (2001 - k) ≤ mea (k : Int) hh := by
      unfold mea; rw [hM.1]
      have : (2001 - (k : Int)).toNat = 2001 - k := by omega
      rw [this]; exact Nat.le_refl _
    rw [tn_c]
    intro x3 e3 _ _
    have ex3 : x3 = mkd (π 1 k) := by rw [e3, fr_g f (by omega)]; exact (R.2.2.2 k hkz').1
    -- a step, then the part
    have k123 : ∀ x : Int, (∀ h3 : ah_T, hb s h3 → WBw π h v L Y d sT sB (wk_st α) k h3 → B_MD_walk_133 G s a1 (v : Int) (k : Int) x h3 (fun r h' => ∃ z, r = some (av_I z) ∧ hb s h' ∧ fr (WWf v) h h' ∧ ((wkF π = 0 ∧ z = 1 ∧ h'.2.1 170 11 = 0 ∧ WTm π v h') ∨ (wkF π ≠ 0 ∧ z = 0 ∧ h'.2.1 170 11 = wkF π ∧ h'.2.1 170 12 = a1))) (fun v2' v3' v4' h' => IVt π h v v2' v3' v4' h' ∧ mea v3' h' < mea (k : Int) hh)) → B_MD_walk_123 G s a1 (v : Int) (k : Int) x hh (fun r h' => ∃ z, r = some (av_I z) ∧ hb s h' ∧ fr (WWf v) h h' ∧ ((wkF π = 0 ∧ z = 1 ∧ h'.2.1 170 11 = 0 ∧ WTm π v h') ∨ (wkF π ≠ 0 ∧ z = 0 ∧ h'.2.1 170 11 = wkF π ∧ h'.2.1 170 12 = a1))) (fun v2' v3' v4' h' => IVt π h v v2' v3' v4' h' ∧ mea v3' h' < mea (k : Int) hh) := by
      intro x hx
      unfold B_MD_walk_123
      intro y1 ey _ _
      refine ⟨⟨by omega, by omega⟩, fun h3 e3 => hx h3 (hb_i hb1 e3) ?_⟩
      obtain ⟨-, r, W, C, c70, cS, -⟩ := B
      have f3 : fr (fun a j => a = 170 ∧ j = 71) hh h3 := fr_i fr_0 e3 ⟨rfl, rfl⟩
      exact ⟨fr_i f e3 (Or.inl ⟨rfl, by decide, by decide⟩), r, W, CFh_c L C (fun a j _ _ _ => fr_g f3 (by omega)) (fun j => fr_g f3 (by omega)), by rw [fr_g f3 (by omega)]; exact c70, by rw [fr_gl f3 (by omega), fr_gl f3 (by omega)]; exact cS, WMh_st WM ey e3⟩
    have hkY := (RG_le B.2.1).1
    rcases Nat.lt_or_ge k Y with hlt | hge
    · rcases RG_t B.2.1 hlt with ⟨hk, r⟩ | ⟨hk, r⟩ | ⟨d', ed, hk, hl, r1, r2⟩ | ⟨d', cc, ed, hk, r1, r2⟩
      · have y0 : x3 = 0 := by rw [ex3, hk]; rfl
        subst y0
        exact ⟨fun _ => k123 0 (fun h3 hb3 B3 => W_ev hb3 hv P hz R hlt B3 r hk E hb' hmea), fun w => absurd rfl w⟩
      · have y0 : x3 = 1 := by rw [ex3, hk]; rfl
        subst y0
        exact ⟨fun w => absurd w (by decide), fun _ => ⟨fun _ => k123 1 (fun h3 hb3 B3 => W_ln hb3 hv P hz hlt B3 r hk E hb' hmea), fun w => absurd rfl w⟩⟩
      · have y0 : x3 = 5 := by rw [ex3, hk]; rfl
        subst y0
        obtain ⟨ow, HA⟩ := MA
        have kc := ((HA k hkz).2 hk).2.2.1
        exact ⟨fun w => absurd w (by decide), fun _ => ⟨fun w => absurd w (by decide), fun _ => ⟨fun w => absurd w (by decide), fun _ => ⟨fun _ => k123 5 (fun h3 hb3 B3 => W_st hb3 hv P hz R hlt B3 hk ed hl kc r1 r2 E hb' hmea), fun w => absurd rfl w⟩⟩⟩⟩
      · have y0 : x3 = 2 := by rw [ex3, hk]; rfl
        subst y0
        exact ⟨fun w => absurd w (by decide), fun _ => ⟨fun w => absurd w (by decide), fun _ => ⟨fun _ => k123 2 (fun h3 hb3 B3 => W_rp hb3 hv P hz MA hlt B3 hk ed r1 r2 E hb' hmea), fun w => absurd rfl w⟩⟩⟩
    · have ek : k = Y := by omega
      subst ek
      cases L with
      | nil => have := B.2.2.1.1; omega
      | cons fr0 L' =>
        obtain ⟨p, i, e, y, uT, uB⟩ := fr0
        obtain ⟨q, q2⟩ := W_end (G := G) (a1 := a1) (m0 := mea (k : Int) hh) (Q := fun r h' => ∃ z, r = some (av_I z) ∧ hb s h' ∧ fr (WWf v) h h' ∧ ((wkF π = 0 ∧ z = 1 ∧ h'.2.1 170 11 = 0 ∧ WTm π v h') ∨ (wkF π ≠ 0 ∧ z = 0 ∧ h'.2.1 170 11 = wkF π ∧ h'.2.1 170 12 = a1))) hb1 P hz R MA B ex3 E hc0 hmea
        exact ⟨fun w => by omega, fun _ => ⟨fun w => by omega, fun _ => ⟨fun w => by omega, fun _ => ⟨fun w => by omega, fun _ => q2⟩⟩⟩⟩
  · unfold B_MD_walk_0
    intro x2 e2 _ _
    have ex2 : x2 = (n : Int) := e2.trans hn
    subst ex2
    refine ⟨⟨by omega, by omega⟩, fun h4 e4 h6 e6 h8 e8 h10 e10 h12 e12 h14 e14 h16 e16 h18 e18 h20 e20 => ⟨⟨by omega, by omega⟩, ⟨by omega, by omega⟩, ?_⟩⟩
    have ek : (102 * (n : Int) + 408).toNat = 102 * v := by omega
    rw [ek]
    intro h25 e25 h28 e28
    have evi : (n : Int) + 4 = (v : Int) := by omega
    rw [evi]
    have l20 : ∀ j, h20.2.1 170 j = h12.2.1 170 j := fun j => by rw [mm_lo e20, mm_lo e18, mm_lo e16, mm_lo e14]
    have l28 : ∀ j, h28.2.1 170 j = h12.2.1 170 j := fun j => by rw [mm_lo e28, mm_lo e25]; exact l20 j
    refine start h28 ?_ ?_ ?_ ?_ ?_ ?_ ⟨?_, ?_⟩ ⟨?_, ?_⟩ ⟨?_, ?_⟩
    · have w70 : ∀ j, 65 ≤ j → j ≤ 78 → WWm v 170 j := fun j a b => Or.inl ⟨rfl, a, b⟩
      have w19 : ∀ a, a = 199 ∨ a = 200 → WWm v a (102 * v) := fun a w => Or.inr (Or.inr (Or.inr (Or.inr ⟨w, Nat.le_refl _, by omega⟩)))
      exact fr_l (fr_l (fr_l (fr_l (fr_l (fr_l (fr_i (fr_i (fr_i (fr_i (fr_i fr_0 e4 (w70 _ (by decide) (by decide))) e6 (w70 _ (by decide) (by decide))) e8 (w70 _ (by decide) (by decide))) e10 (w70 _ (by decide) (by decide))) e12 (w70 _ (by decide) (by decide))) e14 (w70 _ (by decide) (by decide))) e16 (w70 _ (by decide) (by decide))) e18 (w70 _ (by decide) (by decide))) e20 (w70 _ (by decide) (by decide))) e25 (w19 _ (Or.inl rfl))) e28 (w19 _ (Or.inr rfl))
    · rw [l28, mm_i e12 (by omega), mm_i e10 (by omega), mm_i e8 (by omega), mm_i e6 (by omega), mv_i e4]
    · rw [l28, mm_i e12 (by omega), mm_i e10 (by omega), mm_i e8 (by omega), mv_i e6]
    · rw [l28, mm_i e12 (by omega), mm_i e10 (by omega), mv_i e8]
    · rw [l28, mm_i e12 (by omega), mv_i e10]
    · rw [l28, mv_i e12]
    · rw [mm_l e28 (by omega), mm_l e25 (by omega), mm_l e20 (by omega), mm_l e18 (by omega), mm_l e16 (by omega), mv_l e14]
    · rw [mm_l e28 (by omega), mm_l e25 (by omega), mm_l e20 (by omega), mm_l e18 (by omega), mv_l e16]
    · rw [mm_l e28 (by omega), mm_l e25 (by omega), mm_l e20 (by omega), mv_l e18]
    · rw [mm_l e28 (by omega), mm_l e25 (by omega), mv_l e20]
    · rw [mm_l e28 (by omega), mv_l e25]
    · exact mv_l e28

/-! ===== the reference: a voice, whole ===== -/
def RVd (μ : pm_T) (R q e : Nat) (h : ah_T) : Prop := (h.2.1 191 q = μ (R + 4) e ∧ h.2.1 195 q = μ (R + 5) e ∧ h.2.1 196 q = μ (R + 6) e ∧ h.2.1 197 q = μ (R + 7) e ∧ h.2.1 198 q = μ (R + 8) e ∧ h.2.1 194 q = μ (R + 9) e) ∧ (h.2.2.1 187 q = μ (R + 0) e ∧ h.2.2.1 188 q = μ (R + 1) e ∧ h.2.2.1 189 q = μ (R + 2) e ∧ h.2.2.1 190 q = μ (R + 3) e) ∧ (0 ≤ μ (R + 4) e ∧ μ (R + 4) e ≤ 4) ∧
  ∀ p : Nat, (p : Int) < μ (R + 4) e → h.2.1 192 (4 * q + p) = μ (R + (10 + p)) e ∧ h.2.1 193 (4 * q + p) = μ (R + (20 + p)) e
/-- the START of an event, or the end of the voice -/
def smT (μ : pm_T) (n e : Nat) : Int := if (e : Int) < μ (10 + n) 0 then μ (100 + 40 * n + 0) e else μ (100 + 40 * n + 31) 0
def smB (μ : pm_T) (n e : Nat) : Int := if (e : Int) < μ (10 + n) 0 then μ (100 + 40 * n + 1) e else μ (100 + 40 * n + 31) 1
/-- voice n of the score's memory in the reference's voice w -/
def RVm (μ : pm_T) (n w : Nat) (h : ah_T) : Prop := (h.2.1 185 w = μ (10 + n) 0 ∧ h.2.1 186 w = μ (10 + n) 1) ∧ ((0 ≤ μ (10 + n) 0 ∧ μ (10 + n) 0 ≤ 300) ∧ 1 ≤ μ (10 + n) 1 ∧ μ (10 + n) 1 ≤ 101) ∧ (∀ e : Nat, (e : Int) < μ (10 + n) 0 → RVd μ (100 + 40 * n) (300 * w + e) e h) ∧
  (∀ b : Nat, (b : Int) < μ (10 + n) 1 → h.2.2.1 199 (102 * w + b) = smT μ n (μ (100 + 40 * n + 30) b).toNat ∧ h.2.2.1 200 (102 * w + b) = smB μ n (μ (100 + 40 * n + 30) b).toNat) ∧ h.2.2.1 199 (102 * w + (μ (10 + n) 1).toNat) = μ (100 + 40 * n + 31) 0 ∧ h.2.2.1 200 (102 * w + (μ (10 + n) 1).toNat) = μ (100 + 40 * n + 31) 1
theorem RVm_w {μ π : pm_T} {n v : Nat} {h : ah_T} (hn : n = (μ 0 7).toNat) (T : WTm π v h) (P : PW π) : RVm (addV μ π (walk π)) n v h := by
  obtain ⟨⟨c1, c2⟩, b, ⟨w1, w2, w3, w4⟩, e1, e2⟩ := T
  generalize walk π = α at *
  obtain ⟨n0, n1⟩ := addV_n (π := π) (α := α) hn
  have r : ∀ {w k : Nat}, w < 40 → addV μ π α (100 + 40 * n + w) k = _ := fun {w k} hw => addV_i (π := π) (α := α) (k := k) hn hw
  have r31 : ∀ k, addV μ π α (100 + 40 * n + 31) k = α 0 (4 + k) := fun k => (r (by decide)).trans rfl
  have r30 : ∀ k, addV μ π α (100 + 40 * n + 30) k = α 7 k := fun k => (r (by decide)).trans rfl
  have r0 : ∀ k, addV μ π α (100 + 40 * n + 0) k = α 3 k := fun k => (r (by decide)).trans rfl
  have r1 : ∀ k, addV μ π α (100 + 40 * n + 1) k = α 4 k := fun k => (r (by decide)).trans rfl
  have r2 : ∀ k, addV μ π α (100 + 40 * n + 2) k = α 5 k := fun k => (r (by decide)).trans rfl
  have r3 : ∀ k, addV μ π α (100 + 40 * n + 3) k = α 6 k := fun k => (r (by decide)).trans rfl
  have r4 : ∀ k, addV μ π α (100 + 40 * n + 4) k = π 5 (α 1 k).toNat := fun k => (r (by decide)).trans rfl
  have r5 : ∀ k, addV μ π α (100 + 40 * n + 5) k = π 4 (α 1 k).toNat := fun k => (r (by decide)).trans rfl
  have r6 : ∀ k, addV μ π α (100 + 40 * n + 6) k = α 2 k := fun k => (r (by decide)).trans rfl
  have r7 : ∀ k, addV μ π α (100 + 40 * n + 7) k = π 2 (α 1 k).toNat := fun k => (r (by decide)).trans rfl
  have r8 : ∀ k, addV μ π α (100 + 40 * n + 8) k = π 3 (α 1 k).toNat := fun k => (r (by decide)).trans rfl
  have r9 : ∀ k, addV μ π α (100 + 40 * n + 9) k = π 17 (α 1 k).toNat := fun k => (r (by decide)).trans rfl
  have rk : ∀ p k, p < 4 → addV μ π α (100 + 40 * n + (10 + p)) k = π (6 + p) (α 1 k).toNat ∧ addV μ π α (100 + 40 * n + (20 + p)) k = π (10 + p) (α 1 k).toNat := by
    intro p k hp
    have : p = 0 ∨ p = 1 ∨ p = 2 ∨ p = 3 := by omega
    rcases this with rfl | rfl | rfl | rfl <;> exact ⟨(r (by decide)).trans rfl, (r (by decide)).trans rfl⟩
  refine ⟨⟨by rw [n0]; exact c1, by rw [n1]; exact c2⟩, ⟨by rw [n0]; omega, by rw [n1]; omega⟩, fun e he => ?_, fun x hx => ?_, ?_, ?_⟩
  · rw [n0] at he
    obtain ⟨y1, y2, y3, y4⟩ := w3 e he
    have V := (P.2.2 _ (by omega)).2.1 y1.2.2
    have V5 := V.2.2.2.1
    unfold RVd
    rw [r0, r1, r2, r3, r4, r5, r6, r7, r8, r9]
    refine ⟨⟨y2.1, y2.2.2.1, y2.2.2.2.1, y2.2.2.2.2.1, y2.2.2.2.2.2, y2.2.1⟩, y4, V5, fun p hp => ?_⟩
    rw [(rk p e (by omega)).1, (rk p e (by omega)).2]
    exact y3 p hp
  · rw [n1] at hx
    obtain ⟨-, z1, z2⟩ := w4 b.2.2.2 x (by omega)
    unfold smT smB
    rw [r30, n0, r0, r1, r31, r31]
    exact ⟨z1, z2⟩
  · rw [n1, r31]
    have : (α 0 2 + 1).toNat = (α 0 2).toNat + 1 := by omega
    rw [this]; exact e1
  · rw [n1, r31]
    have : (α 0 2 + 1).toNat = (α 0 2).toNat + 1 := by omega
    rw [this]; exact e2
/-- rows of voice w in the reference's cells -/
def vcel (w a k : Nat) : Prop := ((a = 185 ∨ a = 186) ∧ k = w) ∨ (((187 ≤ a ∧ a ≤ 191) ∨ (194 ≤ a ∧ a ≤ 198)) ∧ 300 * w ≤ k ∧ k < 300 * w + 300) ∨ ((a = 192 ∨ a = 193) ∧ 1200 * w ≤ k ∧ k < 1200 * w + 1200) ∨ ((a = 199 ∨ a = 200) ∧ 102 * w ≤ k ∧ k < 102 * w + 102)
theorem RVm_g {μ : pm_T} {n w : Nat} {h h' : ah_T} (H : RVm μ n w h) (g : ∀ a k, vcel w a k → h'.2.1 a k = h.2.1 a k ∧ h'.2.2.1 a k = h.2.2.1 a k) : RVm μ n w h' := by
  obtain ⟨h1, h2, h3, h4, h5⟩ := H
  have gc : ∀ a, a = 185 ∨ a = 186 → h'.2.1 a w = h.2.1 a w := fun a q => (g a w (Or.inl ⟨q, rfl⟩)).1
  have ge : ∀ a e, e < 300 → ((187 ≤ a ∧ a ≤ 191) ∨ (194 ≤ a ∧ a ≤ 198)) → h'.2.1 a (300 * w + e) = h.2.1 a (300 * w + e) ∧ h'.2.2.1 a (300 * w + e) = h.2.2.1 a (300 * w + e) := fun a e he q => g a _ (Or.inr (Or.inl ⟨q, by omega, by omega⟩))
  have gk : ∀ a e p, e < 300 → p < 4 → (a = 192 ∨ a = 193) → h'.2.1 a (4 * (300 * w + e) + p) = h.2.1 a (4 * (300 * w + e) + p) := fun a e p he hp q => (g a _ (Or.inr (Or.inr (Or.inl ⟨q, by omega, by omega⟩)))).1
  have gb : ∀ a b, b < 102 → (a = 199 ∨ a = 200) → h'.2.2.1 a (102 * w + b) = h.2.2.1 a (102 * w + b) := fun a b hb q => (g a _ (Or.inr (Or.inr (Or.inr ⟨q, by omega, by omega⟩)))).2
  refine ⟨by rw [gc _ (Or.inl rfl), gc _ (Or.inr rfl)]; exact h1, h2, fun e he => ?_, fun b hb => ?_, ?_, ?_⟩
  · obtain ⟨y1, y2, y3, y4⟩ := h3 e he
    have he3 : e < 300 := by omega
    unfold RVd
    rw [(ge 191 e he3 (by omega)).1, (ge 195 e he3 (by omega)).1, (ge 196 e he3 (by omega)).1, (ge 197 e he3 (by omega)).1, (ge 198 e he3 (by omega)).1, (ge 194 e he3 (by omega)).1, (ge 187 e he3 (by omega)).2, (ge 188 e he3 (by omega)).2, (ge 189 e he3 (by omega)).2, (ge 190 e he3 (by omega)).2]
    refine ⟨y1, y2, y3, fun p hp => ?_⟩
    rw [gk 192 e p he3 (by omega) (Or.inl rfl), gk 193 e p he3 (by omega) (Or.inr rfl)]
    exact y4 p hp
  · rw [gb _ b (by omega) (Or.inl rfl), gb _ b (by omega) (Or.inr rfl)]; exact h4 b hb
  · rw [gb _ _ (by omega) (Or.inl rfl)]; exact h5.1
  · rw [gb _ _ (by omega) (Or.inr rfl)]; exact h5.2
theorem RVm_m {μ μ' : pm_T} {n w : Nat} {h : ah_T} (H : RVm μ n w h) (e : ∀ a k, vrow n a → μ' a k = μ a k) : RVm μ' n w h := by
  have e1 : ∀ k, μ' (10 + n) k = μ (10 + n) k := fun k => e _ k (Or.inl rfl)
  have e2 : ∀ w k, w < 40 → μ' (100 + 40 * n + w) k = μ (100 + 40 * n + w) k := fun w k hw => e _ k (Or.inr ⟨by omega, by omega⟩)
  obtain ⟨h1, h2, h3, h4, h5⟩ := H
  unfold RVm smT smB
  rw [e1, e1, e2 31 _ (by decide), e2 31 _ (by decide)]
  refine ⟨h1, h2, fun k hk => ?_, fun b hb => ?_, h5⟩
  · obtain ⟨y1, y2, y3, y4⟩ := h3 k hk
    unfold RVd
    rw [e2 0 _ (by decide), e2 1 _ (by decide), e2 2 _ (by decide), e2 3 _ (by decide), e2 4 _ (by decide), e2 5 _ (by decide), e2 6 _ (by decide), e2 7 _ (by decide), e2 8 _ (by decide), e2 9 _ (by decide)]
    exact ⟨y1, y2, y3, fun p hp => by rw [e2 _ _ (by omega), e2 _ _ (by omega)]; exact y4 p hp⟩
  · rw [e2 30 _ (by decide), e2 0 _ (by decide), e2 1 _ (by decide)]
    exact h4 b hb
/-- the voices that are read -/
def RVw (μ : pm_T) (h : ah_T) : Prop := ∀ n : Nat, (n : Int) < μ 0 7 → RVm μ n (4 + n) h
theorem WWf_c {v w a k : Nat} (hvw : v ≠ w) (H : WWf v a k) : ¬ vcel w a k := by
  intro q
  rcases H with (⟨h1, h2, h3⟩ | ⟨h1, h2⟩ | ⟨h1, h2, h3⟩ | ⟨h1, h2, h3⟩ | ⟨h1, h2, h3⟩) | ⟨h1, h2⟩ | ⟨h1, h2⟩ <;> (rcases q with ⟨q1, q2⟩ | ⟨q1, q2, q3⟩ | ⟨q1, q2, q3⟩ | ⟨q1, q2, q3⟩ <;> omega)
theorem WWf_J {v : Nat} (hv : 4 ≤ v) : ∀ a k, WWf v a k → WJb a k := by
  intro a k H
  rcases H with (⟨h1, h2, h3⟩ | ⟨h1, h2⟩ | ⟨h1, h2, h3⟩ | ⟨h1, h2, h3⟩ | ⟨h1, h2, h3⟩) | ⟨h1, h2⟩ | ⟨h1, h2⟩
  · exact Or.inl (Or.inl ⟨h1, Or.inr ⟨by omega, by omega, by omega⟩⟩)
  · exact Or.inr (Or.inr (Or.inr (Or.inr (Or.inr ⟨by omega, by omega⟩))))
  · exact Or.inr (Or.inr (Or.inl ⟨by omega, by omega⟩))
  · exact Or.inr (Or.inr (Or.inr (Or.inl ⟨by omega, by omega⟩)))
  · exact Or.inr (Or.inr (Or.inr (Or.inr (Or.inl ⟨by omega, by omega⟩))))
  · exact Or.inl (Or.inl ⟨h1, Or.inl ⟨by omega, by omega⟩⟩)
  · exact Or.inr (Or.inl ⟨by omega, by omega⟩)
theorem RSn_v {μ π α : pm_T} {h : ah_T} (H : RSn (up2 μ 0 7 (μ 0 7 + 1)) h) : RSn (addV μ π α) h := by
  have e : ∀ a k, a ≤ 9 → addV μ π α a k = up2 μ 0 7 (μ 0 7 + 1) a k := fun a k ha => by
    by_cases c : a = 0 ∧ k = 7
    · obtain ⟨rfl, rfl⟩ := c; rw [addV_7, up2_at]
    · rw [addV_o ha c, up2_o c]
  unfold RSn
  simp only [e _ _ (show (0:Nat) ≤ 9 by decide), e _ _ (show (1:Nat) ≤ 9 by decide), e _ _ (show (2:Nat) ≤ 9 by decide), e _ _ (show (3:Nat) ≤ 9 by decide), e _ _ (show (4:Nat) ≤ 9 by decide), e _ _ (show (5:Nat) ≤ 9 by decide), e _ _ (show (6:Nat) ≤ 9 by decide)]
  exact H
theorem sp_part_0 {t : tk_T} {i : Nat} {π : pm_T} {q : Nat × pm_T} (P : PW π) (e : sp_part t i π = .inr q) : q.2 0 0 = π 0 0 + 1 := by
  have p0 := P.1.1
  unfold sp_part at e
  split at e
  · rename_i hm
    cases e
    have h1 : 0 < π 0 1 := by unfold mkb at hm; simp only [Bool.and_eq_true, decide_eq_true_eq] at hm; exact hm.1
    have hd := P.2.1 (dp π - 1) (by unfold dp; have := P.1.2.1; omega)
    unfold PD at hd
    exact (addM_v (π := π) (K := tK t i) (by unfold sz; omega)).1
  split at e
  · split at e
    · rw [sp_event_e] at e
      obtain ⟨a, ea, e⟩ := bnd_r e
      obtain ⟨n, -, e⟩ := bnd_r e
      obtain ⟨d, ed, e⟩ := bnd_r e
      have s0 := (sp_sound_ok ea).2
      unfold sp_tie at e
      split at e
      · split at e
        · cases e
        · cases e; show addE a.2 n d.2 1 0 0 = _; rw [addE_0.1, s0]
      · cases e; show addE a.2 n d.2 0 0 0 = _; rw [addE_0.1, s0]
    · cases e
  split at e
  · split at e
    · cases e; exact (addP_v (π := π) (c := 124) (x := 0) (y := 0)).1
    · cases e
  split at e
  · split at e
    · cases e; exact addO_0 (c := 91) (x := 0) (y := 0)
    · cases e
  split at e
  · split at e
    · unfold sp_times at e
      obtain ⟨a, -, e⟩ := bnd_r e
      obtain ⟨b, -, e⟩ := bnd_r e
      obtain ⟨c, -, e⟩ := bnd_r e
      obtain ⟨d, -, e⟩ := bnd_r e
      cases e; exact addO_0 (c := 123) (x := a) (y := c)
    · cases e
  · cases e
def PIm (X : tx_T) (R : F_T ⊕ (Nat × pm_T)) (z : Int) (h' : ah_T) : Prop := match R with
  | .inl q => z = 0 ∧ h'.2.1 170 11 = q.1 ∧ h'.2.1 170 12 = q.2
  | .inr q => z = 1 ∧ RMs X q.1 q.2 h' ∧ RH q.2 h' ∧ RVw q.2 h'
abbrev QIm (s : Nat) (X : tx_T) (R : F_T ⊕ (Nat × pm_T)) (h : ah_T) : Option av_T → ah_T → Prop := fun r h' => ∃ z, r = some (av_I z) ∧ hb s h' ∧ fr WJb h h' ∧ (z = 0 ∨ z = 1) ∧ PIm X R z h'
theorem RVw_V {μ : pm_T} {h h' : ah_T} {W : Nat → Nat → Prop} (H : RVw μ h) (f : fr W h h') (hW : ∀ a k, W a k → a ≤ 184 ∨ 201 ≤ a) : RVw μ h' := fun n hn =>
  RVm_g (H n hn) (fun a k q => by
    have : ¬ W a k := fun w => by have := hW a k w; unfold vcel at q; omega
    exact ⟨fr_g f this, fr_gl f this⟩)
