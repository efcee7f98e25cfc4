/-! ===== readings, the class ===== -/
/-- the rules and the row, in the class's score -/
def RUc (μ : pm_T) (c : Nat) (h : ah_T) : Prop := (h.2.1 c 10 = μ 0 4 ∧ h.2.1 c 12 = μ 0 5) ∧ ((0 ≤ μ 0 4 ∧ μ 0 4 ≤ 24) ∧ (0 ≤ μ 0 5 ∧ μ 0 5 ≤ 12)) ∧ (∀ j : Nat, (j : Int) < μ 0 4 → h.2.1 (c + 3) j = μ 2 j ∧ h.2.1 (c + 4) j = μ 3 j ∧ h.2.1 (c + 5) j = μ 4 j) ∧ ∀ j : Nat, (j : Int) < μ 0 5 → h.2.1 (c + 6) j = μ 5 j
theorem RUc_of {μ : pm_T} {c : Nat} {h : ah_T} (C : CKn μ c h) : RUc μ c h := ⟨⟨C.1.2.2.2.2.1, C.1.2.2.2.2.2⟩, ⟨C.2.1.2.1, C.2.1.2.2.1⟩, C.2.2.2.1, C.2.2.2.2.1⟩
theorem RUc_f {μ : pm_T} {c : Nat} {W : Nat → Nat → Prop} {h h' : ah_T} (hc : isS c) (H : RUc μ c h) (f : fr W h h') (hW : ∀ a k, W a k → 143 ≤ a) : RUc μ c h' := by
  obtain ⟨⟨h1, h2⟩, h3, h4, h5⟩ := H
  have hc2 : c = 17 ∨ c = 80 := hc
  have g : ∀ a k, a < 143 → h'.2.1 a k = h.2.1 a k := fun a k q => fr_g f (fun w => by have := hW a k w; omega)
  refine ⟨⟨(g _ _ (by omega)).trans h1, (g _ _ (by omega)).trans h2⟩, h3, fun j hj => ?_, fun j hj => (g _ _ (by omega)).trans (h5 j hj)⟩
  obtain ⟨x, y, z⟩ := h4 j hj
  exact ⟨(g _ _ (by omega)).trans x, (g _ _ (by omega)).trans y, (g _ _ (by omega)).trans z⟩
/-- what the table tells: sizes below N, and of size N the places below f0; L places in all -/
def TBg (μ : pm_T) (L N f0 : Nat) (h : ah_T) : Prop := ∀ a f m : Nat, a ≤ 15 → 1 ≤ m → f + m ≤ L → (m < N ∨ (m = N ∧ f < f0)) → h.2.1 163 (ixT a f (f + m)) = trN μ m f a
def TBz (L N f0 : Nat) (h : ah_T) : Prop := ∀ a f m : Nat, a ≤ 15 → 1 ≤ m → f + m ≤ L → ¬ (m < N ∨ (m = N ∧ f < f0)) → h.2.1 163 (ixT a f (f + m)) = 0
def VBt (h : ah_T) : Prop := ∀ k, k < 2704 → 0 ≤ h.2.1 163 k ∧ h.2.1 163 k ≤ 1000001
abbrev JWu : Nat → Nat → Prop := fun a _ => a = 163
abbrev JWv : Nat → Nat → Prop := fun a k => a = 163 ∨ (a = 162 ∧ k = 1)
section
variable {G : cx_T} {s c : Nat} {h : ah_T} {μ : pm_T}
theorem j_slot {a f t : Nat} (hb0 : hb s h) (ha : a ≤ 15) (hf : f ≤ 12) (ht : t ≤ 12) : con G 0 0 0 m_Trees_slot [av_I (a : Int), av_I (f : Int), av_I (t : Int)] h (fun r h' => r = some (av_I ((ixT a f t : Nat) : Int)) ∧ hb s h' ∧ h' = h) := by
  refine c_Trees_slot hb0 (fun _ _ _ => ?_)
  unfold B_Trees_slot_0
  refine ⟨⟨by omega, by omega⟩, ⟨by omega, by omega⟩, ⟨by omega, by omega⟩, ⟨by omega, by omega⟩, ?_, hb0, rfl⟩
  rw [show 169 * (a : Int) + 13 * (f : Int) + (t : Int) = ((ixT a f t : Nat) : Int) by unfold ixT; omega]
theorem j_treesOf {a f t : Nat} (hb0 : hb s h) (ha : a ≤ 15) (hf : f ≤ 12) (ht : t ≤ 12) : con G 1 0 0 m_Trees_treesOf [av_R (some 162), av_I (a : Int), av_I (f : Int), av_I (t : Int)] h (fun r h' => r = some (av_I (h.2.1 163 (ixT a f t))) ∧ hb s h' ∧ h' = h) := by
  refine c_Trees_treesOf hb0 (fun _ _ _ => ?_)
  unfold B_Trees_treesOf_0 B_Trees_treesOf_34
  refine con_mono (j_slot hb0 ha hf ht) ?_
  rintro r h2 ⟨rfl, hb2, rfl⟩
  have ib : ixT a f t < 2704 := by unfold ixT; omega
  refine ⟨_, rfl, hb2, fun q => by omega, fun q => ⟨fun q2 => by omega, fun q2 => ⟨by omega, fun x6 e6 _ _ => ?_⟩⟩⟩
  rw [tn_c] at e6
  rw [e6]
  exact ⟨rfl, hb2, rfl⟩
theorem j_treesCut {r f u t : Nat} (hb0 : hb s h) (hc : isS c) (U : RUc μ c h) (N : NMg μ) (hr : (r : Int) < μ 0 4) (h4 : 0 ≤ μ 4 r) (hu : u ≤ 12) (hf : f ≤ 12) (ht : t ≤ 12) (vb : VBt h) : con G 2 0 0 m_Trees_treesCut [av_R (some 162), av_R (some c), av_I (r : Int), av_I (f : Int), av_I (u : Int), av_I (t : Int)] h (fun q h' => q = some (av_L (h.2.1 163 (ixT (μ 3 r).toNat f u) * h.2.1 163 (ixT (μ 4 r).toNat u t))) ∧ hb s h' ∧ h' = h) := by
  have nb := N.1 r hr
  have r24 := U.2.1.1
  obtain ⟨-, x3, x4⟩ := U.2.2.1 r hr
  refine c_Trees_treesCut hc hb0 (fun _ _ _ _ => ?_)
  unfold B_Trees_treesCut_0
  rw [tn_c]
  refine ⟨by omega, fun x2 e2 _ _ => ?_⟩
  have ex : x2 = (((μ 3 r).toNat : Nat) : Int) := by rw [e2, x3]; omega
  subst ex
  refine con_mono (j_treesOf hb0 (by omega) hf hu) ?_
  rintro q h2 ⟨rfl, hb2, rfl⟩
  refine ⟨_, rfl, hb2, fun x8 e8 _ _ => ?_⟩
  have ex : x8 = (((μ 4 r).toNat : Nat) : Int) := by rw [e8, x4]; omega
  subst ex
  refine con_mono (j_treesOf hb2 (by omega) hu ht) ?_
  rintro q h3 ⟨rfl, hb3, rfl⟩
  have p1 := vb (ixT (μ 3 r).toNat f u) (by unfold ixT; omega)
  have p2 := vb (ixT (μ 4 r).toNat u t) (by unfold ixT; omega)
  have m0 := Int.mul_nonneg p1.1 p2.1
  have m1 := Int.mul_le_mul p1.2 p2.2 p2.1 (by decide)
  refine ⟨_, rfl, hb3, fun x12 e12 => ⟨⟨by omega, by omega⟩, ?_, hb3, rfl⟩⟩
  rw [e12]
theorem j_treesBy {r f n : Nat} {L f0 : Nat} (hb0 : hb s h) (hc : isS c) (U : RUc μ c h) (N : NMg μ) (hL : μ 0 5 = (L : Int)) (hr : (r : Int) < μ 0 4) (hn : 1 ≤ n) (hfn : f + n ≤ L) (T : TBg μ L n f0 h) (vb : VBt h) : con G 3 0 0 m_Trees_treesBy [av_R (some 162), av_R (some c), av_I (r : Int), av_I (f : Int), av_I ((f + n : Nat) : Int)] h (fun q h' => q = some (av_L (byR μ (trN μ) r f n)) ∧ hb s h' ∧ h' = h) := by
  have nb := N.1 r hr
  have r24 := U.2.1.1
  have l12 := U.2.1.2
  obtain ⟨-, x3, x4⟩ := U.2.2.1 r hr
  have bb := fun k => byC_b (μ := μ) (tb := trN μ) trN_b (r := r) (f := f) (n := n) k
  refine c_Trees_treesBy hc (X46 := fun v5 v7 hh => hh = h ∧ 0 ≤ μ 4 r ∧ ∃ k : Nat, v7 = ((f + k + 1 : Nat) : Int) ∧ k ≤ n - 1 ∧ v5 = byC μ (trN μ) r f n k) ?_ hb0 (fun _ _ _ => ?_)
  · refine lp_Trees_treesBy_46 hc _ (fun _ v7 _ => (50 - v7).toNat) ?_
    rintro v5 v7 hh hb1 ⟨ehh, h4, k, rfl, hk, rfl⟩
    subst ehh
    have bk := bb k
    unfold B_Trees_treesBy_46
    refine ⟨fun q => ⟨?_, hb1, rfl⟩, fun q => ?_⟩
    · have : k = n - 1 := by omega
      unfold byR
      rw [if_neg (by omega), this]
    · refine con_mono (j_treesCut (u := f + k + 1) hb1 hc U N hr h4 (by omega) (by omega) (by omega) vb) ?_
      rintro q2 h2 ⟨rfl, hb2, rfl⟩
      have t1 := T (μ 3 r).toNat f (k + 1) (by omega) (by omega) (by omega) (Or.inl (by omega))
      have t2 := T (μ 4 r).toNat (f + k + 1) (n - (k + 1)) (by omega) (by omega) (by omega) (Or.inl (by omega))
      rw [show f + (k + 1) = f + k + 1 by omega] at t1
      rw [show f + k + 1 + (n - (k + 1)) = f + n by omega] at t2
      rw [t1, t2]
      have e : byC μ (trN μ) r f n k + trN μ (k + 1) f (μ 3 r).toNat * trN μ (n - (k + 1)) (f + k + 1) (μ 4 r).toNat = byC μ (trN μ) r f n (k + 1) := rfl
      have b1 := bb (k + 1)
      refine ⟨_, rfl, hb2, ?_, ⟨by omega, by omega⟩, ⟨rfl, h4, k + 1, by omega, by omega, e⟩, by omega⟩
      rw [e]
      exact ⟨by omega, by omega⟩
  · unfold B_Trees_treesBy_0 B_Trees_treesBy_36 B_Trees_treesBy_37
    rw [tn_c]
    refine ⟨by omega, fun x2 e2 _ _ => ?_⟩
    have ex := e2.trans x4
    subst ex
    refine ⟨fun q => ⟨⟨by omega, by omega⟩, rfl, q, 0, by omega, Nat.zero_le _, rfl⟩, fun q => ⟨⟨by omega, by omega⟩, fun q2 => ⟨by omega, fun x7 e7 _ _ x10 e10 _ _ => ?_⟩, fun q2 => ⟨?_, hb0, rfl⟩⟩⟩
    · have n1 : n = 1 := by omega
      rw [tn_c] at e7
      have ex := e7.trans (U.2.2.2 f (by omega))
      subst ex
      have ex := e10.trans x3
      subst ex
      refine ⟨fun q3 => ⟨?_, hb0, rfl⟩, fun q3 => ⟨?_, hb0, rfl⟩⟩
      · unfold byR; rw [if_pos (by omega), if_pos (show n = 1 ∧ μ 5 f = μ 3 r from ⟨n1, q3⟩)]
      · unfold byR; rw [if_pos (by omega), if_neg (show ¬ (n = 1 ∧ μ 5 f = μ 3 r) from fun w => q3 w.2)]
    · unfold byR; rw [if_pos (by omega), if_neg (show ¬ (n = 1 ∧ μ 5 f = μ 3 r) from fun w => by have := w.1; omega)]
theorem ixT_i {a f t a' f' t' : Nat} (h1 : f ≤ 12) (h2 : t ≤ 12) (h3 : f' ≤ 12) (h4 : t' ≤ 12) (e : ixT a f t = ixT a' f' t') : a = a' ∧ f = f' ∧ t = t' := by
  unfold ixT at e
  omega
theorem t_JMath_min {x y : Int} (hb0 : hb s h) : con G 0 0 0 m_JMath_min_JJJ [av_L x, av_L y] h (fun r h' => ∃ z, r = some (av_L z) ∧ hb s h' ∧ h' = h ∧ z ≤ x ∧ z ≤ y ∧ (z = x ∨ z = y)) := by
  refine con_mono s_JMath_min_JJJ ?_
  rintro r h' ⟨z, rfl, -, ⟨q1, q2, q3⟩, rfl⟩
  exact ⟨z, rfl, hb0, rfl, q1, q2, q3⟩
theorem j_fill {f n L : Nat} (hb0 : hb s h) (hc : isS c) (U : RUc μ c h) (N : NMg μ) (hL : μ 0 5 = (L : Int)) (hn : 1 ≤ n) (hfn : f + n ≤ L) (T : TBg μ L n f h) (Z : TBz L n f h) (vb : VBt h) : con G 4 0 0 m_Trees_fill [av_R (some 162), av_R (some c), av_I (f : Int), av_I ((f + n : Nat) : Int)] h (fun q h' => q = none ∧ hb s h' ∧ fr JWu h h' ∧ TBg μ L n (f + 1) h' ∧ TBz L n (f + 1) h' ∧ VBt h') := by
  have r24 := U.2.1.1
  have l12 := U.2.1.2
  refine c_Trees_fill hc (X3 := fun v4 hh => fr JWu h hh ∧ ∃ r : Nat, v4 = (r : Int) ∧ (r : Int) ≤ μ 0 4 ∧ (∀ a, a ≤ 15 → hh.2.1 163 (ixT a f (f + n)) = cap (suR μ (trN μ) a f n r)) ∧ (∀ a f' m, a ≤ 15 → 1 ≤ m → f' + m ≤ L → ¬ (m = n ∧ f' = f) → hh.2.1 163 (ixT a f' (f' + m)) = h.2.1 163 (ixT a f' (f' + m))) ∧ VBt hh) ?_ hb0 (fun _ _ => ?_)
  · refine lp_Trees_fill_3 hc _ (fun v4 _ => (30 - v4).toNat) ?_
    rintro v4 hh hb1 ⟨fw, r, rfl, hr, A, O, vb1⟩
    have U1 := RUc_f hc U fw (fun a k w => by omega)
    have T1 : TBg μ L n f hh := fun a f' m h1 h2 h3 h4 => by rw [O a f' m h1 h2 h3 (by omega)]; exact T a f' m h1 h2 h3 h4
    unfold B_Trees_fill_3 B_Trees_fill_73
    intro x1 e1 _ _
    have ex := e1.trans U1.1.1
    subst ex
    refine ⟨fun q => ⟨rfl, hb1, fw, fun a f' m h1 h2 h3 h4 => ?_, fun a f' m h1 h2 h3 h4 => ?_, vb1⟩, fun q => ⟨by omega, fun x3 e3 _ _ => ?_⟩⟩
    · by_cases cc : m = n ∧ f' = f
      · obtain ⟨rfl, rfl⟩ := cc
        rw [A a h1, trN_s h2, show (μ 0 4).toNat = r by omega]
      · rw [O a f' m h1 h2 h3 cc]
        exact T a f' m h1 h2 h3 (by omega)
    · rw [O a f' m h1 h2 h3 (by omega)]
      exact Z a f' m h1 h2 h3 (by omega)
    rw [tn_c] at e3
    have hr' : (r : Int) < μ 0 4 := by omega
    have nb := N.1 r hr'
    have ex : x3 = (((μ 2 r).toNat : Nat) : Int) := by rw [e3, (U1.2.2.1 r hr').1]; omega
    subst ex
    have ib : ixT (μ 2 r).toNat f (f + n) < 2704 := by unfold ixT; omega
    refine con_mono (j_slot (t := f + n) hb1 (by omega) (by omega) (by omega)) ?_
    rintro q2 h5 ⟨rfl, hb5, rfl⟩
    refine ⟨_, rfl, hb5, fun q2 => by omega, fun q2 => ⟨fun q3 => by omega, fun q3 => ⟨by omega, fun x11 e11 _ _ => ?_⟩⟩⟩
    rw [tn_c] at e11
    have ex := e11.trans (A (μ 2 r).toNat (by omega))
    subst ex
    have sb := suR_b (μ := μ) (tb := trN μ) trN_b (a := (μ 2 r).toNat) (f := f) (n := n) (by omega) r
    have rb := byR_b (μ := μ) (tb := trN μ) trN_b (r := r) (f := f) (n := n) (by omega)
    have cb' := cap_b sb
    refine con_mono (j_treesBy (f := f) hb5 hc U1 N hL hr' hn hfn T1 vb1) ?_
    rintro q4 h13 ⟨rfl, hb13, rfl⟩
    refine ⟨_, rfl, hb13, ⟨by omega, by omega⟩, ?_⟩
    refine con_mono (t_JMath_min hb13) ?_
    rintro q5 h17 ⟨z19, rfl, hb17, rfl, m1, m2, m3⟩
    have ez : z19 = cap (suR μ (trN μ) (μ 2 r).toNat f n r + byR μ (trN μ) r f n) := by
      rw [← cap_c sb rb.1]
      exact cap_min m1 m2 m3
    have zb := cap_b (x := suR μ (trN μ) (μ 2 r).toNat f n r + byR μ (trN μ) r f n) (by omega)
    refine ⟨_, rfl, hb17, ⟨by omega, by omega⟩, fun h21 e21 => ⟨⟨by omega, by omega⟩, ⟨fr_i fw e21 rfl, r + 1, by omega, by omega, fun a ha => ?_, fun a f' m q1 q2 q3 q4 => ?_, fun k hk => ?_⟩, by omega⟩⟩
    · rw [tn_c] at e21
      rw [suR]
      by_cases ca : (μ 2 r).toNat = a
      · subst ca
        rw [mv_i e21, if_pos rfl, ez]
      · have ne : ixT a f (f + n) ≠ ixT (μ 2 r).toNat f (f + n) := fun w => by
          have := ixT_i (show f ≤ 12 by omega) (show f + n ≤ 12 by omega) (show f ≤ 12 by omega) (show f + n ≤ 12 by omega) w
          omega
        rw [mm_i e21 (by omega), if_neg ca, Int.add_zero]
        exact A a ha
    · rw [tn_c] at e21
      have ne : ixT a f' (f' + m) ≠ ixT (μ 2 r).toNat f (f + n) := fun w => by
        have := ixT_i (show f' ≤ 12 by omega) (show f' + m ≤ 12 by omega) (show f ≤ 12 by omega) (show f + n ≤ 12 by omega) w
        omega
      rw [mm_i e21 (by omega)]
      exact O a f' m q1 q2 q3 q4
    · rw [tn_c] at e21
      by_cases ck : k = ixT (μ 2 r).toNat f (f + n)
      · subst ck
        rw [mv_i e21]
        omega
      · rw [mm_i e21 (by omega)]
        exact vb1 k hk
  · unfold B_Trees_fill_0
    refine ⟨fr_0, 0, rfl, by omega, fun a ha => ?_, fun _ _ _ _ _ _ _ => rfl, vb⟩
    rw [Z a f n ha hn hfn (by omega)]
    exact (cap_i (x := 0) (by decide)).symm
/-- the whole table -/
def TBa (μ : pm_T) (h : ah_T) : Prop := TBg μ (μ 0 5).toNat ((μ 0 5).toNat + 1) 0 h
theorem t_Trees_find (hb0 : hb s h) (hc : isS c) (U : RUc μ c h) (N : NMg μ) (h4 : 1 ≤ μ 0 4) (h5 : 1 ≤ μ 0 5) : con G 5 0 0 m_Trees_find [av_R (some 162), av_R (some c)] h (fun q h' => hb s h' ∧ fr JWv h h' ∧ TBa μ h' ∧ VBt h' ∧ ((1000000 < reaN μ ∧ q = some (av_I (-4)) ∧ h'.2.1 162 1 = h.2.1 162 1) ∨ (¬ 1000000 < reaN μ ∧ q = some (av_I (reaN μ)) ∧ h'.2.1 162 1 = reaN μ))) := by
  have r24 := U.2.1.1
  have l12 := U.2.1.2
  obtain ⟨L, eL⟩ : ∃ L, L = (μ 0 5).toNat := ⟨_, rfl⟩
  have hL : μ 0 5 = (L : Int) := by omega
  have n0 := N.1 0 (by omega)
  have key : ∀ (M n : Nat) (hh : ah_T), hb s hh → 1 ≤ n → n ≤ L + 1 → (fr JWu h hh ∧ TBg μ L n 0 hh ∧ TBz L n 0 hh ∧ VBt hh) → L + 1 - n < M → aw G (rm_R 5 0 0) m_Trees_find 0 0 26 [some (av_R (some 162)), some (av_R (some c)), some (av_I (n : Int)), none] [] hh (fun q h' => hb s h' ∧ fr JWv h h' ∧ TBa μ h' ∧ VBt h' ∧ ((1000000 < reaN μ ∧ q = some (av_I (-4)) ∧ h'.2.1 162 1 = h.2.1 162 1) ∨ (¬ 1000000 < reaN μ ∧ q = some (av_I (reaN μ)) ∧ h'.2.1 162 1 = reaN μ))) := by
    intro M
    induction M with
    | zero => intro n hh _ _ _ _ q; omega
    | succ M ih =>
      rintro n hh hbh n1 nL ⟨fw, T, Z, vb⟩ hM
      have U1 := RUc_f hc U fw (fun a k w => by omega)
      have l36 : n ≤ L → ∀ (v2 v3 : Int) (h' : ah_T), hb s h' → (v2 = (n : Int) ∧ ∃ f : Nat, v3 = (f : Int) ∧ f + n ≤ L + 1 ∧ fr JWu h h' ∧ TBg μ L n f h' ∧ TBz L n f h' ∧ VBt h') → aw G (rm_R 5 0 0) m_Trees_find 0 0 36 [some (av_R (some 162)), some (av_R (some c)), some (av_I v2), some (av_I v3)] [] h' (fun q h' => hb s h' ∧ fr JWv h h' ∧ TBa μ h' ∧ VBt h' ∧ ((1000000 < reaN μ ∧ q = some (av_I (-4)) ∧ h'.2.1 162 1 = h.2.1 162 1) ∨ (¬ 1000000 < reaN μ ∧ q = some (av_I (reaN μ)) ∧ h'.2.1 162 1 = reaN μ))) := fun nl => by
        refine lp_Trees_find_36 (X26 := fun v2 hh => v2 = ((n + 1 : Nat) : Int) ∧ fr JWu h hh ∧ TBg μ L (n + 1) 0 hh ∧ TBz L (n + 1) 0 hh ∧ VBt hh) hc (fun v2 hh hb' x => by obtain ⟨rfl, x⟩ := x; exact ih (n + 1) hh hb' (by omega) (by omega) x (by omega)) _ (fun _ v3 _ => (20 - v3).toNat) ?_
        rintro v2 v3 h' hb' ⟨rfl, f, rfl, hf, fw', T', Z', vb'⟩
        have U' := RUc_f hc U fw' (fun a k w => by omega)
        unfold B_Trees_find_36
        refine ⟨⟨by omega, by omega⟩, fun x2 e2 _ _ => ?_⟩
        have ex := e2.trans (U'.1.2.trans hL)
        subst ex
        refine ⟨fun q => ⟨⟨by omega, by omega⟩, by omega, fw', fun a f' m h1 h2 h3 h4 => T' a f' m h1 h2 h3 (by omega), fun a f' m h1 h2 h3 h4 => Z' a f' m h1 h2 h3 (by omega), vb'⟩, fun q => ?_⟩
        rw [show (f : Int) + (n : Int) = ((f + n : Nat) : Int) by omega]
        refine con_mono (j_fill (f := f) (n := n) hb' hc U' N hL n1 (by omega) T' Z' vb') ?_
        rintro q2 h4 ⟨rfl, hb4, f4, T4, Z4, vb4⟩
        exact ⟨rfl, hb4, ⟨by omega, by omega⟩, ⟨rfl, f + 1, by omega, by omega, fr_t fw' f4 (fun _ _ w => w), T4, Z4, vb4⟩, by omega⟩
      by_cases nl : n ≤ L
      · refine b_Trees_find_26 (X36 := fun v2 v3 h' => v2 = (n : Int) ∧ ∃ f : Nat, v3 = (f : Int) ∧ f + n ≤ L + 1 ∧ fr JWu h h' ∧ TBg μ L n f h' ∧ TBz L n f h' ∧ VBt h') hc (l36 nl) hbh ?_
        unfold B_Trees_find_26
        intro x1 e1 _ _
        have ex := e1.trans (U1.1.2.trans hL)
        subst ex
        exact ⟨fun q => by omega, fun _ => ⟨rfl, 0, rfl, by omega, fw, T, Z, vb⟩⟩
      · refine b_Trees_find_26 (X36 := fun _ _ _ => False) hc (fun _ _ _ _ x => x.elim) hbh ?_
        unfold B_Trees_find_26
        intro x1 e1 _ _
        have ex := e1.trans (U1.1.2.trans hL)
        subst ex
        refine ⟨fun _ x3 e3 _ _ => ?_, fun q => by omega⟩
        have ex : x3 = (((μ 2 0).toNat : Nat) : Int) := by rw [e3, (U1.2.2.1 0 (by omega)).1]; omega
        subst ex
        have nn : n = L + 1 := by omega
        subst nn
        have ta : TBa μ hh := by unfold TBa; rw [← eL]; exact T
        have tv := T (μ 2 0).toNat 0 L (by omega) (by omega) (by omega) (Or.inl (by omega))
        rw [Nat.zero_add] at tv
        have er : trN μ L 0 (μ 2 0).toNat = reaN μ := by unfold reaN; rw [← eL]
        have rb := trN_b (μ := μ) L 0 (μ 2 0).toNat
        rw [er] at tv rb
        have jt := j_treesOf (G := G) (a := (μ 2 0).toNat) (f := 0) (t := L) hbh (by omega) (by omega) (by omega)
        rw [tv] at jt
        refine con_mono jt ?_
        rintro q2 h5 ⟨rfl, hb5, rfl⟩
        have fv : fr JWv h h5 := fr_w fw (fun a k w => Or.inl w)
        refine ⟨_, rfl, hb5, fun q h8 e8 => ⟨hb_i hb5 e8, fr_i fv e8 (by omega), ?_, ?_, Or.inr ⟨by omega, rfl, mv_i e8⟩⟩, fun q => ⟨hb5, fv, ta, vb, Or.inl ⟨by omega, rfl, fr_g fw (by omega)⟩⟩⟩
        · intro a f m h1 h2 h3 h4
          rw [mm_i e8 (by omega)]
          exact ta a f m h1 h2 h3 h4
        · intro k hk
          rw [mm_i e8 (by omega)]
          exact vb k hk
  refine c_Trees_find (X2 := fun v2 hh => fr JWu h hh ∧ ∃ k : Nat, v2 = (k : Int) ∧ k ≤ 2704 ∧ ∀ i, i < k → hh.2.1 163 i = 0) hc ?_ hb0 ?_
  · refine lp_Trees_find_2 (X26 := fun v2 hh => v2 = ((1 : Nat) : Int) ∧ fr JWu h hh ∧ TBg μ L 1 0 hh ∧ TBz L 1 0 hh ∧ VBt hh) hc (fun v2 hh hb' x => by obtain ⟨rfl, x⟩ := x; exact key (L + 2) 1 hh hb' (Nat.le_refl _) (by omega) x (by omega)) _ (fun v2 _ => (3000 - v2).toNat) ?_
    rintro v2 hh hb1 ⟨fw, k, rfl, hk, Z⟩
    unfold B_Trees_find_2
    refine ⟨fun q => ⟨rfl, fw, fun a f m h1 h2 h3 h4 => by omega, fun a f m h1 h2 h3 _ => Z _ (by unfold ixT; omega), fun i hi => by rw [Z i (by omega)]; decide⟩, fun q => ⟨by omega, fun h4 e4 => ⟨⟨by omega, by omega⟩, ⟨fr_i fw e4 rfl, k + 1, by omega, by omega, fun i hi => ?_⟩, by omega⟩⟩⟩
    rw [tn_c] at e4
    by_cases ci : i = k
    · subst ci; exact mv_i e4
    · rw [mm_i e4 (by omega)]; exact Z i (by omega)
  · unfold B_Trees_find_0
    exact ⟨fr_0, 0, rfl, Nat.zero_le _, fun i hi => by omega⟩
theorem t_PM_readings {s : Nat} {h : ah_T} (hb0 : hb s h) (hc : isS (97 - s)) (U : RUc μ (97 - s) h) (N : NMg μ) : con G 6 0 0 m_PM_readings [av_R (some 0)] h (fun q h' => q = some (av_I (reav μ)) ∧ hb s h' ∧ fr JWv h h' ∧ ((reav μ = -2 ∧ h' = h) ∨ (reav μ ≠ -2 ∧ TBa μ h' ∧ VBt h' ∧ ((reav μ = -4 ∧ h'.2.1 162 1 = h.2.1 162 1) ∨ (0 ≤ reav μ ∧ reav μ ≤ 1000000 ∧ h'.2.1 162 1 = reav μ ∧ reav μ = reaN μ))))) := by
  have r24 := U.2.1.1
  have l12 := U.2.1.2
  have rb : 0 ≤ reaN μ ∧ reaN μ ≤ 1000001 := trN_b _ _ _
  refine c_PM_readings hb0 ?_
  unfold B_PM_readings_0 B_PM_readings_20
  intro x2 e2 _ _
  have ex := e2.trans U.1.1
  subst ex
  refine ⟨fun q => ?_, fun q x4 e4 _ _ => ?_⟩
  · have e : reav μ = -2 := by unfold reav; rw [if_pos q]
    rw [e]; exact ⟨rfl, hb0, fr_0, Or.inl ⟨rfl, rfl⟩⟩
  have ex := e4.trans U.1.2
  subst ex
  refine ⟨fun q2 => ?_, fun q2 => ?_⟩
  · have e : reav μ = -2 := by unfold reav; rw [if_neg q, if_pos q2]
    rw [e]; exact ⟨rfl, hb0, fr_0, Or.inl ⟨rfl, rfl⟩⟩
  refine con_mono (t_Trees_find hb0 hc U N (by omega) (by omega)) ?_
  rintro q3 h7 ⟨hb7, f7, T7, vb7, ⟨w1, rfl, w2⟩ | ⟨w1, rfl, w2⟩⟩
  · have e : reav μ = -4 := by unfold reav; rw [if_neg q, if_neg q2, if_pos w1]
    rw [e]
    exact ⟨_, rfl, hb7, rfl, hb7, f7, Or.inr ⟨by decide, T7, vb7, Or.inl ⟨rfl, w2⟩⟩⟩
  · have e : reav μ = reaN μ := by unfold reav; rw [if_neg q, if_neg q2, if_neg w1]
    rw [e]
    exact ⟨_, rfl, hb7, rfl, hb7, f7, Or.inr ⟨by omega, T7, vb7, Or.inr ⟨by omega, by omega, w2, rfl⟩⟩⟩
end
