/-! ===== tree, the class ===== -/
abbrev TWa : Nat → Nat → Prop := fun a k => a = 162 ∧ 2 ≤ k ∧ k ≤ 5
def TCs (μ : pm_T) (c : Nat) (h : ah_T) : Prop := RUc μ c h ∧ TBa μ h ∧ VBt h
theorem TCs_f {μ : pm_T} {c : Nat} {h h' : ah_T} (hc : isS c) (H : TCs μ c h) (f : fr TWa h h') : TCs μ c h' := by
  obtain ⟨U, T, V⟩ := H
  have e : ∀ k, h'.2.1 163 k = h.2.1 163 k := fun k => fr_g f (by omega)
  exact ⟨RUc_f hc U f (fun a k w => by omega), fun a f m h1 h2 h3 h4 => (e _).trans (T a f m h1 h2 h3 h4), fun k hk => by rw [e]; exact V k hk⟩
/-- the part that ruleIn has come to -/
def tPTc (a f n : Nat) (w : Int) (h : ah_T) : Prop := h.2.1 162 2 = (a : Int) ∧ h.2.1 162 3 = (f : Int) ∧ h.2.1 162 4 = ((f + n : Nat) : Int) ∧ h.2.2.1 162 5 = w
section
variable {G : cx_T} {s c : Nat} {h : ah_T} {μ : pm_T} {a f n : Nat} {w : Int}
theorem j_findRule (hb0 : hb s h) (hc : isS c) (T : TCs μ c h) (N : NMg μ) (V : VP μ (μ 0 5).toNat a f n w) (P : tPTc a f n w h) : con G 4 0 0 m_Trees_findRule [av_R (some 162), av_R (some c)] h (fun q h' => q = some (av_I ((nR μ a f n w : Nat) : Int)) ∧ hb s h' ∧ fr TWa h h' ∧ tPTc a f n (nW μ a f n w) h') := by
  have V' := V
  obtain ⟨v1, v2, v3, v4, v5, v6⟩ := V'
  have u := VP_u V
  obtain ⟨r1, -⟩ := VP_r V
  refine c_Trees_findRule hc (X2 := fun v2 hh => fr TWa h hh ∧ ∃ k : Nat, v2 = (k : Int) ∧ (k : Int) ≤ μ 0 4 ∧ (∀ j, 1 ≤ j → j ≤ k → ¬ w < suR μ (trN μ) a f n j) ∧ tPTc a f n (w - suR μ (trN μ) a f n k) hh) ?_ hb0 ?_
  · refine lp_Trees_findRule_2 hc _ (fun v2 _ => (50 - v2).toNat) ?_
    rintro v2 hh hb1 ⟨fw, k, rfl, hk, no, p2, p3, p4, p5⟩
    obtain ⟨U, TB, vb⟩ := TCs_f hc T fw
    have k24 := U.2.1.1.2
    have k12 := U.2.1.2
    unfold B_Trees_findRule_2 B_Trees_findRule_59
    intro x1 e1 _ _
    have ex := e1.trans U.1.1
    subst ex
    refine ⟨fun q => absurd u (no _ (by omega) (by omega)), fun q => ?_⟩
    have hk' : (k : Int) < μ 0 4 := by omega
    have nb := N.1 k hk'
    obtain ⟨x2', x3', x4'⟩ := U.2.2.1 k hk'
    rw [tn_c]
    refine ⟨by omega, fun x3 e3 _ _ x5 e5 _ _ => ?_⟩
    have ex := e3.trans x2'
    subst ex
    have ex := e5.trans p2
    subst ex
    have ss := suR_m (μ := μ) (a := a) (f := f) (n := n) (r := k)
    have bb := byR_b (μ := μ) (tb := trN μ) trN_b (r := k) (f := f) (n := n) (by omega)
    have S0 : ¬ w < suR μ (trN μ) a f n k := by
      by_cases z : k = 0
      · subst z
        show ¬ w < 0
        omega
      · exact no k (by omega) (Nat.le_refl _)
    refine ⟨fun c1 x6 e6 _ _ x7 e7 _ _ => ?_, fun c1 => ?_⟩
    · have ex := e6.trans p3
      subst ex
      have ex := e7.trans p4
      subst ex
      rw [if_pos (by omega)] at ss
      refine con_mono (j_treesBy (L := (μ 0 5).toNat) (f0 := 0) hb1 hc U N (by omega) hk' v1 v2 (fun a' f' m h1 h2 h3 h5 => TB a' f' m h1 h2 h3 (Or.inl (by omega))) vb) ?_
      rintro q2 h8 ⟨rfl, hb8, rfl⟩
      refine ⟨_, rfl, hb8, fun x11 e11 l11 u11 => ?_⟩
      have ex := e11.trans p5
      subst ex
      refine ⟨fun c2 => ⟨⟨by omega, by omega⟩, fun h15 e15 => ⟨⟨by omega, by omega⟩, ⟨fr_l fw e15 (by omega), k + 1, by omega, by omega, fun j h1 h2 => ?_, (mm_lo e15).trans p2, (mm_lo e15).trans p3, (mm_lo e15).trans p4, ?_⟩, by omega⟩⟩, fun c2 => ?_⟩
      · by_cases x : j = k + 1
        · rw [x, ss]; omega
        · exact no j h1 (by omega)
      · rw [mv_l e15, ss]; omega
      · have e : nR μ a f n w = k := pkF_at (by omega) (by omega) no
        unfold nW
        rw [e]
        exact ⟨rfl, hb8, fw, p2, p3, p4, p5⟩
    · rw [if_neg (fun x => c1 (by omega)), Int.add_zero] at ss
      refine ⟨⟨by omega, by omega⟩, ⟨fw, k + 1, by omega, by omega, fun j h1 h2 => ?_, p2, p3, p4, ?_⟩, by omega⟩
      · by_cases x : j = k + 1
        · rw [x, ss]; exact S0
        · exact no j h1 (by omega)
      · rw [ss]; exact p5
  · unfold B_Trees_findRule_0
    refine ⟨fr_0, 0, rfl, by omega, fun j h1 h2 => by omega, P.1, P.2.1, P.2.2.1, P.2.2.2.trans ?_⟩
    show w = w - 0
    omega
theorem j_findCut (hb0 : hb s h) (hc : isS c) (T : TCs μ c h) (N : NMg μ) (V : VP μ (μ 0 5).toNat a f n w) (h4 : 0 ≤ μ 4 (nR μ a f n w)) (P : tPTc a f n (nW μ a f n w) h) : con G 3 0 0 m_Trees_findCut [av_R (some 162), av_R (some c), av_I ((nR μ a f n w : Nat) : Int)] h (fun q h' => q = some (av_I ((f + (nC μ a f n w + 1) : Nat) : Int)) ∧ hb s h' ∧ fr TWa h h' ∧ tPTc a f n (nV μ a f n w) h') := by
  obtain ⟨v1, v2, v3, v4, v5, v6⟩ := id V
  obtain ⟨r1, -, w0, -⟩ := VP_r V
  obtain ⟨c1, -⟩ := VP_node N V h4
  have u := VP_v N V h4
  have nb := N.1 _ r1
  refine c_Trees_findCut hc (X7 := fun v3 hh => fr TWa h hh ∧ ∃ k : Nat, v3 = ((f + k + 1 : Nat) : Int) ∧ k ≤ n - 1 ∧ (∀ j, 1 ≤ j → j ≤ k → ¬ nW μ a f n w < byC μ (trN μ) (nR μ a f n w) f n j) ∧ tPTc a f n (nW μ a f n w - byC μ (trN μ) (nR μ a f n w) f n k) hh) ?_ hb0 (fun _ => ?_)
  · refine lp_Trees_findCut_7 hc _ (fun v3 _ => (50 - v3).toNat) ?_
    rintro v3 hh hb1 ⟨fw, k, rfl, hk, no, p2, p3, p4, p5⟩
    obtain ⟨U, TB, vb⟩ := TCs_f hc T fw
    have k12 := U.2.1.2
    unfold B_Trees_findCut_7
    intro x1 e1 _ _
    have ex := e1.trans p4
    subst ex
    refine ⟨fun q => absurd u (no _ (by omega) (by omega)), fun q x3 e3 _ _ => ?_⟩
    have ex := e3.trans p3
    subst ex
    refine con_mono (j_treesCut (u := f + k + 1) (t := f + n) hb1 hc U N r1 h4 (by omega) (by omega) (by omega) vb) ?_
    rintro q2 h5 ⟨rfl, hb5, rfl⟩
    have t1 := TB (μ 3 (nR μ a f n w)).toNat f (k + 1) (by omega) (by omega) (by omega) (Or.inl (by omega))
    have t2 := TB (μ 4 (nR μ a f n w)).toNat (f + k + 1) (n - (k + 1)) (by omega) (by omega) (by omega) (Or.inl (by omega))
    rw [show f + (k + 1) = f + k + 1 by omega] at t1
    rw [show f + k + 1 + (n - (k + 1)) = f + n by omega] at t2
    rw [t1, t2]
    have e : byC μ (trN μ) (nR μ a f n w) f n (k + 1) = byC μ (trN μ) (nR μ a f n w) f n k + trN μ (k + 1) f (μ 3 (nR μ a f n w)).toNat * trN μ (n - (k + 1)) (f + k + 1) (μ 4 (nR μ a f n w)).toNat := rfl
    have q0 := Int.mul_nonneg (trN_b (μ := μ) (k + 1) f (μ 3 (nR μ a f n w)).toNat).1 (trN_b (μ := μ) (n - (k + 1)) (f + k + 1) (μ 4 (nR μ a f n w)).toNat).1
    generalize trN μ (k + 1) f (μ 3 (nR μ a f n w)).toNat * trN μ (n - (k + 1)) (f + k + 1) (μ 4 (nR μ a f n w)).toNat = p at e q0 ⊢
    refine ⟨_, rfl, hb5, fun x8 e8 l8 u8 => ?_⟩
    have ex := e8.trans p5
    subst ex
    refine ⟨fun c2 => ⟨⟨by omega, by omega⟩, fun h12 e12 => ⟨⟨by omega, by omega⟩, ⟨fr_l fw e12 (by omega), k + 1, by omega, by omega, fun j h1 h2 => ?_, (mm_lo e12).trans p2, (mm_lo e12).trans p3, (mm_lo e12).trans p4, ?_⟩, by omega⟩⟩, fun c2 => ?_⟩
    · by_cases x : j = k + 1
      · rw [x, e]; omega
      · exact no j h1 (by omega)
    · rw [mv_l e12, e]; omega
    · have ek : nC μ a f n w = k := pkF_at (by omega) (by omega) no
      unfold nV
      rw [ek]
      exact ⟨rfl, hb5, fw, p2, p3, p4, p5⟩
  · unfold B_Trees_findCut_0
    intro x1 e1 _ _
    have ex := e1.trans P.2.1
    subst ex
    refine ⟨⟨by omega, by omega⟩, fr_0, 0, by omega, by omega, fun j h1 h2 => by omega, P.1, P.2.1, P.2.2.1, P.2.2.2.trans ?_⟩
    show nW μ a f n w = nW μ a f n w - 0
    omega
theorem j_goDown {t : Int} (hb0 : hb s h) (hc : isS c) (T : TCs μ c h) (N : NMg μ) (V : VP μ (μ 0 5).toNat a f n w) (h4 : 0 ≤ μ 4 (nR μ a f n w)) (P : tPTc a f n (nV μ a f n w) h) : con G 2 0 0 m_Trees_goDown [av_R (some 162), av_R (some c), av_I ((nR μ a f n w : Nat) : Int), av_I ((f + (nC μ a f n w + 1) : Nat) : Int), av_I t] h (fun q h' => q = none ∧ hb s h' ∧ fr TWa h h' ∧ (t = 0 → tPTc (μ 4 (nR μ a f n w)).toNat (f + (nC μ a f n w + 1)) (n - (nC μ a f n w + 1)) (nV μ a f n w % nG μ a f n w) h') ∧ (¬ t = 0 → tPTc (μ 3 (nR μ a f n w)).toNat f (nC μ a f n w + 1) (nV μ a f n w / nG μ a f n w) h')) := by
  obtain ⟨v1, v2, v3, v4, v5, v6⟩ := id V
  obtain ⟨r1, -, -, -⟩ := VP_r V
  obtain ⟨c1, V0, -, g1, -, -⟩ := VP_node N V h4
  have nb := N.1 _ r1
  obtain ⟨U, TB, vb⟩ := T
  have k24 := U.2.1.1.2
  have k12 := U.2.1.2
  obtain ⟨x2', x3', x4'⟩ := U.2.2.1 _ r1
  obtain ⟨p2, p3, p4, p5⟩ := P
  have c162 : c < 143 := by unfold isS at hc; omega
  have tg := TB (μ 4 (nR μ a f n w)).toNat (f + (nC μ a f n w + 1)) (n - (nC μ a f n w + 1)) (by omega) (by omega) (by omega) (Or.inl (by omega))
  rw [show f + (nC μ a f n w + 1) + (n - (nC μ a f n w + 1)) = f + n by omega] at tg
  refine c_Trees_goDown hc hb0 (fun _ _ _ => ?_)
  unfold B_Trees_goDown_0 B_Trees_goDown_82
  rw [tn_c]
  refine ⟨by omega, fun x2 e2 _ _ x4 e4 _ _ => ?_⟩
  have ex : x2 = (((μ 4 (nR μ a f n w)).toNat : Nat) : Int) := by rw [e2, x4']; omega
  subst ex
  have ex := e4.trans p4
  subst ex
  refine con_mono (j_treesOf (a := (μ 4 (nR μ a f n w)).toNat) (f := f + (nC μ a f n w + 1)) (t := f + n) hb0 (by omega) (by omega) (by omega)) ?_
  rintro q5 h5 ⟨rfl, hb5, rfl⟩
  rw [tg]
  refine ⟨_, rfl, hb5, fun x8 e8 _ _ => ?_⟩
  have e9 : x8 = nG μ a f n w := by
    rw [e8]
    show (if 1 < nG μ a f n w then nG μ a f n w else 1) = nG μ a f n w
    split <;> omega
  subst e9
  refine ⟨fun ct x10 e10 _ _ h11 e11 h13 e13 x15 e15 _ _ => ⟨by omega, fun x16 e16 _ _ h17 e17 => ?_⟩, fun ct x20 e20 _ _ h21 e21 h23 e23 x25 e25 _ _ => ⟨by omega, fun x26 e26 _ _ h27 e27 => ?_⟩⟩
  · have q15 : x15 = nV μ a f n w := by rw [e15, mm_io e13, mm_io e11, p5]
    have q16 : x16 = nV μ a f n w % nG μ a f n w := by rw [e16, q15, Int.tmod_eq_emod_of_nonneg V0]
    refine ⟨rfl, hb_l (hb_i (hb_i hb5 e11) e13) e17, fr_l (fr_i (fr_i fr_0 e11 (by omega)) e13 (by omega)) e17 (by omega), fun _ => ⟨?_, ?_, ?_, ?_⟩, fun x => absurd ct x⟩
    · rw [mm_lo e17, mm_i e13 (by omega), mv_i e11, e10, x4']; omega
    · rw [mm_lo e17, mv_i e13]
    · rw [mm_lo e17, mm_i e13 (by omega), mm_i e11 (by omega), p4]; omega
    · rw [mv_l e17, q16]
  · have q25 : x25 = nV μ a f n w := by rw [e25, mm_io e23, mm_io e21, p5]
    have vw := VP_w V
    have n1 := VP_x V
    have q26 : x26 = nV μ a f n w / nG μ a f n w := by rw [e26, q25, w64_d V0 (by omega) g1]
    refine ⟨rfl, hb_l (hb_i (hb_i hb5 e21) e23) e27, fr_l (fr_i (fr_i fr_0 e21 (by omega)) e23 (by omega)) e27 (by omega), fun x => absurd x ct, fun _ => ⟨?_, ?_, ?_, ?_⟩⟩
    · rw [mm_lo e27, mm_i e23 (by omega), mv_i e21, e20, x3']; omega
    · rw [mm_lo e27, mm_i e23 (by omega), mm_i e21 (by omega), p3]
    · rw [mm_lo e27, mv_i e23]
    · rw [mv_l e27, q26]
theorem t_Trees_ruleIn {k i : Int} (hb0 : hb s h) (hc : isS c) (T : TCs μ c h) (N : NMg μ) (h4 : 1 ≤ μ 0 4) (h5 : 1 ≤ μ 0 5) (F : h.2.1 162 1 = reaN μ) : con G 5 0 0 m_Trees_ruleIn [av_R (some 162), av_R (some c), av_I k, av_I i] h (fun q h' => q = some (av_I (trv μ k i)) ∧ hb s h' ∧ fr TWa h h') := by
  have c162 : c < 143 := by unfold isS at hc; omega
  have U0 := T.1
  have l12 := U0.2.1.2
  have nb0 := (N.1 0 (by omega)).1
  obtain ⟨x2', -, -⟩ := U0.2.2.1 0 (by omega)
  refine c_Trees_ruleIn hc (X65 := fun v4 v5 hh => fr TWa h hh ∧ ∃ (a f n : Nat) (w : Int) (j : Nat), v4 = (j : Int) ∧ VP μ (μ 0 5).toNat a f n w ∧ tPTc a f n w hh ∧ j < 2 * n - 1 ∧ trI μ (j + 1) a f n w j = trv μ k i ∧ 0 ≤ v5 ∧ v5 + v4 ≤ 22) ?_ hb0 (fun _ _ => ?_)
  · refine lp_Trees_ruleIn_65 (a2 := k) (a3 := i) hc _ (fun v4 _ _ => v4.toNat) ?_
    rintro v4 v5 hh hb1 ⟨fw, a, f, n, w, j, rfl, V, P, hj, ans, l5, u5⟩
    have T1 := TCs_f hc T fw
    obtain ⟨r1, -⟩ := VP_r V
    have v2 := V.2.1
    have nb := N.1 _ r1
    unfold B_Trees_ruleIn_65 B_Trees_ruleIn_99
    refine ⟨fun q => by omega, fun q => ?_⟩
    refine con_mono (j_findRule hb1 hc T1 N V P) ?_
    rintro r h1 ⟨rfl, hb1', f1, P1⟩
    have fw1 : fr TWa h h1 := fr_t fw f1 (fun _ _ x => x)
    have T2 := TCs_f hc T fw1
    rw [trI] at ans
    refine ⟨_, rfl, hb1', fun q1 => ?_, fun q1 => ⟨fun q2 => by omega, fun q2 => ?_⟩⟩
    · rw [if_pos (Or.inl (by omega))] at ans
      rw [ans]; exact ⟨rfl, hb1', fw1⟩
    · rw [tn_c]
      have k24 := T2.1.2.1.1.2
      refine ⟨by omega, fun x5 e5 _ _ => ?_⟩
      have ex := e5.trans (T2.1.2.2.1 _ r1).2.2
      subst ex
      refine ⟨fun q3 => ?_, fun q3 => ?_⟩
      · obtain ⟨c1, V0, -, g1, VL, VR⟩ := VP_node N V q3
        rw [if_neg (by omega)] at ans
        refine con_mono (j_findCut hb1' hc T2 N V q3 P1) ?_
        rintro r h7 ⟨rfl, hb7, f7, P7⟩
        have fw7 : fr TWa h h7 := fr_t fw1 f7 (fun _ _ x => x)
        have T7 := TCs_f hc T fw7
        refine ⟨_, rfl, hb7, fun x10 e10 _ _ => ?_⟩
        have ex := e10.trans P7.2.1
        subst ex
        refine ⟨⟨by omega, by omega⟩, ⟨by omega, by omega⟩, ⟨by omega, by omega⟩, fun q4 => ?_, fun q4 => ?_⟩
        · unfold B_Trees_ruleIn_136 B_Trees_ruleIn_164
          refine con_mono (j_goDown (t := 0) hb7 hc T7 N V q3 P7) ?_
          rintro r h9 ⟨rfl, hb9, f9, PR, -⟩
          refine ⟨rfl, hb9, fun _ => ⟨⟨by omega, by omega⟩, ⟨by omega, by omega⟩, ⟨by omega, by omega⟩, ⟨fr_t fw7 f9 (fun _ _ x => x), _, _, _, _, j - 2 * (nC μ a f n w + 1), by omega, VR, PR rfl, by omega, ?_, by omega, by omega⟩, by omega⟩, fun x => absurd rfl x⟩
          rw [if_neg (by omega)] at ans
          rw [← ans]
          exact trI_F _ _ _ _ _ _ _ (by omega) (by omega)
        · unfold B_Trees_ruleIn_136 B_Trees_ruleIn_164
          refine con_mono (j_goDown (t := 1) hb7 hc T7 N V q3 P7) ?_
          rintro r h9 ⟨rfl, hb9, f9, -, PL⟩
          refine ⟨rfl, hb9, fun x => absurd x (by decide), fun _ => ⟨⟨by omega, by omega⟩, ⟨by omega, by omega⟩, ⟨fr_t fw7 f9 (fun _ _ x => x), _, _, _, _, j - 1, by omega, VL, PL (by decide), by omega, ?_, by omega, by omega⟩, by omega⟩⟩
          rw [if_pos (by omega)] at ans
          rw [← ans]
          exact trI_F _ _ _ _ _ _ _ (by omega) (by omega)
      · rw [if_pos (Or.inr (by omega))] at ans
        rw [ans]; exact ⟨rfl, hb1', fw1⟩
  · unfold B_Trees_ruleIn_0 B_Trees_ruleIn_28
    have bad : (k < 0 ∨ reaN μ ≤ k ∨ i < 0) → trv μ k i = -1 := fun x => by unfold trv; rw [if_pos x]
    refine ⟨fun q1 => ⟨by rw [bad (Or.inl q1)], hb0, fr_0⟩, fun q1 x1 e1 _ _ => ?_⟩
    have ex := e1.trans F
    subst ex
    refine ⟨fun q2 => ⟨by rw [bad (Or.inr (Or.inl q2))], hb0, fr_0⟩, fun q2 => ⟨fun q3 => ⟨by rw [bad (Or.inr (Or.inr q3))], hb0, fr_0⟩, fun q3 x2 e2 _ _ => ?_⟩⟩
    have ex := e2.trans U0.1.2
    subst ex
    have tv : trv μ k i = if i.toNat < 2 * (μ 0 5).toNat - 1 then trI μ (i.toNat + 1) (μ 2 0).toNat 0 (μ 0 5).toNat k i.toNat else stI μ [] (i.toNat - (2 * (μ 0 5).toNat - 1)) := by
      unfold trv
      rw [if_neg (by omega)]
      rfl
    refine ⟨⟨by omega, by omega⟩, ⟨by omega, by omega⟩, fun q4 x6 e6 _ _ h7 e7 h9 e9 x11 e11 _ _ h12 e12 h14 e14 => ?_, fun q4 => ⟨?_, hb0, fr_0⟩⟩
    · have q6 : x6 = (((μ 2 0).toNat : Nat) : Int) := by rw [e6, x2']; omega
      have q11 : x11 = μ 0 5 := by rw [e11, mm_i e9 (by omega), mm_i e7 (by omega)]; exact U0.1.2
      refine ⟨fr_l (fr_i (fr_i (fr_i fr_0 e7 (by omega)) e9 (by omega)) e12 (by omega)) e14 (by omega), (μ 2 0).toNat, 0, (μ 0 5).toNat, k, i.toNat, by omega, ⟨by omega, by omega, by omega, by omega, by omega, by unfold reaN at q2; omega⟩, ⟨?_, ?_, ?_, mv_l e14⟩, by omega, ?_, by omega, by omega⟩
      · rw [mm_lo e14, mm_i e12 (by omega), mm_i e9 (by omega), mv_i e7, q6]
      · rw [mm_lo e14, mm_i e12 (by omega), mv_i e9] <;> rfl
      · rw [mm_lo e14, mv_i e12, q11]; omega
      · rw [tv, if_pos (by omega)]
    · rw [tv, if_neg (by omega)]; rfl
theorem t_Trees_ruleIn0 {k i : Int} (hb0 : hb s h) (hc : isS c) (F : h.2.1 162 1 = 0) : con G 5 0 0 m_Trees_ruleIn [av_R (some 162), av_R (some c), av_I k, av_I i] h (fun q h' => q = some (av_I (-1)) ∧ hb s h' ∧ h' = h) := by
  refine c_Trees_ruleIn hc (X65 := fun _ _ _ => False) (fun _ _ _ _ x => x.elim) hb0 (fun _ _ => ?_)
  unfold B_Trees_ruleIn_0 B_Trees_ruleIn_28
  refine ⟨fun q1 => ⟨rfl, hb0, rfl⟩, fun q1 x1 e1 _ _ => ?_⟩
  have ex := e1.trans F
  subst ex
  exact ⟨fun q2 => ⟨rfl, hb0, rfl⟩, fun q2 => absurd (by omega) q2⟩
end
