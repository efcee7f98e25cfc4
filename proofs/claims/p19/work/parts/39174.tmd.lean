/-! ===== tree, the reference ===== -/
abbrev TWb : Nat → Nat → Prop := fun a _ => 232 ≤ a ∧ a ≤ 235
def TMs (μ : pm_T) (h : ah_T) : Prop := RUm μ h ∧ TBb μ h
theorem TMs_f {μ : pm_T} {h h' : ah_T} (H : TMs μ h) (f : fr TWb h h') : TMs μ h' :=
  ⟨RUm_f H.1 f (fun a k w => by omega), fun a f' m h1 h2 h3 h4 => (fr_gl f (by omega)).trans (H.2 a f' m h1 h2 h3 h4)⟩
/-- the parts that wait, the next one first -/
def SKt : List (Nat × Nat × Nat × Int) → ah_T → Prop
  | [], _ => True
  | x :: t, h => (h.2.1 232 t.length = (x.1 : Int) ∧ h.2.1 233 t.length = (x.2.1 : Int) ∧ h.2.1 234 t.length = (x.2.2.1 : Int) ∧ h.2.2.1 235 t.length = x.2.2.2) ∧ SKt t h
theorem SKt_f {h h' : ah_T} : ∀ t : List (Nat × Nat × Nat × Int), SKt t h → (∀ j, j < t.length → h'.2.1 232 j = h.2.1 232 j ∧ h'.2.1 233 j = h.2.1 233 j ∧ h'.2.1 234 j = h.2.1 234 j ∧ h'.2.2.1 235 j = h.2.2.1 235 j) → SKt t h'
  | [], _, _ => trivial
  | x :: t, H, e => by
    obtain ⟨⟨a1, a2, a3, a4⟩, b⟩ := H
    obtain ⟨c1, c2, c3, c4⟩ := e t.length (by rw [List.length_cons]; omega)
    exact ⟨⟨c1.trans a1, c2.trans a2, c3.trans a3, c4.trans a4⟩, SKt_f t b (fun j hj => e j (by rw [List.length_cons]; omega))⟩
def SVP (μ : pm_T) (L : Nat) (st : List (Nat × Nat × Nat × Int)) : Prop := ∀ x, x ∈ st → VP μ L x.1 x.2.1 x.2.2.1 x.2.2.2
def szs : List (Nat × Nat × Nat × Int) → Nat
  | [] => 0
  | x :: t => x.2.2.1 + szs t
def mes : List (Nat × Nat × Nat × Int) → Nat
  | [] => 0
  | x :: t => (2 * x.2.2.1 - 1) + mes t
theorem szs_n {μ : pm_T} {L : Nat} : ∀ st, SVP μ L st → st.length ≤ szs st
  | [], _ => Nat.le_refl _
  | x :: t, H => by
    have ih := szs_n t (fun y hy => H y (List.mem_cons_of_mem _ hy))
    have := (H x List.mem_cons_self).1
    rw [szs, List.length_cons]
    omega
theorem byC_m {μ : pm_T} {r f n j : Nat} : ∀ k, j ≤ k → byC μ (trN μ) r f n j ≤ byC μ (trN μ) r f n k
  | 0, h => by
    obtain rfl : j = 0 := by omega
    exact Int.le_refl _
  | k + 1, h => by
    by_cases c : j = k + 1
    · subst c; exact Int.le_refl _
    · have ih := byC_m (μ := μ) (r := r) (f := f) (n := n) k (by omega : j ≤ k)
      have := Int.mul_nonneg (trN_b (μ := μ) (k + 1) f (μ 3 r).toNat).1 (trN_b (μ := μ) (n - (k + 1)) (f + (k + 1)) (μ 4 r).toNat).1
      rw [byC]
      omega
/-- the rule has been found -/
def TH (μ : pm_T) (a f n : Nat) (w : Int) (v7 v9 v10 : Int) : Prop := v9 = ((nR μ a f n w : Nat) : Int) ∧ (0 ≤ μ 4 (nR μ a f n w) → v10 = ((nC μ a f n w + 1 : Nat) : Int) ∧ v7 = nV μ a f n w)
def TI5 (μ : pm_T) (a f n : Nat) (w : Int) (l : Nat) (y4 : Int) (hh : ah_T) (v3 v4 v5 v6 v7 v9 v10 v11 v12 : Int) (h' : ah_T) : Prop := h' = hh ∧ v3 = (l : Int) ∧ y4 = v4 ∧ v5 = (f : Int) ∧ v6 = (n : Int) ∧ ((v11 = 0 ∧ ∃ q : Nat, v12 = (q : Int) ∧ (q : Int) ≤ μ 0 4 ∧ (∀ j, 1 ≤ j → j ≤ q → ¬ w < suR μ (trN μ) a f n j) ∧ v7 = w - suR μ (trN μ) a f n q) ∨ (v11 = 1 ∧ (0 ≤ v12 ∧ v12 ≤ 24) ∧ TH μ a f n w v7 v9 v10))
def TI6 (μ : pm_T) (a f n : Nat) (w : Int) (l : Nat) (y4 : Int) (hh : ah_T) (q : Nat) (v3 v4 v5 v6 v7 v9 v10 v11 v12 v13 v14 : Int) (h' : ah_T) : Prop := h' = hh ∧ v3 = (l : Int) ∧ y4 = v4 ∧ v5 = (f : Int) ∧ v6 = (n : Int) ∧ v12 = (q : Int) ∧ ∃ c : Nat, v14 = ((c + 1 : Nat) : Int) ∧ c ≤ 13 ∧ (μ 2 q).toNat = a ∧ ((v11 = 0 ∧ ((0 ≤ μ 4 q ∧ v13 = (n : Int) - 1 ∧ c ≤ n - 1 ∧ (∀ j, 1 ≤ j → j ≤ c → ¬ w - suR μ (trN μ) a f n q < byC μ (trN μ) q f n j) ∧ v7 = w - suR μ (trN μ) a f n q - byC μ (trN μ) q f n c) ∨ (μ 4 q < 0 ∧ v13 = 1 ∧ ((c = 0 ∧ v7 = w - suR μ (trN μ) a f n q) ∨ (c = 1 ∧ v7 = w - suR μ (trN μ) a f n q - byR μ (trN μ) q f n ∧ ¬ w - suR μ (trN μ) a f n q < byR μ (trN μ) q f n))))) ∨ (v11 = 1 ∧ (v13 ≤ 12) ∧ TH μ a f n w v7 v9 v10))
def TI2 (μ : pm_T) (k i : Int) (h : ah_T) (M : Nat) (v3 v4 : Int) (hh : ah_T) : Prop := i ≤ 2147483647 ∧ fr TWb h hh ∧ ∃ (st : List (Nat × Nat × Nat × Int)) (j : Nat), v3 = (st.length : Int) ∧ i = v4 + (j : Int) ∧ 0 ≤ v4 ∧ SKt st hh ∧ SVP μ (μ 0 5).toNat st ∧ szs st ≤ (μ 0 5).toNat ∧ stI μ st j = trv μ k i ∧ mes st < M
section
variable {G : cx_T} {s : Nat} {h : ah_T} {μ : pm_T}
theorem t_MD_tree {k i : Int} (hb0 : hb s h) (T : TMs μ h) (N : NMg μ) (h4 : 1 ≤ μ 0 4) (h5 : 1 ≤ μ 0 5) (F : h.2.1 170 98 = reaN μ) : con G 2 0 0 m_MD_tree [av_R (some 170), av_I k, av_I i] h (fun q h' => q = some (av_I (trv μ k i)) ∧ hb s h' ∧ fr TWb h h') := by
  have U0 := T.1
  have k24 := U0.2.1.1.2
  have l12 := U0.2.1.2
  have nb0 := (N.1 0 (by omega)).1
  have key : ∀ (M : Nat) (v3 v4 : Int) (hh : ah_T), hb s hh → TI2 μ k i h M v3 v4 hh → aw G (rm_R 2 0 0) m_MD_tree 0 0 62 [some (av_R (some 170)), none, some (av_I i), some (av_I v3), some (av_I v4), none, none, none, none, none, none, none, none, none, none, none, none] [] hh (fun q h' => q = some (av_I (trv μ k i)) ∧ hb s h' ∧ fr TWb h h') := by
    intro M
    induction M with
    | zero => rintro v3 v4 hh _ ⟨-, -, st, j, -, -, -, -, -, -, -, q⟩; omega
    | succ M ih =>
      rintro v3 v4 hh hbh ⟨i32, fw, st, j, rfl, ei, l4, SK, SV, sz, ans, ms⟩
      cases st with
      | nil =>
        refine b_MD_tree_62 (a1 := k) (X105 := fun _ _ _ _ _ _ _ _ _ _ => False) (fun _ _ _ _ _ _ _ _ _ _ _ x => x.elim) hbh ?_
        unfold B_MD_tree_62
        refine ⟨fun _ => ⟨?_, hbh, fw⟩, fun q => absurd (Int.le_refl 0) q⟩
        rw [← ans]; rfl
      | cons x t =>
        obtain ⟨a, f, n, w⟩ := x
        have V : VP μ (μ 0 5).toNat a f n w := SV _ List.mem_cons_self
        have Vt : SVP μ (μ 0 5).toNat t := fun y hy => SV y (List.mem_cons_of_mem _ hy)
        have ln := szs_n t Vt
        obtain ⟨⟨s1, s2, s3, s4⟩, SKx⟩ := SK
        dsimp only at s1 s2 s3 s4
        have sz' : n + szs t ≤ (μ 0 5).toNat := sz
        have ms' : (2 * n - 1) + mes t < M + 1 := ms
        obtain ⟨U, TB⟩ := TMs_f T fw
        obtain ⟨v1, v2, -, v15, w0, w1⟩ := id V
        have w6 := VP_w V
        have u := VP_u V
        obtain ⟨r1, rnm, nw0, -⟩ := VP_r V
        have nbR := N.1 _ r1
        have S0 : ∀ q, (∀ j, 1 ≤ j → j ≤ q → ¬ w < suR μ (trN μ) a f n j) → suR μ (trN μ) a f n q ≤ w := fun q no => by
          by_cases z : q = 0
          · subst z; exact w0
          · have := no q (by omega) (Nat.le_refl _); omega
        have s0 : ∀ q, 0 ≤ suR μ (trN μ) a f n q := fun q => suR_0 trN_b q
        have at_ : ∀ q : Nat, (q : Int) < μ 0 4 → (∀ j, 1 ≤ j → j ≤ q → ¬ w < suR μ (trN μ) a f n j) → w < suR μ (trN μ) a f n (q + 1) → nR μ a f n w = q := fun q hq no hw => pkF_at (by omega) hw no
        have fin : ∀ (v7 v9 v10 : Int), TH μ a f n w v7 v9 v10 → B_MD_tree_230 G s k i (t.length : Int) v4 (f : Int) (n : Int) v7 v9 v10 hh (fun q h' => q = some (av_I (trv μ k i)) ∧ hb s h' ∧ fr TWb h h') (TI2 μ k i h M) := by
          rintro v7 v9 v10 ⟨rfl, hv⟩
          unfold B_MD_tree_230 B_MD_tree_372
          refine ⟨fun q => ⟨?_, hbh, fw⟩, fun q => ?_⟩
          · obtain rfl : j = 0 := by omega
            rw [← ans, stI_0 v1]
          · obtain ⟨j, rfl⟩ : ∃ j', j = j' + 1 := ⟨j - 1, by omega⟩
            have x4' := (U.2.2.1 _ r1).2.2
            rw [tn_c]
            refine ⟨⟨by omega, by omega⟩, by omega, fun x3 e3 _ _ => ?_⟩
            have q3 := e3.trans x4'
            refine ⟨fun c => ?_, fun c => ?_⟩
            · have hl : μ 4 (nR μ a f n w) < 0 := nz_n.mp (by omega)
              have n1 := VP_leaf V hl
              rw [stI_l V hl] at ans
              exact ⟨i32, fw, t, j, rfl, by omega, by omega, SKx, Vt, by omega, ans, by omega⟩
            · have hl : 0 ≤ μ 4 (nR μ a f n w) := by
                rcases Int.lt_or_le (μ 4 (nR μ a f n w)) 0 with x | x
                · have := nz_n.mpr x; omega
                · exact x
              obtain ⟨rfl, rfl⟩ := hv hl
              obtain ⟨c1, V0, -, g1, VL, VR⟩ := VP_node N V hl
              rw [stI_n N V hl] at ans
              rw [nz_p hl] at q3 x4'
              have ex : x3 = (((μ 4 (nR μ a f n w)).toNat : Nat) : Int) := by omega
              subst ex
              have x3' := (U.2.2.1 _ r1).2.1
              refine ⟨⟨by omega, by omega⟩, ⟨by omega, by omega⟩, ?_⟩
              rw [show (f : Int) + ((nC μ a f n w + 1 : Nat) : Int) = ((f + (nC μ a f n w + 1) : Nat) : Int) by omega, show (n : Int) - ((nC μ a f n w + 1 : Nat) : Int) = ((n - (nC μ a f n w + 1) : Nat) : Int) by omega]
              refine con_mono (m_treeAt hbh (by omega) (by omega) (by omega)) ?_
              rintro r h10 ⟨rfl, hb10, rfl⟩
              have ib : ixT (μ 4 (nR μ a f n w)).toNat (f + (nC μ a f n w + 1)) (n - (nC μ a f n w + 1)) < 2704 := by unfold ixT; omega
              refine ⟨_, rfl, hb10, by omega, fun x13 e13 _ _ x17 e17 _ _ => ?_⟩
              rw [tn_c] at e13
              have q13 : x13 = nG μ a f n w := e13.trans (TB (μ 4 (nR μ a f n w)).toNat (f + (nC μ a f n w + 1)) (n - (nC μ a f n w + 1)) (by omega) (by omega) (by omega) (Or.inl (by omega)))
              have q17 : x17 = (((μ 4 (nR μ a f n w)).toNat : Nat) : Int) := by rw [e17, x4']; omega
              rw [tn_c, show ((t.length : Int) + 1).toNat = t.length + 1 by omega]
              refine ⟨by omega, fun h19 e19 h22 e22 h25 e25 => ⟨by omega, fun x28 e28 _ _ h29 e29 => ⟨⟨by omega, by omega⟩, fun x34 e34 _ _ => ⟨by omega, fun h36 e36 h39 e39 h42 e42 => ⟨by omega, fun x45 e45 _ _ h46 e46 => ⟨⟨by omega, by omega⟩, ?_⟩⟩⟩⟩⟩⟩
              have q28 : x28 = nV μ a f n w % nG μ a f n w := by rw [e28, q13, Int.tmod_eq_emod_of_nonneg V0]
              have q45 : x45 = nV μ a f n w / nG μ a f n w := by rw [e45, q13, w64_d V0 (by have := VP_x V; omega) g1]
              have q34 : x34 = (((μ 3 (nR μ a f n w)).toNat : Nat) : Int) := by
                rw [e34, mm_lo e29, mm_i e25 (by omega), mm_i e22 (by omega), mm_i e19 (by omega), x3']; omega
              have kp : ∀ b j', 232 ≤ b → b ≤ 234 → j' < t.length → h46.2.1 b j' = h10.2.1 b j' := fun b j' b1 b2 hj => by
                rw [mm_lo e46, mm_i e42 (by omega), mm_i e39 (by omega), mm_i e36 (by omega), mm_lo e29, mm_i e25 (by omega), mm_i e22 (by omega), mm_i e19 (by omega)]
              have kl : ∀ j', j' < t.length → h46.2.2.1 235 j' = h10.2.2.1 235 j' := fun j' hj => by
                rw [mm_l e46 (by omega), mm_io e42, mm_io e39, mm_io e36, mm_l e29 (by omega), mm_io e25, mm_io e22, mm_io e19]
              refine ⟨i32, fr_l (fr_i (fr_i (fr_i (fr_l (fr_i (fr_i (fr_i fw e19 (by omega)) e22 (by omega)) e25 (by omega)) e29 (by omega)) e36 (by omega)) e39 (by omega)) e42 (by omega)) e46 (by omega), ((μ 3 (nR μ a f n w)).toNat, f, nC μ a f n w + 1, nV μ a f n w / nG μ a f n w) :: ((μ 4 (nR μ a f n w)).toNat, f + (nC μ a f n w + 1), n - (nC μ a f n w + 1), nV μ a f n w % nG μ a f n w) :: t, j, ?_, by omega, by omega, ⟨⟨?_, ?_, ?_, ?_⟩, ⟨?_, ?_, ?_, ?_⟩, SKt_f t SKx (fun j' hj => ⟨kp 232 j' (by decide) (by decide) hj, kp 233 j' (by decide) (by decide) hj, kp 234 j' (by decide) (by decide) hj, kl j' hj⟩)⟩, ?_, ?_, ans, ?_⟩
              · rw [List.length_cons, List.length_cons]; omega
              · show h46.2.1 232 (t.length + 1) = _
                rw [mm_lo e46, mm_i e42 (by omega), mm_i e39 (by omega), mv_i e36]; exact q34
              · show h46.2.1 233 (t.length + 1) = _
                rw [mm_lo e46, mm_i e42 (by omega), mv_i e39] <;> rfl
              · show h46.2.1 234 (t.length + 1) = _
                rw [mm_lo e46, mv_i e42] <;> rfl
              · show h46.2.2.1 235 (t.length + 1) = _
                rw [mv_l e46]; exact q45
              · show h46.2.1 232 t.length = _
                rw [mm_lo e46, mm_i e42 (by omega), mm_i e39 (by omega), mm_i e36 (by omega), mm_lo e29, mm_i e25 (by omega), mm_i e22 (by omega), mv_i e19]; exact q17
              · show h46.2.1 233 t.length = _
                rw [mm_lo e46, mm_i e42 (by omega), mm_i e39 (by omega), mm_i e36 (by omega), mm_lo e29, mm_i e25 (by omega), mv_i e22] <;> rfl
              · show h46.2.1 234 t.length = _
                rw [mm_lo e46, mm_i e42 (by omega), mm_i e39 (by omega), mm_i e36 (by omega), mm_lo e29, mv_i e25] <;> rfl
              · show h46.2.2.1 235 t.length = _
                rw [mm_l e46 (by omega), mm_io e42, mm_io e39, mm_io e36, mv_l e29]; exact q28
              · intro y hy
                rcases List.mem_cons.mp hy with rfl | hy
                · exact VL
                · rcases List.mem_cons.mp hy with rfl | hy
                  · exact VR
                  · exact Vt y hy
              · show nC μ a f n w + 1 + (n - (nC μ a f n w + 1) + szs t) ≤ _
                omega
              · show 2 * (nC μ a f n w + 1) - 1 + (2 * (n - (nC μ a f n w + 1)) - 1 + mes t) < M
                omega
        have key2 : ∀ (M2 : Nat) (v3 y4 v5 v6 v7 v9 v10 v11 v12 : Int) (h' : ah_T), hb s h' → TI5 μ a f n w t.length v4 hh v3 y4 v5 v6 v7 v9 v10 v11 v12 h' → (30 - v12).toNat < M2 → aw G (rm_R 2 0 0) m_MD_tree 0 0 105 [some (av_R (some 170)), none, some (av_I i), some (av_I v3), some (av_I y4), some (av_I v5), some (av_I v6), some (av_L v7), none, some (av_I v9), some (av_I v10), some (av_I v11), some (av_I v12), none, none, none, none] [] h' (fun q h' => q = some (av_I (trv μ k i)) ∧ hb s h' ∧ fr TWb h h') := by
          intro M2
          induction M2 with
          | zero => intro v3 y4 v5 v6 v7 v9 v10 v11 v12 h' _ _ q; omega
          | succ M2 ih2 =>
            rintro v3 y4 v5 v6 v7 v9 v10 v11 v12 h' hb' ⟨rfl, rfl, rfl, rfl, rfl, ⟨rfl, q, rfl, hq, no, rfl⟩ | ⟨rfl, ⟨b0, b1⟩, th⟩⟩ hM2
            · have in163 : ∀ (v3 y4 v5 v6 v7 v9 v10 v11 v12 v13 v14 : Int) (h2 : ah_T), hb s h2 → ((q : Int) < μ 0 4 ∧ TI6 μ a f n w t.length v4 h' q v3 y4 v5 v6 v7 v9 v10 v11 v12 v13 v14 h2) → aw G (rm_R 2 0 0) m_MD_tree 0 0 163 [some (av_R (some 170)), none, some (av_I i), some (av_I v3), some (av_I y4), some (av_I v5), some (av_I v6), some (av_L v7), none, some (av_I v9), some (av_I v10), some (av_I v11), some (av_I v12), some (av_I v13), some (av_I v14), none, none] [] h2 (fun q h' => q = some (av_I (trv μ k i)) ∧ hb s h' ∧ fr TWb h h') := by
                refine lp_MD_tree_163 (a1 := k) (X105 := fun v3 y4 v5 v6 v7 v9 v10 v11 v12 h2 => TI5 μ a f n w t.length v4 h' v3 y4 v5 v6 v7 v9 v10 v11 v12 h2 ∧ (q : Int) < v12) (fun v3 y4 v5 v6 v7 v9 v10 v11 v12 h2 hb2 x => ih2 v3 y4 v5 v6 v7 v9 v10 v11 v12 h2 hb2 x.1 (by have := x.2; omega)) _ (fun _ _ _ _ _ _ _ _ _ _ v14 _ => (20 - v14).toNat) ?_
                rintro v3 y4 v5 v6 v7 v9 v10 v11 v12 v13 v14 h2 hb2 ⟨hqK, rfl, rfl, rfl, rfl, rfl, rfl, c, rfl, hc13, hnm, st⟩
                have ss := suR_m (μ := μ) (a := a) (f := f) (n := n) (r := q)
                rw [if_pos hnm] at ss
                have sq := S0 q no
                have bR := byR_b (μ := μ) (tb := trN μ) trN_b (r := q) (f := f) (n := n) (by omega)
                have sp := s0 q
                unfold B_MD_tree_163 B_MD_tree_224 B_MD_tree_218
                refine ⟨fun c1 => ⟨⟨by omega, by omega⟩, ⟨rfl, rfl, rfl, rfl, rfl, ?_⟩, by omega⟩, fun c1 => ⟨fun c2 => ?_, fun c2 => ⟨⟨by omega, by omega⟩, ⟨rfl, rfl, rfl, rfl, rfl, ?_⟩, by omega⟩⟩⟩
                · rcases st with ⟨h0, st⟩ | ⟨h1, -, th⟩
                  · have kk : ¬ w < suR μ (trN μ) a f n (q + 1) ∧ v7 = w - suR μ (trN μ) a f n (q + 1) := by
                      rw [ss]
                      rcases st with ⟨p4, rfl, hcn, no2, rfl⟩ | ⟨p4, rfl, ⟨cz, -⟩ | ⟨-, rfl, nn⟩⟩
                      · have ec : c = n - 1 := by omega
                        have eb : byR μ (trN μ) q f n = byC μ (trN μ) q f n (n - 1) := by unfold byR; rw [if_neg (by omega)]
                        rw [eb, ec]
                        refine ⟨?_, by omega⟩
                        by_cases z : n - 1 = 0
                        · rw [z]
                          show ¬ w < suR μ (trN μ) a f n q + 0
                          omega
                        · have := no2 (n - 1) (by omega) (by omega)
                          omega
                      · omega
                      · exact ⟨by omega, by omega⟩
                    refine Or.inl ⟨h0, q + 1, by omega, by omega, fun j h1 h2 => ?_, kk.2⟩
                    by_cases x : j = q + 1
                    · rw [x]; exact kk.1
                    · exact no j h1 (by omega)
                  · exact Or.inr ⟨h1, ⟨by omega, by omega⟩, th⟩
                · rcases st with ⟨h0, ⟨p4, rfl, hcn, no2, rfl⟩ | ⟨p4, rfl, hc⟩⟩ | ⟨h1, -⟩
                  · refine con_mono (m_byRule (r := q) (f := f) (n := n) (l := c + 1) (L := (μ 0 5).toNat) hb2 U N (by omega) hqK v1 v2 (fun _ => ⟨by omega, by omega⟩) (fun a' f' m h1 h2 h3 h5 => TB a' f' m h1 h2 h3 (Or.inl (by omega)))) ?_
                    rintro q2 h1 ⟨rfl, hb1, rfl⟩
                    rw [if_neg (by omega)]
                    have e : byC μ (trN μ) q f n (c + 1) = byC μ (trN μ) q f n c + trN μ (c + 1) f (μ 3 q).toNat * trN μ (n - (c + 1)) (f + (c + 1)) (μ 4 q).toNat := rfl
                    have q0 := Int.mul_nonneg (trN_b (μ := μ) (c + 1) f (μ 3 q).toNat).1 (trN_b (μ := μ) (n - (c + 1)) (f + (c + 1)) (μ 4 q).toNat).1
                    have bc := (byC_b (μ := μ) (tb := trN μ) trN_b (r := q) (f := f) (n := n) c).1
                    generalize trN μ (c + 1) f (μ 3 q).toNat * trN μ (n - (c + 1)) (f + (c + 1)) (μ 4 q).toNat = p at e q0 ⊢
                    have cp : cap p ≤ 1000000 → cap p = p := by unfold cap; split <;> omega
                    have cl : cap p ≤ p := tcap_le
                    have c0 := cap_b q0
                    refine ⟨_, rfl, hb1, fun c3 => ⟨⟨by omega, by omega⟩, ⟨by omega, by omega⟩, ⟨hqK, rfl, rfl, rfl, rfl, rfl, rfl, c + 1, by omega, by omega, hnm, Or.inl ⟨h0, Or.inl ⟨p4, rfl, by omega, fun j h1 h2 => ?_, ?_⟩⟩⟩, by omega⟩, fun c3 => ⟨⟨by omega, by omega⟩, ⟨hqK, rfl, rfl, rfl, rfl, rfl, rfl, c + 1, by omega, by omega, hnm, Or.inr ⟨rfl, by omega, ?_⟩⟩, by omega⟩⟩
                    · have := cp (by omega)
                      by_cases x : j = c + 1
                      · rw [x, e]; omega
                      · exact no2 j h1 (by omega)
                    · have := cp (by omega)
                      rw [e]; omega
                    · have eb : byR μ (trN μ) q f n = byC μ (trN μ) q f n (n - 1) := by unfold byR; rw [if_neg (by omega)]
                      have mo := byC_m (μ := μ) (r := q) (f := f) (n := n) (n - 1) (by omega : c + 1 ≤ n - 1)
                      have eR : nR μ a f n w = q := at_ q hqK no (by rw [ss, eb]; omega)
                      have eW : nW μ a f n w = w - suR μ (trN μ) a f n q := by unfold nW; rw [eR]
                      have eC : nC μ a f n w = c := by
                        unfold nC
                        rw [eR, eW]
                        exact pkF_at (by omega) (by rw [e]; omega) no2
                      have eV : nV μ a f n w = w - suR μ (trN μ) a f n q - byC μ (trN μ) q f n c := by unfold nV; rw [eW, eC, eR]
                      exact ⟨by rw [eR], fun _ => ⟨by rw [eC], eV.symm⟩⟩
                  · rcases hc with ⟨rfl, rfl⟩ | ⟨rfl, -⟩
                    · refine con_mono (m_byRule (r := q) (f := f) (n := n) (l := 0 + 1) (L := (μ 0 5).toNat) hb2 U N (by omega) hqK v1 v2 (fun _ => by omega) (fun a' f' m h1 h2 h3 h5 => TB a' f' m h1 h2 h3 (Or.inl (by omega)))) ?_
                      rintro q2 h1 ⟨rfl, hb1, rfl⟩
                      have e : byR μ (trN μ) q f n = if n = 1 ∧ μ 5 f = μ 3 q then 1 else 0 := by unfold byR; rw [if_pos p4]
                      rw [if_pos p4, ← e]
                      refine ⟨_, rfl, hb1, fun c3 => ⟨⟨by omega, by omega⟩, ⟨by omega, by omega⟩, ⟨hqK, rfl, rfl, rfl, rfl, rfl, rfl, 1, by omega, by omega, hnm, Or.inl ⟨h0, Or.inr ⟨p4, rfl, Or.inr ⟨rfl, rfl, by omega⟩⟩⟩⟩, by omega⟩, fun c3 => ⟨⟨by omega, by omega⟩, ⟨hqK, rfl, rfl, rfl, rfl, rfl, rfl, 1, by omega, by omega, hnm, Or.inr ⟨rfl, by omega, ?_⟩⟩, by omega⟩⟩
                      have eR : nR μ a f n w = q := at_ q hqK no (by rw [ss]; omega)
                      exact ⟨by rw [eR], fun x => absurd p4 (by rw [eR] at x; omega)⟩
                    · omega
                  · omega
                · rcases st with ⟨h0, -⟩ | ⟨h1, -, th⟩
                  · exact absurd h0 c2
                  · exact Or.inr ⟨h1, ⟨by omega, by omega⟩, th⟩
              refine b_MD_tree_105 (a1 := k) (X62 := TI2 μ k i h M) (X105 := fun v3 y4 v5 v6 v7 v9 v10 v11 v12 h2 => TI5 μ a f n w t.length v4 h' v3 y4 v5 v6 v7 v9 v10 v11 v12 h2 ∧ (q : Int) < v12) ih (fun v3 y4 v5 v6 v7 v9 v10 v11 v12 h2 hb2 x => ih2 v3 y4 v5 v6 v7 v9 v10 v11 v12 h2 hb2 x.1 (by have := x.2; omega)) in163 hb' ?_
              unfold B_MD_tree_105 B_MD_tree_158 B_MD_tree_224
              intro x2 e2 _ _
              have ex := e2.trans U.1.1
              subst ex
              refine ⟨fun c1 => absurd u (no _ (by omega) (by omega)), fun c1 => ⟨fun _ => ?_, fun c2 => absurd rfl c2⟩⟩
              have hqK : (q : Int) < μ 0 4 := by omega
              obtain ⟨y2, y3, y4⟩ := U.2.2.1 q hqK
              have nbq := N.1 q hqK
              rw [tn_c]
              refine ⟨by omega, fun x4 e4 _ _ => ?_⟩
              have ex := e4.trans y2
              subst ex
              rw [tn_c]
              refine ⟨by omega, fun x7 e7 _ _ => ?_⟩
              have ex := e7.trans s1
              subst ex
              refine ⟨fun c2 x10 e10 _ _ => ?_, fun c2 => ?_⟩
              · have q10 := e10.trans y4
                refine ⟨fun c3 => ⟨⟨by omega, by omega⟩, ?_⟩, fun c3 => ?_⟩
                · have hl : 0 ≤ μ 4 q := by
                    rcases Int.lt_or_le (μ 4 q) 0 with x | x
                    · have := nz_n.mpr x; omega
                    · exact x
                  exact ⟨hqK, rfl, rfl, rfl, rfl, rfl, rfl, 0, rfl, by omega, by omega, Or.inl ⟨rfl, Or.inl ⟨hl, rfl, by omega, fun j h1 h2 => by omega, by show _ = w - suR μ (trN μ) a f n q - 0; omega⟩⟩⟩
                · have hl : μ 4 q < 0 := nz_n.mp (by omega)
                  exact ⟨hqK, rfl, rfl, rfl, rfl, rfl, rfl, 0, rfl, by omega, by omega, Or.inl ⟨rfl, Or.inr ⟨hl, rfl, Or.inl ⟨rfl, rfl⟩⟩⟩⟩
              · have ss := suR_m (μ := μ) (a := a) (f := f) (n := n) (r := q)
                rw [if_neg (fun x => c2 (by omega)), Int.add_zero] at ss
                refine ⟨⟨by omega, by omega⟩, ⟨rfl, rfl, rfl, rfl, rfl, Or.inl ⟨rfl, q + 1, by omega, by omega, fun j h1 h2 => ?_, by rw [ss]⟩⟩, by omega⟩
                by_cases x : j = q + 1
                · rw [x, ss]
                  have := S0 q no
                  omega
                · exact no j h1 (by omega)
            · refine b_MD_tree_105 (a1 := k) (X62 := TI2 μ k i h M) (X105 := fun _ _ _ _ _ _ _ _ _ _ => False) (X163 := fun _ _ _ _ _ _ _ _ _ _ _ _ => False) ih (fun _ _ _ _ _ _ _ _ _ _ _ x => x.elim) (fun _ _ _ _ _ _ _ _ _ _ _ _ _ x => x.elim) hb' ?_
              unfold B_MD_tree_105
              intro x2 e2 _ _
              exact ⟨fun _ => fin _ _ _ th, fun _ => ⟨fun c => absurd c (by decide), fun _ => fin _ _ _ th⟩⟩
        have ev : (((a, f, n, w) :: t).length : Int) - 1 = (t.length : Int) := by rw [List.length_cons]; omega
        refine b_MD_tree_62 (a1 := k) (X105 := TI5 μ a f n w t.length v4 hh) (fun v3 y4 v5 v6 v7 v9 v10 v11 v12 h' hb' x => key2 _ v3 y4 v5 v6 v7 v9 v10 v11 v12 h' hb' x (Nat.lt_succ_self _)) hbh ?_
        unfold B_MD_tree_62
        rw [ev, tn_c]
        refine ⟨fun q => absurd q (by rw [List.length_cons]; omega), fun _ => ⟨⟨by omega, by omega⟩, by omega, fun x3 e3 _ _ x6 e6 _ _ x8 e8 _ _ => ?_⟩⟩
        exact ⟨rfl, rfl, rfl, e3.trans s2, e6.trans s3, Or.inl ⟨rfl, 0, rfl, by omega, fun j h1 h2 => by omega, by rw [e8, s4]; show w = w - 0; omega⟩⟩
  have bad : (k < 0 ∨ reaN μ ≤ k ∨ i < 0) → trv μ k i = -1 := fun x => by unfold trv; rw [if_pos x]
  refine c_MD_tree (X62 := TI2 μ k i h (2 * (μ 0 5).toNat)) (key _) hb0 (fun _ i2 => ?_)
  unfold i32 at i2
  unfold B_MD_tree_0 B_MD_tree_16
  refine ⟨fun q1 => ⟨by rw [bad (Or.inl q1)], hb0, fr_0⟩, fun q1 x1 e1 _ _ => ?_⟩
  have ex := e1.trans F
  subst ex
  refine ⟨fun q2 => ⟨by rw [bad (Or.inr (Or.inl q2))], hb0, fr_0⟩, fun q2 => ⟨fun q3 x4 e4 _ _ h5 e5 h8 e8 x12 e12 _ _ h13 e13 h16 e16 => ?_, fun q3 => ⟨by rw [bad (Or.inr (Or.inr (by omega)))], hb0, fr_0⟩⟩⟩
  have q4 : x4 = (((μ 2 0).toNat : Nat) : Int) := by rw [e4, (U0.2.2.1 0 (by omega)).1]; omega
  have q12 : x12 = μ 0 5 := by rw [e12, mm_i e8 (by omega), mm_i e5 (by omega)]; exact U0.1.2
  refine ⟨by omega, fr_l (fr_i (fr_i (fr_i fr_0 e5 (by omega)) e8 (by omega)) e13 (by omega)) e16 (by omega), [((μ 2 0).toNat, 0, (μ 0 5).toNat, k)], i.toNat, rfl, by omega, Int.le_refl _, ⟨⟨?_, ?_, ?_, ?_⟩, trivial⟩, fun y hy => ?_, ?_, ?_, ?_⟩
  · show h16.2.1 232 0 = _
    rw [mm_lo e16, mm_i e13 (by omega), mm_i e8 (by omega), mv_i e5]; exact q4
  · show h16.2.1 233 0 = _
    rw [mm_lo e16, mm_i e13 (by omega), mv_i e8] <;> rfl
  · show h16.2.1 234 0 = _
    rw [mm_lo e16, mv_i e13, q12]
    show μ 0 5 = (((μ 0 5).toNat : Nat) : Int)
    omega
  · show h16.2.2.1 235 0 = _
    rw [mv_l e16]
  · rcases List.mem_cons.mp hy with rfl | hy
    · exact ⟨by show 1 ≤ (μ 0 5).toNat; omega, by show 0 + (μ 0 5).toNat ≤ _; omega, by omega, by show (μ 2 0).toNat ≤ 15; omega, by show 0 ≤ k; omega, by show k < trN μ (μ 0 5).toNat 0 (μ 2 0).toNat; unfold reaN at q2; omega⟩
    · cases hy
  · show (μ 0 5).toNat + 0 ≤ _
    omega
  · unfold trv
    rw [if_neg (by omega)]
  · show 2 * (μ 0 5).toNat - 1 + 0 < _
    omega
end
