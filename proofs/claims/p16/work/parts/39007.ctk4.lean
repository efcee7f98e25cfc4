/-! ===== the class's tokens, 4: pitches, one token, all tokens ===== -/
theorem wh_n {b z x : Int} (h0 : 65 ≤ b) (h1 : b ≤ 71) (ez : z = (b - 67) % 7) (ex : x = ([0, 2, 4, 5, 7, 9, 11] : List Int).getD z.toNat 0) : x = wh b ∧ z = sw b := by
  have hb : b = 65 ∨ b = 66 ∨ b = 67 ∨ b = 68 ∨ b = 69 ∨ b = 70 ∨ b = 71 := by omega
  rcases hb with rfl | rfl | rfl | rfl | rfl | rfl | rfl <;> (subst ez; subst ex; decide)
theorem wh_b {b : Int} : 0 ≤ wh b ∧ wh b ≤ 11 := by unfold wh; repeat' split <;> omega
theorem mk_2 {T : Nat → Int} {n p : Nat} : mk T n p ≤ 2 := by unfold mk; (repeat' split) <;> omega
abbrev QP (s : Nat) (T : Nat → Int) (n p : Nat) (h : ah_T) : Option av_T → ah_T → Prop := fun r h' => r = none ∧ hb s h' ∧ fr W3 h h' ∧ ∃ q : Nat, PitR T n p (h'.2.1 3 9) (h'.2.2.1 3 11) (h'.2.1 3 12) q ∧ (h'.2.1 3 9 ≠ 257 → h'.2.1 3 8 = (q : Int))
theorem t_Tokens_cutPitch {G : cx_T} {s : Nat} {h : ah_T} {T : Nat → Int} {n p : Nat} {b : Int} (hb0 : hb s h) (hC : CT T n h) (hp : h.2.1 3 8 = (p : Int)) (hpn : p < n) (eb : b = T p) (b0 : 65 ≤ b) (b1 : b ≤ 71) : con G 1 0 0 m_Tokens_cutPitch [av_R (some 3), av_I b] h (QP s T n p h) := by
  have hn := hC.2.2.1
  have k52 : ∀ h1 : ah_T, h1 = h → ∀ v2 v3 v4 : Int, v2 = (p : Int) + 1 + mk T n p → v3 = (mk T n p : Int) → v4 = tb T n (p + 1) → B_Tokens_cutPitch_52 G s b v2 v3 v4 h1 (QP s T n p h) := by
    rintro h1 rfl v2 v3 v4 e2 e3 e4
    have hm := mk_2 (T := T) (n := n) (p := p)
    unfold B_Tokens_cutPitch_52
    refine con_mono (t_Tokens_byteP (p := p + 1 + mk T n p) hb0 hC (by omega)) ?_
    rintro r h2 ⟨z3, rfl, hb2, rfl, ez, z3a, z3b⟩
    have bad : ¬ (48 ≤ tb T n (p + 1 + mk T n p) ∧ tb T n (p + 1 + mk T n p) ≤ 56) → B_Tokens_cutPitch_74 G s b h2 (QP s T n p h2) := by
      intro w
      unfold B_Tokens_cutPitch_74
      intro h3 e3
      exact ⟨rfl, hb_i hb2 e3, fr_i fr_0 e3 ⟨rfl, by decide⟩, 0, ⟨fun q => absurd q w, fun _ => mv_i e3⟩, fun q => absurd (mv_i e3) q⟩
    refine ⟨z3, rfl, hb2, ⟨by omega, by omega⟩, fun c => bad (by omega), fun c => ⟨fun c1 => ?_, fun c1 => bad (by omega)⟩⟩
    refine ⟨⟨by omega, by omega⟩, ?_⟩
    refine con_mono (s_JMath_floorMod (by decide) (by decide)) ?_
    rintro r h3 ⟨z8, rfl, -, ⟨z8a, z8b⟩, rfl⟩
    have z8c : 0 ≤ z8 := by omega
    refine ⟨z8, rfl, hb2, ⟨by omega, by omega⟩, ⟨by omega, by omega⟩, fun x10 e10 => ?_⟩
    obtain ⟨w1, w2⟩ := wh_n b0 b1 z8b e10
    have w3 := wh_b (b := b)
    have fin : ∀ t2 : Int, t2 = (if tb T n (p + 1) = 35 then (mk T n p : Int) else -(mk T n p : Int)) → B_Tokens_cutPitch_121 G s b v2 (z3 - 48) z8 (12 * z3 + x10 - 576) t2 h2 (QP s T n p h2) := by
      intro t2 et
      have ht : -2 ≤ t2 ∧ t2 ≤ 2 := by rw [et]; split <;> omega
      unfold B_Tokens_cutPitch_121
      refine ⟨⟨by omega, by omega⟩, fun h4 e4 => ⟨⟨by omega, by omega⟩, ⟨by omega, by omega⟩, fun h5 e5 => ⟨⟨by omega, by omega⟩, fun h6 e6 h7 e7 => ?_⟩⟩⟩
      have f4 := fr_l (W := W3) fr_0 e4 ⟨rfl, by decide⟩
      have f5 := fr_i f4 e5 ⟨rfl, by decide⟩
      have f6 := fr_i f5 e6 ⟨rfl, by decide⟩
      refine ⟨rfl, hb_i (hb_i (hb_i (hb_l hb2 e4) e5) e6) e7, fr_i f6 e7 ⟨rfl, by decide⟩, p + 2 + mk T n p, ⟨fun _ => ⟨mv_i e7, ?_, ?_, rfl⟩, fun w => absurd ⟨by omega, by omega⟩ w⟩, fun _ => ?_⟩
      · rw [mm_io e7, mm_io e6, mm_io e5, mv_l e4, et, w1, eb, ez]; omega
      · rw [mm_i e7 (by decide), mm_i e6 (by decide), mv_i e5, w2, eb, ez]
      · rw [mm_i e7 (by decide), mv_i e6]; omega
    refine ⟨⟨by omega, by omega⟩, fun c2 => ?_, fun c2 => ⟨⟨by omega, by omega⟩, ?_⟩⟩
    · rw [e3]; exact fin _ (by rw [if_pos (by omega)])
    · rw [e3]; exact fin _ (by rw [if_neg (by omega)])
  refine c_Tokens_cutPitch hb0 (fun _ => ?_)
  unfold B_Tokens_cutPitch_0
  intro x1 e1 _ _
  refine ⟨⟨by omega, by omega⟩, ?_⟩
  refine con_mono (t_Tokens_byteP (p := p + 1) hb0 hC (by omega)) ?_
  rintro r h3 ⟨z5, rfl, hb3, rfl, ez5, -, -⟩
  have k30 : z5 = 35 ∨ z5 = 98 → B_Tokens_cutPitch_30 G s b (x1 + 1) z5 h3 (QP s T n p h3) := by
    intro hz
    unfold B_Tokens_cutPitch_30 B_Tokens_cutPitch_47
    refine ⟨⟨by omega, by omega⟩, ?_⟩
    refine con_mono (t_Tokens_byteP (p := p + 2) hb3 hC (by omega)) ?_
    rintro r h4 ⟨z4, rfl, hb4, rfl, ez4, -, -⟩
    refine ⟨z4, rfl, hb4, fun c => ⟨⟨by omega, by omega⟩, ?_⟩, fun c => ⟨⟨by omega, by omega⟩, ?_⟩⟩
    · have em : mk T n p = 2 := by unfold mk; rw [if_pos (by rw [← ez5]; exact hz), if_pos (by omega)]
      exact k52 h4 rfl _ _ _ (by omega) (by omega) ez5
    · have em : mk T n p = 1 := by unfold mk; rw [if_pos (by rw [← ez5]; exact hz), if_neg (by omega)]
      exact k52 h4 rfl _ _ _ (by omega) (by omega) ez5
  refine ⟨z5, rfl, hb3, fun c => k30 (Or.inl c), fun c => ⟨fun c1 => k30 (Or.inr c1), fun c1 => ?_⟩⟩
  have em : mk T n p = 0 := by unfold mk; rw [if_neg (by rw [← ez5]; omega)]
  exact k52 h3 rfl _ _ _ (by omega) (by omega) ez5
/-- what one token writes -/
abbrev W4 (m : Nat) : Nat → Nat → Prop := fun a k => (a = 3 ∧ (k = 4 ∨ 8 ≤ k)) ∨ ((4 ≤ a ∧ a ≤ 7) ∧ k = m)
theorem W3_4 {m : Nat} : ∀ a k, W3 a k → W4 m a k := fun a k q => Or.inl ⟨q.1, Or.inr q.2⟩
abbrev QO (s : Nat) (T : Nat → Int) (n p0 m : Nat) (h : ah_T) : Option av_T → ah_T → Prop := fun r h' => ∃ z, r = some (av_I z) ∧ hb s h' ∧ fr (W4 m) h h' ∧ h'.2.1 3 4 = (m : Int) + 1 ∧ (z = 0 ∨ z = 1) ∧ (z = 1 ↔ gk (h'.2.1 4 m)) ∧
  ∃ p q : Nat, Skp T n p0 p ∧ h'.2.1 5 m = (p : Int) ∧ (p = n → h'.2.1 4 m = 256 ∧ q = n) ∧ (p < n → TokR T n p (h'.2.1 4 m) (h'.2.2.1 6 m) (h'.2.1 7 m) q ∧ h'.2.1 4 m ≠ 256) ∧ (gk (h'.2.1 4 m) → h'.2.1 3 8 = (q : Int))
theorem knm_b {x : Int} : 260 ≤ knm x ∧ knm x ≤ 266 := by unfold knm; repeat' split <;> omega
theorem Tok_256 {T : Nat → Int} {n p q : Nat} {kd v st : Int} (h : TokR T n p kd v st q) : kd ≠ 256 := by
  obtain ⟨h1, h2, h3, h4⟩ := h
  by_cases c1 : 65 ≤ T p ∧ T p ≤ 71
  · obtain ⟨q1, q2⟩ := h1 c1
    by_cases d : 48 ≤ tb T n (p + 1 + mk T n p) ∧ tb T n (p + 1 + mk T n p) ≤ 56
    · have := (q1 d).1; omega
    · have := q2 d; omega
  · by_cases c2 : isSm (T p)
    · obtain ⟨-, s1, s2⟩ := h2 c2
      by_cases c : 8 < q - p
      · have := s1 c; omega
      · have := (s2 (by omega)).1; have := knm_b (x := lvl T p (q - p)); omega
    · by_cases c3 : isDg (T p)
      · obtain ⟨-, s1, s2⟩ := h3 c3
        by_cases c : 4 < q - p
        · have := s1 c; omega
        · have := (s2 (by omega)).1; omega
      · obtain ⟨-, a2, a3⟩ := h4 c1 c2 c3
        by_cases c : isSg (T p)
        · have := a2 c; unfold isSg at c; omega
        · have := a3 c; omega
theorem t_Tokens_cutOne {G : cx_T} {s : Nat} {h : ah_T} {T : Nat → Int} {n p0 m : Nat} (hb0 : hb s h) (hC : CT T n h) (hp : h.2.1 3 8 = (p0 : Int)) (hpn : p0 ≤ n) (hm : h.2.1 3 4 = (m : Int)) (hm2 : m < 2001) : con G 8 0 0 m_Tokens_cutOne [av_R (some 3)] h (QO s T n p0 m h) := by
  have hn := hC.2.2.1
  -- behind the token: it is laid down
  have k111 : ∀ (h1 : ah_T) (p q : Nat) (v1 : Int), hb s h1 → fr W3 h h1 → Skp T n p0 p → v1 = (p : Int) → (p = n → h1.2.1 3 9 = 256 ∧ q = n) → (p < n → TokR T n p (h1.2.1 3 9) (h1.2.2.1 3 11) (h1.2.1 3 12) q) → (gk (h1.2.1 3 9) → h1.2.1 3 8 = (q : Int)) → B_Tokens_cutOne_111 G s v1 h1 (QO s T n p0 m h) := by
    intro h1 p q v1 hb1 hf hs ev w1 w2 w3
    have e4 : h1.2.1 3 4 = (m : Int) := (fr_g hf (fun q => absurd q.2 (by decide))).trans hm
    unfold B_Tokens_cutOne_111 B_Tokens_cutOne_182 B_Tokens_cutOne_206 B_Tokens_cutOne_207
    intro x1 e1 _ _
    have ex1 : x1 = (m : Int) := by omega
    subst ex1
    refine ⟨fun c => by omega, fun c x5 e5 _ _ => ⟨⟨by omega, by omega⟩, ?_⟩⟩
    rw [tn_c]
    intro h7 e7 h11 e11 x15 e15 _ _ h16 e16 x20 e20 _ _ h21 e21
    refine ⟨⟨by omega, by omega⟩, fun h25 e25 => ?_⟩
    have f7 := fr_i (fr_w hf (W3_4 (m := m))) e7 (Or.inr ⟨by decide, rfl⟩)
    have f11 := fr_i f7 e11 (Or.inr ⟨by decide, rfl⟩)
    have f16 := fr_l f11 e16 (Or.inr ⟨by decide, rfl⟩)
    have f21 := fr_i f16 e21 (Or.inr ⟨by decide, rfl⟩)
    have f25 := fr_i f21 e25 (Or.inl ⟨rfl, Or.inl rfl⟩)
    have hb25 := hb_i (hb_i (hb_l (hb_i (hb_i hb1 e7) e11) e16) e21) e25
    have c4 : h25.2.1 4 m = h1.2.1 3 9 := by rw [mm_i e25 (by simp), mm_i e21 (by simp), mm_lo e16, mm_i e11 (by simp), mv_i e7, e5]
    have c5 : h25.2.1 5 m = (p : Int) := by rw [mm_i e25 (by simp), mm_i e21 (by simp), mm_lo e16, mv_i e11, ev]
    have c6 : h25.2.2.1 6 m = h1.2.2.1 3 11 := by rw [mm_io e25, mm_io e21, mv_l e16, e15, mm_io e11, mm_io e7]
    have c7 : h25.2.1 7 m = h1.2.1 3 12 := by rw [mm_i e25 (by simp), mv_i e21, e20, mm_lo e16, mm_i e11 (by simp), mm_i e7 (by simp)]
    have c39 : h25.2.1 3 9 = h1.2.1 3 9 := by rw [mm_i e25 (by simp), mm_i e21 (by simp), mm_lo e16, mm_i e11 (by simp), mm_i e7 (by simp)]
    have c38 : h25.2.1 3 8 = h1.2.1 3 8 := by rw [mm_i e25 (by simp), mm_i e21 (by simp), mm_lo e16, mm_i e11 (by simp), mm_i e7 (by simp)]
    have c34 : h25.2.1 3 4 = (m : Int) + 1 := mv_i e25
    have tail : ∃ p q : Nat, Skp T n p0 p ∧ h25.2.1 5 m = (p : Int) ∧ (p = n → h25.2.1 4 m = 256 ∧ q = n) ∧ (p < n → TokR T n p (h25.2.1 4 m) (h25.2.2.1 6 m) (h25.2.1 7 m) q ∧ h25.2.1 4 m ≠ 256) ∧ (gk (h25.2.1 4 m) → h25.2.1 3 8 = (q : Int)) := by
      refine ⟨p, q, hs, c5, fun w => by rw [c4]; exact w1 w, fun w => ?_, fun w => by rw [c38]; exact w3 (by rw [← c4]; exact w)⟩
      rw [c4, c6, c7]
      exact ⟨w2 w, Tok_256 (w2 w)⟩
    intro y1 ey1 _ _
    have ey : y1 = h25.2.1 4 m := by rw [ey1, c39, c4]
    refine ⟨fun d => ⟨Or.inl rfl, _, rfl, hb25, f25, c34, Or.inl rfl, ⟨fun w => absurd w (by decide), fun w => absurd (ey ▸ d) w.1⟩, tail⟩, fun d => ⟨fun d1 => ⟨Or.inl rfl, _, rfl, hb25, f25, c34, Or.inl rfl, ⟨fun w => absurd w (by decide), fun w => absurd (ey ▸ d1) w.2⟩, tail⟩, fun d1 => ⟨Or.inr rfl, _, rfl, hb25, f25, c34, Or.inr rfl, ⟨fun _ => ⟨by rw [← ey]; exact d, by rw [← ey]; exact d1⟩, fun _ => rfl⟩, tail⟩⟩⟩
  refine c_Tokens_cutOne hb0 ?_
  unfold B_Tokens_cutOne_0
  refine con_mono (t_Tokens_skipBlanks hb0 hC hp hpn) ?_
  rintro r h1 ⟨rfl, hb1, f1, p, hp1, hs⟩
  refine ⟨rfl, hb1, fun x4 e4 _ _ => ?_⟩
  have hC1 := CT_3 hC f1
  refine con_mono (t_Tokens_byteP hb1 hC1 (e4.trans hp1)) ?_
  rintro r h6 ⟨z8, rfl, hb6, rfl, ez, -, -⟩
  have hpn2 := hs.1.2
  refine ⟨z8, rfl, hb6, fun c => ?_, fun c h12 e12 => ?_⟩
  · -- a token begins
    have hlt : p < n := by
      rcases Nat.lt_or_ge p n with w | w
      · exact w
      · rw [tb_out w] at ez; omega
    rw [tb_in hlt] at ez
    have hT := hC.2.2.2 p hlt
    have k52 : ¬ (65 ≤ T p ∧ T p ≤ 71) → B_Tokens_cutOne_52 G s x4 z8 h6 (QO s T n p0 m h) := by
      intro nP
      unfold B_Tokens_cutOne_52
      refine con_mono (t_Tokens_isSmall hb6) ?_
      rintro r h7 ⟨z3, rfl, hb7, rfl, z01, z02⟩
      refine ⟨z3, rfl, hb7, fun c1 => ?_, fun c1 => ?_⟩
      · have nS : ¬ isSm (T p) := by rw [← ez]; exact z02.mp c1
        refine con_mono (t_Tokens_isDigit hb7) ?_
        rintro r h8 ⟨z6, rfl, hb8, rfl, y01, y02⟩
        refine ⟨z6, rfl, hb8, fun c2 => ?_, fun c2 => ?_⟩
        · have nD : ¬ isDg (T p) := by rw [← ez]; exact y02.mp c2
          refine ⟨⟨by omega, by omega⟩, ?_⟩
          refine con_mono (t_Str_indexOf hb8 (by omega) (by omega)) ?_
          rintro r h9 ⟨z9, rfl, hb9, rfl, w9⟩
          have k98 : ∀ t1 : Int, (isSg (T p) → t1 = T p) → (¬ isSg (T p) → t1 = 257) → B_Tokens_cutOne_98 G s x4 t1 h9 (QO s T n p0 m h) := by
            intro t1 t2 t3
            unfold B_Tokens_cutOne_98
            intro h10 e10 x3 e3 _ _
            have ex3 : x3 = (p : Int) := by rw [e3, mm_i e10 (by decide)]; exact hp1
            refine ⟨⟨by omega, by omega⟩, fun h11 e11 => ?_⟩
            have m9 : h11.2.1 3 9 = t1 := by rw [mm_i e11 (by decide), mv_i e10]
            refine k111 h11 p (p + 1) x4 (hb_i (hb_i hb9 e10) e11) (fr_i (fr_i f1 e10 ⟨rfl, by decide⟩) e11 ⟨rfl, by decide⟩) hs (e4.trans hp1) (fun w => by omega) (fun _ => ?_) (fun _ => ?_)
            · rw [m9]
              exact ⟨fun w => absurd w nP, fun w => absurd w nS, fun w => absurd w nD, fun _ _ _ => ⟨rfl, t2, t3⟩⟩
            · rw [mv_i e11, ex3]; omega
          have hsg : 0 ≤ z9 ↔ isSg (T p) := by rw [← ez]; exact w9
          exact ⟨z9, rfl, hb9, fun c3 => k98 257 (fun w => absurd (hsg.mpr w) (by omega)) (fun _ => rfl), fun c3 => by rw [ez]; exact k98 (T p) (fun _ => rfl) (fun w => absurd (hsg.mp (by omega)) w)⟩
        · have yD : isDg (T p) := by rw [← ez]; exact Classical.not_not.mp (fun w => c2 (y02.mpr w))
          refine con_mono (t_Tokens_cutNumber hb8 hC1 hp1 hpn2) ?_
          rintro r h9 ⟨rfl, hb9, f9, q, q1, q2⟩
          exact ⟨rfl, hb9, k111 h9 p q x4 hb9 (fr_t f1 f9 (fun _ _ w => w)) hs (e4.trans hp1) (fun w => by omega) (fun _ => ⟨fun w => absurd w nP, fun w => absurd w nS, fun _ => q1, fun _ _ w => absurd yD w⟩) (fun _ => q2)⟩
      · have yS : isSm (T p) := by rw [← ez]; exact Classical.not_not.mp (fun w => c1 (z02.mpr w))
        refine con_mono (t_Tokens_cutName hb7 hC1 hp1 hpn2) ?_
        rintro r h9 ⟨rfl, hb9, f9, q, q1, q2⟩
        exact ⟨rfl, hb9, k111 h9 p q x4 hb9 (fr_t f1 f9 (fun _ _ w => w)) hs (e4.trans hp1) (fun w => by omega) (fun _ => ⟨fun w => absurd w nP, fun _ => q1, fun w => by unfold isSm at yS; unfold isDg at w; omega, fun _ w _ => absurd yS w⟩) (fun _ => q2)⟩
    refine ⟨fun c1 => k52 (by omega), fun c1 => ⟨fun c2 => k52 (by omega), fun c2 => ?_⟩⟩
    refine con_mono (t_Tokens_cutPitch hb6 hC1 hp1 hlt ez (by omega) (by omega)) ?_
    rintro r h9 ⟨rfl, hb9, f9, q, q1, q2⟩
    have yP : 65 ≤ T p ∧ T p ≤ 71 := ⟨by omega, by omega⟩
    exact ⟨rfl, hb9, k111 h9 p q x4 hb9 (fr_t f1 f9 (fun _ _ w => w)) hs (e4.trans hp1) (fun w => by omega) (fun _ => ⟨fun _ => q1, fun w => by unfold isSm at w; omega, fun w => by unfold isDg at w; omega, fun w => absurd yP w⟩) (fun w => q2 w.2)⟩
  · -- the end
    have hge : p = n := by
      rcases Nat.lt_or_ge p n with w | w
      · have := hC.2.2.2 p w; rw [tb_in w] at ez; omega
      · omega
    exact k111 h12 p n x4 (hb_i hb6 e12) (fr_i f1 e12 ⟨rfl, by decide⟩) hs (e4.trans hp1) (fun _ => ⟨mv_i e12, rfl⟩) (fun w => absurd w (by omega)) (fun w => absurd (mv_i e12) w.1)
