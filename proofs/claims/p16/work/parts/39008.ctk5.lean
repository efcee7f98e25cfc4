/-! ===== the class's tokens, 5: all tokens; the next one ===== -/
/-- the class stands at token i of the table's m -/
def RCt (t : tk_T) (m i : Nat) (h : ah_T) : Prop := h.2.1 3 4 = (m : Int) ∧ h.2.1 3 5 = (i : Int) ∧ i < m ∧ m ≤ 2001 ∧ (∀ j, j < m → h.2.1 4 j = tK t j ∧ h.2.1 5 j = tP t j ∧ h.2.2.1 6 j = tV' t j ∧ h.2.1 7 j = tS t j) ∧ h.2.1 3 9 = tK t i ∧ h.2.1 3 10 = tP t i ∧ h.2.2.1 3 11 = tV' t i ∧ h.2.1 3 12 = tS t i
abbrev WN : Nat → Nat → Prop := fun a k => a = 3 ∧ (k = 5 ∨ 9 ≤ k)
theorem RCt_f {t : tk_T} {m i : Nat} {W : Nat → Nat → Prop} {h h' : ah_T} (H : RCt t m i h) (f : fr W h h') (hW : ∀ a k, W a k → a < 3 ∨ 7 < a) : RCt t m i h' := by
  have g : ∀ a k, 3 ≤ a → a ≤ 7 → h'.2.1 a k = h.2.1 a k := fun a k h1 h2 => fr_g f (fun q => by have := hW a k q; omega)
  have gl : ∀ a k, 3 ≤ a → a ≤ 7 → h'.2.2.1 a k = h.2.2.1 a k := fun a k h1 h2 => fr_gl f (fun q => by have := hW a k q; omega)
  obtain ⟨r1, r2, r3, r4, r5, r6, r7, r8, r9⟩ := H
  refine ⟨(g _ _ (by decide) (by decide)).trans r1, (g _ _ (by decide) (by decide)).trans r2, r3, r4, fun j hj => ?_, (g _ _ (by decide) (by decide)).trans r6, (g _ _ (by decide) (by decide)).trans r7, (gl _ _ (by decide) (by decide)).trans r8, (g _ _ (by decide) (by decide)).trans r9⟩
  rw [g _ _ (by decide) (by decide), g _ _ (by decide) (by decide), gl _ _ (by decide) (by decide), g _ _ (by decide) (by decide)]
  exact r5 j hj
/-- from before token i to it -/
theorem t_Tokens_next0 {G : cx_T} {s : Nat} {h : ah_T} {t : tk_T} {m i : Nat} (hb0 : hb s h) (hm : h.2.1 3 4 = (m : Int)) (hi : h.2.1 3 5 = (i : Int) - 1) (him : i < m) (hm2 : m ≤ 2001) (ha : ∀ j, j < m → h.2.1 4 j = tK t j ∧ h.2.1 5 j = tP t j ∧ h.2.2.1 6 j = tV' t j ∧ h.2.1 7 j = tS t j) : con G 0 0 0 m_Tokens_next [av_R (some 3)] h (fun r h' => r = none ∧ hb s h' ∧ fr WN h h' ∧ RCt t m i h') := by
  refine c_Tokens_next hb0 ?_
  unfold B_Tokens_next_0 B_Tokens_next_89
  intro x1 e1 _ _
  refine ⟨⟨by omega, by omega⟩, fun x3 e3 _ _ => ⟨fun c => by omega, fun c => ⟨fun c1 => by omega, fun c1 h7 e7 => ⟨⟨by omega, by omega⟩, ?_⟩⟩⟩⟩
  have ei : (x1 + 1).toNat = i := by omega
  rw [ei]
  intro x11 e11 _ _ h13 e13 x17 e17 _ _ h18 e18 x22 e22 _ _ h23 e23 x27 e27 _ _ h28 e28
  obtain ⟨a1, a2, a3, a4⟩ := ha i him
  have f7 := fr_i (W := WN) fr_0 e7 ⟨rfl, Or.inl rfl⟩
  have f13 := fr_i f7 e13 ⟨rfl, Or.inr (by decide)⟩
  have f18 := fr_i f13 e18 ⟨rfl, Or.inr (by decide)⟩
  have f23 := fr_l f18 e23 ⟨rfl, Or.inr (by decide)⟩
  have f28 := fr_i f23 e28 ⟨rfl, Or.inr (by decide)⟩
  refine ⟨rfl, hb_i (hb_l (hb_i (hb_i (hb_i hb0 e7) e13) e18) e23) e28, f28, (fr_g f28 (by simp)).trans hm, ?_, him, hm2, fun j hj => ?_, ?_, ?_, ?_, ?_⟩
  · rw [mm_i e28 (by simp), mm_lo e23, mm_i e18 (by simp), mm_i e13 (by simp), mv_i e7]; omega
  · rw [fr_g f28 (by simp), fr_g f28 (by simp), fr_gl f28 (by simp), fr_g f28 (by simp)]; exact ha j hj
  · rw [mm_i e28 (by simp), mm_lo e23, mm_i e18 (by simp), mv_i e13, e11, fr_g f7 (by simp), a1]
  · rw [mm_i e28 (by simp), mm_lo e23, mv_i e18, e17, fr_g f13 (by simp), a2]
  · rw [mm_io e28, mv_l e23, e22, fr_gl f18 (by simp), a3]
  · rw [mv_i e28, e27, fr_g f23 (by simp), a4]
theorem t_Tokens_next {G : cx_T} {s : Nat} {h : ah_T} {t : tk_T} {m i : Nat} (hb0 : hb s h) (H : RCt t m i h) (hi : i + 1 < m) : con G 0 0 0 m_Tokens_next [av_R (some 3)] h (fun r h' => r = none ∧ hb s h' ∧ fr WN h h' ∧ RCt t m (i + 1) h') :=
  t_Tokens_next0 hb0 H.1 (by have := H.2.1; omega) hi H.2.2.2.1 H.2.2.2.2.1
abbrev WA : Nat → Nat → Prop := fun a _ => 3 ≤ a ∧ a ≤ 7
/-- all tokens of the text -/
theorem t_Tokens_cutAll {G : cx_T} {s : Nat} {h : ah_T} {T : Nat → Int} {n : Nat} (hb0 : hb s h) (hT : ∀ j, j < n → h.2.1 1 j = T j ∧ 0 ≤ T j ∧ T j ≤ 255) (hn : n ≤ 2000) : con G 9 0 0 m_Tokens_cutAll [av_R (some 3), av_R (some 1), av_I (n : Int)] h (fun r h' => r = none ∧ hb s h' ∧ fr WA h h' ∧ ∃ (t : tk_T) (m : Nat), Tkn T n t m ∧ ¬ gk (tK t (m - 1)) ∧ RCt t m 0 h') := by
  -- what stands after m tokens
  let CI : Nat → ah_T → Prop := fun m hh => CT T n hh ∧ hh.2.1 3 4 = (m : Int) ∧ ∃ a b : Nat → Nat, (0 < m → Skp T n 0 (a 0)) ∧ (∀ i, i < m → TkI T n (hh.2.1 4, hh.2.1 5, hh.2.2.1 6, hh.2.1 7) i (a i) (b i)) ∧ (∀ i, i + 1 < m → gk (hh.2.1 4 i) ∧ Skp T n (b i) (a (i + 1))) ∧ (0 < m → gk (hh.2.1 4 (m - 1)) → hh.2.1 3 8 = (b (m - 1) : Int) ∧ m ≤ b (m - 1)) ∧ (m = 0 → hh.2.1 3 8 = 0)
  have fin : ∀ (m : Nat) (hh : ah_T), hb s hh → fr WA h hh → CI m hh → 0 < m → m ≤ 2001 → ¬ gk (hh.2.1 4 (m - 1)) → B_Tokens_cutAll_59 G s (n : Int) hh (fun r h' => r = none ∧ hb s h' ∧ fr WA h h' ∧ ∃ (t : tk_T) (m : Nat), Tkn T n t m ∧ ¬ gk (tK t (m - 1)) ∧ RCt t m 0 h') := by
    rintro m hh hb1 hf ⟨-, c2, a, b, c3, c4, c5, -, -⟩ m0 m1 hg
    unfold B_Tokens_cutAll_59
    intro h1 e1
    refine con_mono (t_Tokens_next0 (t := (hh.2.1 4, hh.2.1 5, hh.2.2.1 6, hh.2.1 7)) (m := m) (i := 0) (hb_i hb1 e1) ((mm_i e1 (by decide)).trans c2) (by rw [mv_i e1]; rfl) m0 m1 (fun j hj => ⟨mm_i e1 (by simp), mm_i e1 (by simp), mm_io e1, mm_i e1 (by simp)⟩)) ?_
    rintro r h3 ⟨rfl, hb3, f3, r3⟩
    exact ⟨rfl, hb3, rfl, hb3, fr_t (fr_i hf e1 ⟨by decide, by decide⟩) f3 (fun a k q => by omega), _, m, ⟨a, b, c3 m0, c4, c5⟩, hg, r3⟩
  refine c_Tokens_cutAll (X36 := fun v3 v4 hh => fr WA h hh ∧ ∃ m : Nat, v4 = (m : Int) ∧ m ≤ 2001 ∧ CI m hh ∧ (v3 = 0 ∨ v3 = 1) ∧ (m = 0 → v3 = 1) ∧ (0 < m → (v3 = 1 ↔ gk (hh.2.1 4 (m - 1))))) ?_ hb0 (fun _ => ?_)
  · refine lp_Tokens_cutAll_36 (a2 := (n : Int)) _ (fun _ v4 _ => (2002 - v4).toNat) ?_
    rintro v3 v4 hh hb1 ⟨hf, m, rfl, m1, hc, w1, w2, w3⟩
    have hc' := hc
    obtain ⟨c1, c2, a, b, c3, c4, c5, c6, c7⟩ := hc'
    have mlt : v3 = 1 → m < 2001 := by
      intro w
      rcases Nat.eq_zero_or_pos m with z | z
      · omega
      · have g := (w3 z).mp w
        obtain ⟨g1, g2⟩ := c6 z g
        -- the last token ends within the text
        obtain ⟨k1, k2, k3, k4⟩ := c4 (m - 1) (by omega)
        rcases Nat.lt_or_ge (a (m - 1)) n with q | q
        · have := Tok_lt (k4 q).1 q g.2; omega
        · exact absurd (k3 (by omega)).1 g.1
    unfold B_Tokens_cutAll_36
    refine ⟨fun c => ?_, fun c => ⟨fun c8 => ?_, fun c8 => ?_⟩⟩
    · have z : 0 < m := by omega
      exact fin m hh hb1 hf hc z m1 (fun g => by have := mlt ((w3 z).mpr g); omega)
    · have z : 0 < m := by rcases Nat.eq_zero_or_pos m with z | z; · have := w2 z; omega
                           · exact z
      exact fin m hh hb1 hf hc z m1 (fun g => by have := (w3 z).mpr g; omega)
    · have h31 : v3 = 1 := by omega
      have hlt := mlt h31
      -- where the text goes on
      obtain ⟨p0, hp0, hp0n, hpm, hps⟩ : ∃ p0 : Nat, hh.2.1 3 8 = (p0 : Int) ∧ p0 ≤ n ∧ m ≤ p0 ∧ ((m = 0 ∧ p0 = 0) ∨ (0 < m ∧ p0 = b (m - 1))) := by
        rcases Nat.eq_zero_or_pos m with z | z
        · exact ⟨0, by rw [c7 z]; rfl, by omega, by omega, Or.inl ⟨z, rfl⟩⟩
        · have g := (w3 z).mp h31
          obtain ⟨g1, g2⟩ := c6 z g
          obtain ⟨k1, k2, k3, k4⟩ := c4 (m - 1) (by omega)
          refine ⟨b (m - 1), g1, ?_, g2, Or.inr ⟨z, rfl⟩⟩
          rcases Nat.lt_or_ge (a (m - 1)) n with q | q
          · have := Tok_lt (k4 q).1 q g.2; omega
          · exact absurd (k3 (by omega)).1 g.1
      refine con_mono (t_Tokens_cutOne hb1 c1 hp0 hp0n c2 hlt) ?_
      rintro r h1 ⟨z3, rfl, hb3, f3, d4, d5, d6, p, q, d7, d8, d9, d10, d11⟩
      refine ⟨z3, rfl, hb3, ⟨by omega, by omega⟩, ⟨?_, m + 1, by omega, by omega, ⟨CT_f c1 f3 (by simp) (fun j => by simp), by omega, fun i => if i = m then p else a i, fun i => if i = m then q else b i, fun _ => ?_, fun i hi => ?_, fun i hi => ?_, fun _ g => ?_, fun w => absurd w (by omega)⟩, d5, fun w => absurd w (by omega), fun _ => ?_⟩, by omega⟩
      · exact fr_t hf f3 (fun a k w => by omega)
      · dsimp only
        rcases hps with ⟨z, rfl⟩ | ⟨z, rfl⟩
        · rw [if_pos z.symm]; exact d7
        · rw [if_neg (by omega)]; exact c3 z
      · dsimp only
        by_cases him : i = m
        · subst him
          rw [if_pos rfl, if_pos rfl]
          exact ⟨d8, d7.1.2, d9, d10⟩
        · rw [if_neg him, if_neg him]
          have k := c4 i (by omega)
          unfold TkI tK tP tV' tS at k ⊢
          dsimp only at k ⊢
          rw [fr_g f3 (by simp; omega), fr_g f3 (by simp; omega), fr_gl f3 (by simp; omega), fr_g f3 (by simp; omega)]
          exact k
      · dsimp only
        by_cases him : i + 1 = m
        · rw [if_neg (by omega), if_pos him]
          have z : 0 < m := by omega
          have e0 : i = m - 1 := by omega
          rw [fr_g f3 (by simp; omega), e0]
          refine ⟨(w3 z).mp h31, ?_⟩
          rcases hps with ⟨z0, -⟩ | ⟨-, zz⟩
          · omega
          · rw [← zz]; exact d7
        · rw [if_neg (by omega), if_neg him, fr_g f3 (by simp; omega)]
          exact c5 i (by omega)
      · rw [show m + 1 - 1 = m by omega] at g ⊢
        dsimp only
        rw [if_pos rfl]
        refine ⟨d11 g, ?_⟩
        rcases Nat.lt_or_ge p n with w | w
        · have := Tok_lt (d10 w).1 w g.2
          have := d7.1.1
          omega
        · exact absurd (d9 (by have := d7.1.2; omega)).1 g.1
      · rw [show m + 1 - 1 = m by omega]; exact d6
  · unfold B_Tokens_cutAll_0
    intro h1 e1 x3 e3 _ _ x4 e4 _ _ h5 e5 h7 e7 h9 e9
    obtain rfl : x3 = 2000 := by rw [e3]; rfl
    have ex4 : x4 = (n : Int) := by rw [e4]; split <;> omega
    have f1 := fr_r (W := WA) fr_0 e1
    have f5 := fr_i f1 e5 ⟨by decide, by decide⟩
    have f7 := fr_i f5 e7 ⟨by decide, by decide⟩
    have f9 := fr_i f7 e9 ⟨by decide, by decide⟩
    have r1 : h1.2.2.2 3 6 = some 1 := by subst e1; simp [st_r, up2]
    have r9 : h9.2.2.2 3 6 = some 1 := by subst e9 e7 e5; exact r1
    refine ⟨f9, 0, rfl, by omega, ⟨⟨r9, ?_, hn, fun j hj => ?_⟩, mv_i e9, fun _ => 0, fun _ => 0, fun w => absurd w (by omega), fun i hi => absurd hi (by omega), fun i hi => absurd hi (by omega), fun w => absurd w (by omega), fun _ => ?_⟩, Or.inr rfl, fun _ => rfl, fun w => absurd w (by omega)⟩
    · rw [mm_i e9 (by decide), mm_i e7 (by decide), mv_i e5, ex4]
    · rw [fr_g f9 (by simp)]; exact hT j hj
    · rw [mm_i e9 (by decide), mv_i e7]
