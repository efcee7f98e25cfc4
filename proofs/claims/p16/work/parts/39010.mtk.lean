/-! ===== the reference's tokens ===== -/
def MT (T : Nat → Int) (n : Nat) (h : ah_T) : Prop := h.2.1 170 2 = (n : Int) ∧ n ≤ 2000 ∧ ∀ j, j < n → h.2.1 171 j = T j ∧ 0 ≤ T j ∧ T j ≤ 255
theorem MT_f {T : Nat → Int} {n : Nat} {W : Nat → Nat → Prop} {h h' : ah_T} (hC : MT T n h) (f : fr W h h') (h1 : ¬ W 170 2) (h2 : ∀ j, ¬ W 171 j) : MT T n h' :=
  ⟨by rw [fr_g f h1]; exact hC.1, hC.2.1, fun j hj => by rw [fr_g f (h2 j)]; exact hC.2.2 j hj⟩
/-- what a token writes -/
abbrev WM : Nat → Nat → Prop := fun a k => a = 170 ∧ 3 ≤ k ∧ k ≤ 10
theorem MT_M {T : Nat → Int} {n : Nat} {h h' : ah_T} (hC : MT T n h) (f : fr WM h h') : MT T n h' := MT_f hC f (by simp) (fun j => by simp)
def ta (T : Nat → Int) (n p : Nat) : Int := if p < n then T p else 0
theorem ta_tb {T : Nat → Int} {n p : Nat} {c : Int} (h0 : c ≠ 0) (h1 : c ≠ -1) : ta T n p = c ↔ tb T n p = c := by
  unfold ta tb; split
  · exact Iff.rfl
  · exact ⟨fun q => absurd q.symm h0, fun q => absurd q.symm h1⟩
theorem ta_in {T : Nat → Int} {n p : Nat} (h : p < n) : ta T n p = T p := if_pos h
theorem ta_out {T : Nat → Int} {n p : Nat} (h : n ≤ p) : ta T n p = 0 := if_neg (by omega)
theorem t_MD_at {G : cx_T} {s : Nat} {h : ah_T} {T : Nat → Int} {n p : Nat} {i : Int} (hb0 : hb s h) (hC : MT T n h) (hi : i = (p : Int)) : con G 0 0 0 m_MD_at [av_R (some 170), av_I i] h (fun r h' => ∃ z, r = some (av_I z) ∧ hb s h' ∧ h' = h ∧ z = ta T n p ∧ 0 ≤ z ∧ z ≤ 255) := by
  obtain ⟨c2, c3, c4⟩ := hC
  subst hi
  refine c_MD_at hb0 (fun _ => ?_)
  unfold B_MD_at_0 B_MD_at_18
  intro x1 e1 _ _
  refine ⟨fun q => ⟨_, rfl, hb0, rfl, (ta_out (by omega)).symm, by decide, by decide⟩, fun q => ⟨⟨by omega, by omega⟩, ?_⟩⟩
  rw [tn_c]
  intro x3 e3 _ _
  have h4 := c4 p (by omega)
  exact ⟨_, rfl, hb0, rfl, by rw [ta_in (by omega), e3]; exact h4.1, by omega, by omega⟩
theorem t_MD_isDigit {G : cx_T} {s : Nat} {h : ah_T} {a1 : Int} (hb0 : hb s h) : con G 0 0 0 m_MD_isDigit [av_R (some 170), av_I a1] h (fun r h' => ∃ z, r = some (av_I z) ∧ hb s h' ∧ h' = h ∧ (z = 0 ∨ z = 1) ∧ (z = 0 ↔ ¬ isDg a1)) := by
  refine c_MD_isDigit hb0 (fun _ => ?_)
  unfold B_MD_isDigit_0 B_MD_isDigit_16 B_MD_isDigit_17 isDg
  exact ⟨fun q => ⟨Or.inl rfl, _, rfl, hb0, rfl, Or.inl rfl, by omega⟩, fun q => ⟨fun q1 => ⟨Or.inl rfl, _, rfl, hb0, rfl, Or.inl rfl, by omega⟩, fun q1 => ⟨Or.inr rfl, _, rfl, hb0, rfl, Or.inr rfl, by omega⟩⟩⟩
theorem t_MD_isSmall {G : cx_T} {s : Nat} {h : ah_T} {a1 : Int} (hb0 : hb s h) : con G 0 0 0 m_MD_isSmall [av_R (some 170), av_I a1] h (fun r h' => ∃ z, r = some (av_I z) ∧ hb s h' ∧ h' = h ∧ (z = 0 ∨ z = 1) ∧ (z = 0 ↔ ¬ isSm a1)) := by
  refine c_MD_isSmall hb0 (fun _ => ?_)
  unfold B_MD_isSmall_0 B_MD_isSmall_16 B_MD_isSmall_17 isSm
  exact ⟨fun q => ⟨Or.inl rfl, _, rfl, hb0, rfl, Or.inl rfl, by omega⟩, fun q => ⟨fun q1 => ⟨Or.inl rfl, _, rfl, hb0, rfl, Or.inl rfl, by omega⟩, fun q1 => ⟨Or.inr rfl, _, rfl, hb0, rfl, Or.inr rfl, by omega⟩⟩⟩
theorem t_MD_whites {G : cx_T} {s : Nat} {h : ah_T} {b : Int} (hb0 : hb s h) (b0 : 65 ≤ b) (b1 : b ≤ 71) : con G 0 0 0 m_MD_whites [av_R (some 170), av_I b] h (fun r h' => ∃ z, r = some (av_I z) ∧ hb s h' ∧ h' = h ∧ z = wh b) := by
  refine c_MD_whites hb0 (fun _ => ?_)
  unfold B_MD_whites_0 B_MD_whites_62
  refine ⟨⟨by omega, by omega⟩, fun c => ⟨_, rfl, hb0, rfl, ?_⟩, fun c => ⟨fun c1 => ⟨_, rfl, hb0, rfl, ?_⟩, fun c1 => ⟨fun c2 => ⟨_, rfl, hb0, rfl, ?_⟩, fun c2 => ⟨fun c3 => ⟨_, rfl, hb0, rfl, ?_⟩, fun c3 => ⟨fun c4 => ⟨_, rfl, hb0, rfl, ?_⟩, fun c4 => ⟨fun c5 => ⟨_, rfl, hb0, rfl, ?_⟩, fun c5 => ⟨_, rfl, hb0, rfl, ?_⟩⟩⟩⟩⟩⟩⟩ <;> (unfold wh; (repeat' split) <;> omega)
abbrev QMP (s : Nat) (T : Nat → Int) (n p : Nat) (h : ah_T) : Option av_T → ah_T → Prop := fun r h' => r = none ∧ hb s h' ∧ fr WM h h' ∧ h'.2.1 170 5 = h.2.1 170 5 ∧
  ((48 ≤ tb T n (p + 1 + mk T n p) ∧ tb T n (p + 1 + mk T n p) ≤ 56) → h'.2.1 170 4 = 1 ∧ h'.2.1 170 8 = 12 * (tb T n (p + 1 + mk T n p) - 48) + wh (T p) + (if tb T n (p + 1) = 35 then (mk T n p : Int) else -(mk T n p : Int)) ∧ h'.2.1 170 9 = 7 * (tb T n (p + 1 + mk T n p) - 48) + sw (T p) ∧ h'.2.1 170 3 = ((p + 2 + mk T n p : Nat) : Int) ∧ h'.2.1 170 10 = (mk T n p : Int)) ∧
  (¬ (48 ≤ tb T n (p + 1 + mk T n p) ∧ tb T n (p + 1 + mk T n p) ≤ 56) → h'.2.1 170 4 = 6)
theorem t_MD_pitch {G : cx_T} {s : Nat} {h : ah_T} {T : Nat → Int} {n p : Nat} {b : Int} (hb0 : hb s h) (hC : MT T n h) (hp : h.2.1 170 3 = (p : Int)) (hpn : p < n) (eb : b = T p) (b0 : 65 ≤ b) (b1 : b ≤ 71) : con G 1 0 0 m_MD_pitch [av_R (some 170), av_I b] h (QMP s T n p h) := by
  have hn := hC.2.1
  have hm := mk_2 (T := T) (n := n) (p := p)
  have k83 : ∀ h1 : ah_T, hb s h1 → fr WM h h1 → h1.2.1 170 5 = h.2.1 170 5 → h1.2.1 170 10 = (mk T n p : Int) → ∀ v2 v3 : Int, v2 = (p : Int) + 1 + mk T n p → v3 = (if tb T n (p + 1) = 35 then (mk T n p : Int) else -(mk T n p : Int)) → B_MD_pitch_83 G s b v2 v3 h1 (QMP s T n p h) := by
    intro h1 hb1 f1 g5 g10 v2 v3 e2 e3
    have hC1 := MT_M hC f1
    have hv3 : -2 ≤ v3 ∧ v3 ≤ 2 := by rw [e3]; split <;> omega
    unfold B_MD_pitch_83
    refine con_mono (t_MD_at (p := p + 1 + mk T n p) hb1 hC1 (by omega)) ?_
    rintro r h2 ⟨z3, rfl, hb2, rfl, ez, z3a, z3b⟩
    have dg : (48 ≤ z3 ∧ z3 ≤ 56) ↔ (48 ≤ tb T n (p + 1 + mk T n p) ∧ tb T n (p + 1 + mk T n p) ≤ 56) := by
      rw [ez]; unfold ta tb; split <;> omega
    have bad : ¬ (48 ≤ z3 ∧ z3 ≤ 56) → B_MD_pitch_104 G s b h2 (QMP s T n p h) := by
      intro w
      unfold B_MD_pitch_104
      intro h3 e3
      exact ⟨rfl, hb_i hb2 e3, fr_i f1 e3 ⟨rfl, by decide⟩, (mm_i e3 (by decide)).trans g5, fun q => absurd (dg.mpr q) w, fun _ => mv_i e3⟩
    refine ⟨z3, rfl, hb2, fun c => bad (by omega), fun c => ⟨fun c1 => ?_, fun c1 => bad (by omega)⟩⟩
    intro h4 e4
    have hz : z3 = tb T n (p + 1 + mk T n p) := by
      rw [ez] at c ⊢
      unfold ta at c ⊢; unfold tb
      split at c
      · rename_i q; rw [if_pos q, if_pos q]
      · omega
    have hb4 := hb_i hb2 e4
    have f4 := fr_i f1 e4 ⟨rfl, by decide⟩
    refine ⟨⟨by omega, by omega⟩, ⟨by omega, by omega⟩, ?_⟩
    refine con_mono (t_MD_whites hb4 b0 b1) ?_
    rintro r h5 ⟨z10, rfl, hb5, rfl, w1⟩
    have w3 := wh_b (b := b)
    refine ⟨z10, rfl, hb5, ⟨by omega, by omega⟩, ⟨by omega, by omega⟩, fun h13 e13 => ?_⟩
    have f13 := fr_i f4 e13 ⟨rfl, by decide⟩
    have hb13 := hb_i hb5 e13
    have fin : ∀ t2 : Int, t2 = sw b → B_MD_pitch_164 G s b v2 (7 * z3 - 336) t2 h13 (QMP s T n p h) := by
      intro t2 et
      have ht : 0 ≤ t2 ∧ t2 ≤ 6 := by rw [et]; unfold sw; split <;> omega
      unfold B_MD_pitch_164
      refine ⟨⟨by omega, by omega⟩, fun h6 e6 => ⟨⟨by omega, by omega⟩, fun h7 e7 => ?_⟩⟩
      refine ⟨rfl, hb_i (hb_i hb13 e6) e7, fr_i (fr_i f13 e6 ⟨rfl, by decide⟩) e7 ⟨rfl, by decide⟩, ?_, fun _ => ⟨?_, ?_, ?_, ?_, ?_⟩, fun w => absurd (dg.mp ⟨by omega, by omega⟩) w⟩
      · rw [mm_i e7 (by decide), mm_i e6 (by decide), mm_i e13 (by decide), mm_i e4 (by decide), g5]
      · rw [mm_i e7 (by decide), mm_i e6 (by decide), mm_i e13 (by decide), mv_i e4]
      · rw [mm_i e7 (by decide), mm_i e6 (by decide), mv_i e13, ← e3, ← hz, ← eb, w1]; omega
      · rw [mm_i e7 (by decide), mv_i e6, ← hz, ← eb, et]; omega
      · rw [mv_i e7]; omega
      · rw [mm_i e7 (by decide), mm_i e6 (by decide), mm_i e13 (by decide), mm_i e4 (by decide), g10]
    refine ⟨⟨by omega, by omega⟩, fun c2 => ⟨⟨by omega, by omega⟩, ⟨by omega, by omega⟩, fin _ (by unfold sw; split <;> omega)⟩, fun c2 => ⟨⟨by omega, by omega⟩, fin _ (by unfold sw; split <;> omega)⟩⟩
  refine c_MD_pitch hb0 (fun _ => ?_)
  unfold B_MD_pitch_0
  intro x1 e1 _ _
  refine ⟨⟨by omega, by omega⟩, ?_⟩
  refine con_mono (t_MD_at (p := p + 1) hb0 hC (by omega)) ?_
  rintro r h3 ⟨z5, rfl, hb3, rfl, ez5, -, -⟩
  have k29 : ta T n (p + 1) = 35 ∨ ta T n (p + 1) = 98 → B_MD_pitch_29 G s b (x1 + 1) h3 (QMP s T n p h3) := by
    intro hz
    have hzt : tb T n (p + 1) = 35 ∨ tb T n (p + 1) = 98 := hz.imp (ta_tb (by decide) (by decide)).mp (ta_tb (by decide) (by decide)).mp
    have e35 : ta T n (p + 1) = tb T n (p + 1) := by unfold ta tb at *; split at hz <;> (split at hzt <;> omega)
    unfold B_MD_pitch_29 B_MD_pitch_56 B_MD_pitch_74
    refine con_mono (t_MD_at (p := p + 1) hb3 hC (by omega)) ?_
    rintro r h4 ⟨y3, rfl, hb4, rfl, ey3, -, -⟩
    refine ⟨y3, rfl, hb4, ⟨by omega, by omega⟩, ?_⟩
    refine con_mono (t_MD_at (p := p + 2) hb4 hC (by omega)) ?_
    rintro r h5 ⟨y7, rfl, hb5, rfl, ey7, -, -⟩
    have hy : y7 = y3 ↔ tb T n (p + 2) = tb T n (p + 1) := by
      rw [ey7, ey3, e35]
      exact ta_tb (by omega) (by omega)
    refine ⟨y7, rfl, hb5, fun c => ⟨⟨by omega, by omega⟩, fun h6 e6 => ?_⟩, fun c h6 e6 => ?_⟩
    · have em : mk T n p = 2 := by unfold mk; rw [if_pos hzt, if_pos (hy.mp c)]
      refine ⟨fun c1 => k83 h6 (hb_i hb5 e6) (fr_i fr_0 e6 ⟨rfl, by decide⟩) (mm_i e6 (by decide)) (by rw [mv_i e6, em]; rfl) _ _ (by omega) (by rw [if_pos (by omega), em]; rfl), fun c1 => ⟨⟨by omega, by omega⟩, k83 h6 (hb_i hb5 e6) (fr_i fr_0 e6 ⟨rfl, by decide⟩) (mm_i e6 (by decide)) (by rw [mv_i e6, em]; rfl) _ _ (by omega) (by rw [if_neg (by omega), em]; rfl)⟩⟩
    · have em : mk T n p = 1 := by unfold mk; rw [if_pos hzt, if_neg (fun w => c (hy.mpr w))]
      refine ⟨fun c1 => k83 h6 (hb_i hb5 e6) (fr_i fr_0 e6 ⟨rfl, by decide⟩) (mm_i e6 (by decide)) (by rw [mv_i e6, em]; rfl) _ _ (by omega) (by rw [if_pos (by omega), em]; rfl), fun c1 => ⟨⟨by omega, by omega⟩, k83 h6 (hb_i hb5 e6) (fr_i fr_0 e6 ⟨rfl, by decide⟩) (mm_i e6 (by decide)) (by rw [mv_i e6, em]; rfl) _ _ (by omega) (by rw [if_neg (by omega), em]; rfl)⟩⟩
  refine ⟨z5, rfl, hb3, fun c => k29 (Or.inl (by omega)), fun c => ?_⟩
  refine con_mono (t_MD_at (p := p + 1) hb3 hC (by omega)) ?_
  rintro r h4 ⟨z8, rfl, hb4, rfl, ez8, -, -⟩
  refine ⟨z8, rfl, hb4, fun c1 => k29 (Or.inr (by omega)), fun c1 h9 e9 => ?_⟩
  have n35 : ¬ (tb T n (p + 1) = 35 ∨ tb T n (p + 1) = 98) := by
    rintro (w | w)
    · exact c (by rw [ez5]; exact (ta_tb (by decide) (by decide)).mpr w)
    · exact c1 (by rw [ez8]; exact (ta_tb (by decide) (by decide)).mpr w)
  have em : mk T n p = 0 := by unfold mk; rw [if_neg n35]
  exact k83 h9 (hb_i hb4 e9) (fr_i fr_0 e9 ⟨rfl, by decide⟩) (mm_i e9 (by decide)) (by rw [mv_i e9, em]; rfl) _ _ (by omega) (by rw [if_neg (fun w => n35 (Or.inl w)), em]; rfl)
