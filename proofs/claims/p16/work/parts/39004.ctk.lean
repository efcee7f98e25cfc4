/-! ===== the class's tokens ===== -/
def CT (T : Nat → Int) (n : Nat) (h : ah_T) : Prop := h.2.2.2 3 6 = some 1 ∧ h.2.1 3 7 = (n : Int) ∧ n ≤ 2000 ∧ ∀ j, j < n → h.2.1 1 j = T j ∧ 0 ≤ T j ∧ T j ≤ 255
theorem CT_f {T : Nat → Int} {n : Nat} {W : Nat → Nat → Prop} {h h' : ah_T} (hC : CT T n h) (f : fr W h h') (h1 : ¬ W 3 7) (h2 : ∀ j, ¬ W 1 j) : CT T n h' :=
  ⟨f.2 hC.1, by rw [fr_g f h1]; exact hC.2.1, hC.2.2.1, fun j hj => by rw [fr_g f (h2 j)]; exact hC.2.2.2 j hj⟩
abbrev W3 : Nat → Nat → Prop := fun a k => a = 3 ∧ 8 ≤ k
theorem CT_3 {T : Nat → Int} {n : Nat} {h h' : ah_T} (hC : CT T n h) (f : fr W3 h h') : CT T n h' := CT_f hC f (fun q => absurd q.2 (by decide)) (fun j q => absurd q.1 (by decide))
theorem t_Tokens_isSmall {G : cx_T} {s : Nat} {h : ah_T} {a0 : Int} (hb0 : hb s h) : con G 0 0 0 m_Tokens_isSmall [av_I a0] h (fun r h' => ∃ z, r = some (av_I z) ∧ hb s h' ∧ h' = h ∧ (z = 0 ∨ z = 1) ∧ (z = 0 ↔ ¬ isSm a0)) := by
  refine c_Tokens_isSmall hb0 (fun _ => ?_)
  unfold B_Tokens_isSmall_0 B_Tokens_isSmall_16 B_Tokens_isSmall_17
  unfold isSm
  exact ⟨fun q => ⟨Or.inl rfl, _, rfl, hb0, rfl, Or.inl rfl, by omega⟩, fun q => ⟨fun q1 => ⟨Or.inl rfl, _, rfl, hb0, rfl, Or.inl rfl, by omega⟩, fun q1 => ⟨Or.inr rfl, _, rfl, hb0, rfl, Or.inr rfl, by omega⟩⟩⟩
theorem t_Tokens_isDigit {G : cx_T} {s : Nat} {h : ah_T} {a0 : Int} (hb0 : hb s h) : con G 0 0 0 m_Tokens_isDigit [av_I a0] h (fun r h' => ∃ z, r = some (av_I z) ∧ hb s h' ∧ h' = h ∧ (z = 0 ∨ z = 1) ∧ (z = 0 ↔ ¬ isDg a0)) := by
  refine c_Tokens_isDigit hb0 (fun _ => ?_)
  unfold B_Tokens_isDigit_0 B_Tokens_isDigit_16 B_Tokens_isDigit_17
  unfold isDg
  exact ⟨fun q => ⟨Or.inl rfl, _, rfl, hb0, rfl, Or.inl rfl, by omega⟩, fun q => ⟨fun q1 => ⟨Or.inl rfl, _, rfl, hb0, rfl, Or.inl rfl, by omega⟩, fun q1 => ⟨Or.inr rfl, _, rfl, hb0, rfl, Or.inr rfl, by omega⟩⟩⟩
theorem t_Tokens_byteAt {G : cx_T} {s : Nat} {h : ah_T} {T : Nat → Int} {n : Nat} {i : Int} (hb0 : hb s h) (hC : CT T n h) : con G 0 0 0 m_Tokens_byteAt [av_R (some 3), av_I i] h (fun r h' => ∃ z, r = some (av_I z) ∧ hb s h' ∧ h' = h ∧ (0 ≤ i → z = tb T n i.toNat) ∧ -1 ≤ z ∧ z ≤ 255) := by
  obtain ⟨c1, c2, c3, c4⟩ := hC
  refine c_Tokens_byteAt hb0 (fun _ => ?_)
  unfold B_Tokens_byteAt_0 B_Tokens_byteAt_30 B_Tokens_byteAt_31
  refine ⟨fun q => ⟨_, rfl, hb0, rfl, fun w => by omega, by decide, by decide⟩, fun q x1 e1 _ _ => ⟨fun q1 => ⟨_, rfl, hb0, rfl, fun w => ?_, by decide, by decide⟩, fun q1 => ⟨c1, fun q2 => by omega, fun q2 => ?_⟩⟩⟩
  · rw [tb_out (by omega)]
  · first
    | refine ⟨c1, ⟨by omega, by omega⟩, fun x4 e4 _ _ => ⟨_, rfl, hb0, rfl, fun w => ?_, ?_, ?_⟩⟩
    | refine ⟨⟨by omega, by omega⟩, fun x4 e4 _ _ => ⟨_, rfl, hb0, rfl, fun w => ?_, ?_, ?_⟩⟩
    · rw [tb_in (by omega), e4]; exact (c4 _ (by omega)).1
    · have := c4 i.toNat (by omega); omega
    · have := c4 i.toNat (by omega); omega
/-- at a place of the text -/
theorem t_Tokens_byteP {G : cx_T} {s : Nat} {h : ah_T} {T : Nat → Int} {n p : Nat} {i : Int} (hb0 : hb s h) (hC : CT T n h) (hi : i = (p : Int)) : con G 0 0 0 m_Tokens_byteAt [av_R (some 3), av_I i] h (fun r h' => ∃ z, r = some (av_I z) ∧ hb s h' ∧ h' = h ∧ z = tb T n p ∧ -1 ≤ z ∧ z ≤ 255) := by
  refine con_mono (t_Tokens_byteAt hb0 hC) ?_
  rintro r h' ⟨z, e1, e2, e3, e4, e5⟩
  exact ⟨z, e1, e2, e3, by rw [e4 (by omega), hi, tn_c], e5⟩
theorem t_Tokens_skipBlanks {G : cx_T} {s : Nat} {h : ah_T} {T : Nat → Int} {n p : Nat} (hb0 : hb s h) (hC : CT T n h) (hp : h.2.1 3 8 = (p : Int)) (hpn : p ≤ n) : con G 1 0 0 m_Tokens_skipBlanks [av_R (some 3)] h (fun r h' => r = none ∧ hb s h' ∧ fr W3 h h' ∧ ∃ q : Nat, h'.2.1 3 8 = (q : Int) ∧ Skp T n p q) := by
  refine c_Tokens_skipBlanks (X2 := fun v1 hh => fr W3 h hh ∧ ∃ k : Nat, p + k ≤ n ∧ hh.2.1 3 8 = (p : Int) + k ∧ (v1 = 0 ∨ v1 = 1) ∧ (v1 = 1 ↔ rk T p k) ∧ ∀ j, j < k → skb T p j) ?_ hb0 ?_
  · refine lp_Tokens_skipBlanks_2 _ (fun _ hh => (2001 - hh.2.1 3 8).toNat) ?_
    rintro v1 hh hb1 ⟨hf, k, k1, k2, k3, k4, k5⟩
    have hC1 := CT_3 hC hf
    unfold B_Tokens_skipBlanks_2
    intro x1 e1 _ _ x2 e2 _ _
    have d1 : x1 = ((p + k : Nat) : Int) := by omega
    have d2 : x2 = (n : Int) := by rw [e2]; exact hC1.2.1
    have hn := hC.2.2.1
    refine ⟨fun c => ⟨rfl, hb1, hf, p + k, by omega, ⟨by omega, by omega⟩, fun j hj => k5 j (by omega), fun q => absurd q (by omega)⟩, fun c => ?_⟩
    refine con_mono (t_Tokens_byteP hb1 hC1 d1) ?_
    rintro r h4 ⟨z6, rfl, hb4, rfl, ez, -, -⟩
    refine ⟨z6, rfl, hb4, ?_⟩
    rw [tb_in (by omega)] at ez
    have key : ∀ w : Int, (w = 0 ∨ w = 1) → (w = 1 ↔ rk T p (k + 1)) → skb T p k → B_Tokens_skipBlanks_67 G s w h4 (fun r h' => r = none ∧ hb s h' ∧ fr W3 h h' ∧ ∃ q : Nat, h'.2.1 3 8 = (q : Int) ∧ Skp T n p q) (fun v1' h' => (fr W3 h h' ∧ ∃ k : Nat, p + k ≤ n ∧ h'.2.1 3 8 = (p : Int) + k ∧ (v1' = 0 ∨ v1' = 1) ∧ (v1' = 1 ↔ rk T p k) ∧ ∀ j, j < k → skb T p j) ∧ (2001 - h'.2.1 3 8).toNat < (2001 - h4.2.1 3 8).toNat) := by
      intro w w0 w1 w2
      unfold B_Tokens_skipBlanks_67
      intro y ey _ _
      refine ⟨⟨by omega, by omega⟩, fun h3 e3 => ?_⟩
      have m3 : h3.2.1 3 8 = y + 1 := mv_i e3
      refine ⟨⟨fr_i hf e3 ⟨rfl, by decide⟩, k + 1, by omega, by omega, w0, w1, fun j hj => ?_⟩, by omega⟩
      by_cases hjk : j = k
      · subst hjk; exact w2
      · exact k5 j (by omega)
    have hr : rk T p (k + 1) ↔ (T (p + k) ≠ 10 ∧ (rk T p k ∨ T (p + k) = 37)) := Iff.rfl
    refine ⟨fun c1 => key 0 (Or.inl rfl) ⟨fun q => absurd q (by decide), fun q => absurd (hr.mp q).1 (by omega)⟩ (Or.inr (Or.inr (Or.inl (by omega)))), fun c1 => ⟨fun c2 => key 1 (Or.inr rfl) ⟨fun _ => hr.mpr ⟨by omega, Or.inr (by omega)⟩, fun _ => rfl⟩ (Or.inr (Or.inr (Or.inr (Or.inr (Or.inr (by omega)))))), fun c2 => ⟨fun c3 => ?_, fun c3 => ?_⟩⟩⟩
    · have r0 : ¬ rk T p k := fun q => by have := k4.mpr q; omega
      have r1 : ¬ rk T p (k + 1) := fun q => (hr.mp q).2.elim r0 (by omega)
      have kk := key v1 k3 ⟨fun q => by omega, fun q => absurd q r1⟩
      refine ⟨fun c4 => kk (Or.inr (Or.inl (by omega))), fun c4 => ⟨fun c5 => kk (Or.inr (Or.inr (Or.inr (Or.inl (by omega))))), fun c5 => ⟨fun c6 => kk (Or.inr (Or.inr (Or.inr (Or.inr (Or.inl (by omega)))))), fun c6 => ?_⟩⟩⟩
      refine ⟨rfl, hb4, hf, p + k, by omega, ⟨by omega, by omega⟩, fun j hj => k5 j (by omega), fun q w => ?_⟩
      rw [show p + k - p = k by omega] at w
      unfold skb at w
      rcases w with w | w | w | w | w | w
      · exact r0 w
      all_goals omega
    · have r0 : rk T p k := k4.mp (by omega)
      exact key v1 k3 ⟨fun _ => hr.mpr ⟨by omega, Or.inl r0⟩, fun _ => by omega⟩ (Or.inl r0)
  · exact ⟨fr_0, 0, by omega, by omega, Or.inl rfl, ⟨fun q => absurd q (by decide), fun q => q.elim⟩, fun j hj => absurd hj (by omega)⟩
