/-! ===== the reference: the tape, byte by byte ===== -/
theorem ss_b (A : BitVec 32) (n : Nat) (hn : n ≤ 24) : A.sshiftRight n &&& 255#32 = A >>> n &&& 255#32 := by
  have k : ∀ i, i < 32 → (255#32).getLsbD i = decide (i < 8) := by decide
  apply BitVec.eq_of_getLsbD_eq
  intro i hi
  rw [BitVec.getLsbD_and, BitVec.getLsbD_and, k i hi]
  by_cases c : i < 8
  · rw [BitVec.getLsbD_sshiftRight, BitVec.getLsbD_ushiftRight]
    have h1 : n + i < 32 := by omega
    have h2 : ¬ 32 ≤ i := by omega
    simp [h1, h2]
  · simp [c]
theorem mby (a : Int) (i : Nat) (hi : i < 4) : ((Int32.ofInt (((Int32.ofInt a) >>> (Int32.ofInt (24 - 8 * (i : Int)) &&& 31)).toInt)) &&& (Int32.ofInt 255)).toInt = byt a i := by
  unfold byt an_I us_I
  rw [Int32.ofInt_toInt, Int32.ofInt_toInt]
  generalize Int32.ofInt a = A
  congr 1
  apply Int32.toBitVec_inj.mp
  have e : ∀ n : Nat, n ≤ 24 → A.toBitVec.sshiftRight n &&& 255#32 = A.toBitVec >>> n &&& 255#32 := fun n hn => ss_b _ n hn
  obtain rfl | rfl | rfl | rfl : i = 0 ∨ i = 1 ∨ i = 2 ∨ i = 3 := by omega
  · exact e 24 (by decide)
  · exact e 16 (by decide)
  · exact e 8 (by decide)
  · exact e 0 (by decide)
theorem byt_b (a : Int) (i : Nat) : 0 ≤ byt a i ∧ byt a i ≤ 255 := and_r (m := 255) 8 rfl (by decide) (by decide) (by decide)
theorem fdb_b (a b c d e : Int) (j : Nat) : 0 ≤ fdb a b c d e j ∧ fdb a b c d e j ≤ 255 := by
  unfold fdb
  split
  · exact byt_b _ _
  split
  · exact byt_b _ _
  split
  · exact byt_b _ _
  split
  · exact byt_b _ _
  · exact byt_b _ _
abbrev WLy (k n : Nat) : Nat → Nat → Prop := fun x j => (x = 170 ∧ j = 1) ∨ (x = 171 ∧ k ≤ j ∧ j < k + n)
theorem t_MD_lay {G : cx_T} {s k : Nat} {h : ah_T} {a : Int} (hb0 : hb s h) (hk : h.2.1 170 1 = (k : Int)) (hk2 : k + 4 ≤ 2000) : con G 0 0 0 m_MD_lay [av_R (some 170), av_I a] h (fun r h' => r = none ∧ hb s h' ∧ fr (WLy k 4) h h' ∧ h'.2.1 170 1 = (k : Int) + 4 ∧ ∀ i, i < 4 → h'.2.1 171 (k + i) = byt a i) := by
  refine c_MD_lay (X3 := fun v2 hh => ∃ i : Nat, i ≤ 4 ∧ v2 = 24 - 8 * (i : Int) ∧ hh.2.1 170 1 = (k : Int) + i ∧ fr (WLy k 4) h hh ∧ ∀ j, j < i → hh.2.1 171 (k + j) = byt a j) ?_ hb0 (fun _ => ?_)
  · refine lp_MD_lay_3 (a1 := a) _ (fun v2 _ => (v2 + 8).toNat) ?_
    rintro v2 hh hb1 ⟨i, hi, rfl, hki, hf, hby⟩
    unfold B_MD_lay_3
    refine ⟨fun c => ?_, fun c x2 e2 _ _ x3 e3 _ _ x4 e4 _ _ => ⟨by omega, fun h6 e6 => ⟨⟨by omega, by omega⟩, fun h10 e10 => ⟨⟨by omega, by omega⟩, ⟨i + 1, by omega, by omega, by rw [mv_i e10]; omega, fr_i (fr_i hf e6 (by omega)) e10 (by omega), fun j hj => ?_⟩, by omega⟩⟩⟩⟩
    · have hi4 : i = 4 := by omega
      subst hi4
      exact ⟨rfl, hb1, hf, by rw [hki]; rfl, hby⟩
    · have ek : x2.toNat = k + i := by omega
      rw [ek] at e6
      rw [mm_i e10 (by omega)]
      by_cases c2 : j = i
      · rw [c2, mv_i e6, e4, e3]; exact mby a i (by omega)
      · rw [mm_i e6 (by omega)]; exact hby j (by omega)
  · unfold B_MD_lay_0
    exact ⟨0, by decide, rfl, by rw [hk]; omega, fr_0, fun j hj => by omega⟩
theorem t_MD_feed {G : cx_T} {s k : Nat} {h : ah_T} {a b c d e : Int} (hb0 : hb s h) (hk : h.2.1 170 1 = (k : Int)) (hk2 : k ≤ 2000) : con G 1 0 0 m_MD_feed [av_R (some 170), av_I a, av_I b, av_I c, av_I d, av_I e] h (fun r h' => hb s h' ∧ ((k + 20 ≤ 2000 ∧ r = some (av_I ((k : Int) + 20)) ∧ fr (WLy k 20) h h' ∧ h'.2.1 170 1 = (k : Int) + 20 ∧ ∀ j, j < 20 → h'.2.1 171 (k + j) = fdb a b c d e j) ∨ (¬ k + 20 ≤ 2000 ∧ r = some (av_I (-3)) ∧ h' = h))) := by
  refine c_MD_feed hb0 (fun _ _ _ _ _ => ?_)
  unfold B_MD_feed_0
  intro x1 e1 _ _
  obtain rfl : x1 = (k : Int) := e1.trans hk
  refine ⟨⟨by omega, by omega⟩, fun w => ?_, fun w => ⟨hb0, Or.inr ⟨by omega, rfl, rfl⟩⟩⟩
  refine con_mono (t_MD_lay hb0 hk (by omega)) ?_
  rintro r h3 ⟨rfl, hb3, f3, k3, y3⟩
  refine ⟨rfl, hb3, con_mono (t_MD_lay (k := k + 4) hb3 (by rw [k3]; omega) (by omega)) ?_⟩
  rintro r h6 ⟨rfl, hb6, f6, k6, y6⟩
  refine ⟨rfl, hb6, con_mono (t_MD_lay (k := k + 8) hb6 (by rw [k6]; omega) (by omega)) ?_⟩
  rintro r h9 ⟨rfl, hb9, f9, k9, y9⟩
  refine ⟨rfl, hb9, con_mono (t_MD_lay (k := k + 12) hb9 (by rw [k9]; omega) (by omega)) ?_⟩
  rintro r h12 ⟨rfl, hb12, f12, k12, y12⟩
  refine ⟨rfl, hb12, con_mono (t_MD_lay (k := k + 16) hb12 (by rw [k12]; omega) (by omega)) ?_⟩
  rintro r h15 ⟨rfl, hb15, f15, k15, y15⟩
  refine ⟨rfl, hb15, fun x18 e18 _ _ => ⟨hb15, Or.inl ⟨by omega, ?_, ?_, by rw [k15]; omega, fun j hj => ?_⟩⟩⟩
  · have : x18 = (k : Int) + 20 := by rw [e18, k15]; omega
    rw [this]
  · exact fr_t (fr_t (fr_t (fr_t (fr_w f3 (fun a k w => by unfold WLy at *; omega)) f6 (fun a k w => by unfold WLy at *; omega)) f9 (fun a k w => by unfold WLy at *; omega)) f12 (fun a k w => by unfold WLy at *; omega)) f15 (fun a k w => by unfold WLy at *; omega)
  · unfold fdb
    by_cases c1 : j < 4
    · rw [if_pos c1, fr_g f15 (by omega), fr_g f12 (by omega), fr_g f9 (by omega), fr_g f6 (by omega)]; exact y3 j c1
    rw [if_neg c1]
    by_cases c2 : j < 8
    · rw [if_pos c2, fr_g f15 (by omega), fr_g f12 (by omega), fr_g f9 (by omega)]
      have := y6 (j - 4) (by omega)
      rw [show k + 4 + (j - 4) = k + j by omega] at this; exact this
    rw [if_neg c2]
    by_cases c3 : j < 12
    · rw [if_pos c3, fr_g f15 (by omega), fr_g f12 (by omega)]
      have := y9 (j - 8) (by omega)
      rw [show k + 8 + (j - 8) = k + j by omega] at this; exact this
    rw [if_neg c3]
    by_cases c4 : j < 16
    · rw [if_pos c4, fr_g f15 (by omega)]
      have := y12 (j - 12) (by omega)
      rw [show k + 12 + (j - 12) = k + j by omega] at this; exact this
    rw [if_neg c4]
    have := y15 (j - 16) (by omega)
    rw [show k + 16 + (j - 16) = k + j by omega] at this; exact this
theorem t_MD_cut {G : cx_T} {s k : Nat} {h : ah_T} {a : Int} (hb0 : hb s h) (hk : h.2.1 170 1 = (k : Int)) (hk2 : k ≤ 2000) : con G 0 0 0 m_MD_cut [av_R (some 170), av_I a] h (fun r h' => hb s h' ∧ ((0 ≤ a ∧ a ≤ k ∧ r = some (av_I ((k : Int) - a)) ∧ fr (fun x j => x = 170 ∧ j = 1) h h' ∧ h'.2.1 170 1 = (k : Int) - a) ∨ (¬ (0 ≤ a ∧ a ≤ k) ∧ r = some (av_I (-1)) ∧ h' = h))) := by
  refine c_MD_cut hb0 (fun _ => ?_)
  unfold B_MD_cut_0 B_MD_cut_12
  refine ⟨fun c => ⟨hb0, Or.inr ⟨by omega, rfl, rfl⟩⟩, fun c x1 e1 _ _ => ?_⟩
  obtain rfl : x1 = (k : Int) := e1.trans hk
  exact ⟨fun c1 => ⟨⟨by omega, by omega⟩, fun h4 e4 => ⟨hb_i hb0 e4, Or.inl ⟨by omega, c1, rfl, fr_i fr_0 e4 ⟨rfl, rfl⟩, mv_i e4⟩⟩⟩, fun c1 => ⟨hb0, Or.inr ⟨by omega, rfl, rfl⟩⟩⟩
