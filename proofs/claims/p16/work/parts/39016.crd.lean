/-! ===== the class's reader: items but voices ===== -/
/-- the score at s tells the memory; its names too -/
def RSc (μ : pm_T) (s : Nat) (h : ah_T) : Prop := (h.2.1 s 4 = μ 0 0 ∧ h.2.1 s 2 = μ 0 1 ∧ h.2.1 s 3 = μ 0 2 ∧ h.2.1 s 6 = μ 0 3 ∧ h.2.1 s 10 = μ 0 4 ∧ h.2.1 s 12 = μ 0 5 ∧ h.2.1 2 3 = μ 0 6 ∧ h.2.1 s 1 = μ 0 7) ∧
  ((0 ≤ μ 0 3 ∧ μ 0 3 ≤ 8) ∧ (0 ≤ μ 0 4 ∧ μ 0 4 ≤ 24) ∧ (0 ≤ μ 0 5 ∧ μ 0 5 ≤ 12) ∧ (0 ≤ μ 0 6 ∧ μ 0 6 ≤ 16) ∧ (0 ≤ μ 0 7 ∧ μ 0 7 ≤ 4)) ∧
  (∀ j : Nat, (j : Int) < μ 0 3 → h.2.1 (s + 2) j = μ 1 j) ∧ (∀ j : Nat, (j : Int) < μ 0 4 → h.2.1 (s + 3) j = μ 2 j ∧ h.2.1 (s + 4) j = μ 3 j ∧ h.2.1 (s + 5) j = μ 4 j) ∧ (∀ j : Nat, (j : Int) < μ 0 5 → h.2.1 (s + 6) j = μ 5 j) ∧ (∀ j : Nat, (j : Int) < μ 0 6 → h.2.2.1 16 j = μ 6 j)
theorem RSc_f {μ : pm_T} {s : Nat} {W : Nat → Nat → Prop} {h h' : ah_T} (H : RSc μ s h) (f : fr W h h') (h1 : ∀ a k, s ≤ a → a ≤ s + 6 → ¬ W a k) (h2 : ¬ W 2 3) (h3 : ∀ k, ¬ W 16 k) : RSc μ s h' := by
  have g : ∀ o k, o ≤ 6 → h'.2.1 (s + o) k = h.2.1 (s + o) k := fun o k ho => fr_g f (h1 _ _ (by omega) (by omega))
  have g0 : ∀ k, h'.2.1 s k = h.2.1 s k := fun k => g 0 k (by decide)
  obtain ⟨a1, a2, a3, a4, a5, a6⟩ := H
  refine ⟨?_, a2, fun j hj => ?_, fun j hj => ?_, fun j hj => ?_, fun j hj => ?_⟩
  · rw [g0, g0, g0, g0, g0, g0, g0, fr_g f h2]; exact a1
  · rw [g 2 j (by decide)]; exact a3 j hj
  · rw [g 3 j (by decide), g 4 j (by decide), g 5 j (by decide)]; exact a4 j hj
  · rw [g 6 j (by decide)]; exact a5 j hj
  · rw [fr_gl f (h3 j)]; exact a6 j hj
def RCs (t : tk_T) (m i : Nat) (μ : pm_T) (s : Nat) (h : ah_T) : Prop := RCt t m i h ∧ RSc μ s h ∧ h.2.1 2 6 = 0
/-- what reading writes -/
abbrev WR (s : Nat) : Nat → Nat → Prop := fun a k => (a = 3 ∧ (k = 5 ∨ 9 ≤ k)) ∨ (a = 2 ∧ (k = 3 ∨ 6 ≤ k)) ∨ a = 16 ∨ (s ≤ a ∧ a ≤ s + 6)
def PBc (t : tk_T) (m s : Nat) (R : F_T ⊕ (Nat × pm_T)) (z : Int) (h' : ah_T) : Prop := match R with
  | .inl q => z = 0 ∧ h'.2.1 2 6 = q.1 ∧ h'.2.1 2 7 = q.2
  | .inr q => z = 1 ∧ RCs t m q.1 q.2 s h'
abbrev QB (t : tk_T) (m s : Nat) (R : F_T ⊕ (Nat × pm_T)) (h : ah_T) : Option av_T → ah_T → Prop := fun r h' => ∃ z, r = some (av_I z) ∧ hb s h' ∧ fr (WR s) h h' ∧ (z = 0 ∨ z = 1) ∧ PBc t m s R z h'
theorem t_Reader_blame {G : cx_T} {s : Nat} {h : ah_T} {a1 a2 : Int} (hb0 : hb s h) : con G 0 0 0 m_Reader_blame [av_R (some 2), av_I a1, av_I a2] h (fun r h' => ∃ z, r = some (av_I z) ∧ hb s h' ∧ fr (WR s) h h' ∧ z = 0 ∧ h'.2.1 2 6 = a1 ∧ h'.2.1 2 7 = a2) := by
  refine c_Reader_blame hb0 (fun _ _ => ?_)
  unfold B_Reader_blame_0
  intro h1 e1 h3 e3
  exact ⟨0, rfl, hb_i (hb_i hb0 e1) e3, fr_i (fr_i fr_0 e1 (Or.inr (Or.inl ⟨rfl, by decide⟩))) e3 (Or.inr (Or.inl ⟨rfl, by decide⟩)), rfl, by rw [mm_i e3 (by decide), mv_i e1], mv_i e3⟩
theorem t_Reader_refuse {G : cx_T} {s : Nat} {h : ah_T} {t : tk_T} {m i : Nat} (hb0 : hb s h) (H : RCt t m i h) : con G 0 0 0 m_Reader_refuse [av_R (some 2)] h (fun r h' => ∃ z, r = some (av_I z) ∧ hb s h' ∧ fr (WR s) h h' ∧ z = 0 ∧ h'.2.1 2 6 = (cn t i).1 ∧ h'.2.1 2 7 = (cn t i).2) := by
  obtain ⟨-, -, -, -, -, r6, r7, -, -⟩ := H
  refine c_Reader_refuse hb0 ?_
  unfold B_Reader_refuse_0 B_Reader_refuse_19 cn
  intro x2 e2 _ _
  refine ⟨fun c h1 e1 x4 e4 _ _ h5 e5 => ⟨0, rfl, hb_i (hb_i hb0 e1) e5, fr_i (fr_i fr_0 e1 (Or.inr (Or.inl ⟨rfl, by decide⟩))) e5 (Or.inr (Or.inl ⟨rfl, by decide⟩)), rfl, ?_, ?_⟩, fun c h1 e1 x4 e4 _ _ h5 e5 => ⟨0, rfl, hb_i (hb_i hb0 e1) e5, fr_i (fr_i fr_0 e1 (Or.inr (Or.inl ⟨rfl, by decide⟩))) e5 (Or.inr (Or.inl ⟨rfl, by decide⟩)), rfl, ?_, ?_⟩⟩
  · rw [mm_i e5 (by decide), mv_i e1, if_pos (by omega)]
  · rw [mv_i e5, e4, mm_i e1 (by decide), r7]
  · rw [mm_i e5 (by decide), mv_i e1, if_neg (by omega)]
  · rw [mv_i e5, e4, mm_i e1 (by decide), r7]
theorem RCt_R {t : tk_T} {m i : Nat} {h h' : ah_T} {W : Nat → Nat → Prop} (H : RCt t m i h) (f : fr W h h') (hW : ∀ a k, W a k → a < 3 ∨ 7 < a) : RCt t m i h' := RCt_f H f hW
theorem WN_R {s : Nat} : ∀ a k, WN a k → WR s a k := fun _ _ q => Or.inl q
/-- one token further -/
theorem t_Reader_step {G : cx_T} {s : Nat} {h : ah_T} {t : tk_T} {m i : Nat} {μ : pm_T} (hb0 : hb s h) (H : RCs t m i μ s h) (hi : i + 1 < m) : con G 0 0 0 m_Tokens_next [av_R (some 3)] h (fun r h' => r = none ∧ hb s h' ∧ fr (WR s) h h' ∧ RCs t m (i + 1) μ s h') := by
  have hs : s = 17 ∨ s = 80 := hb0.2.1
  refine con_mono (t_Tokens_next hb0 H.1 hi) ?_
  rintro r h' ⟨rfl, hb1, f1, r1⟩
  exact ⟨rfl, hb1, fr_w f1 WN_R, r1, RSc_f H.2.1 f1 (fun a k p q w => by omega) (fun w => by omega) (fun k w => by omega), (fr_g f1 (by omega)).trans H.2.2⟩
theorem t_Reader_take {G : cx_T} {s : Nat} {h : ah_T} {t : tk_T} {m i : Nat} {μ : pm_T} {k : Int} (hb0 : hb s h) (H : RCs t m i μ s h) (hg : tK t i = k → i + 1 < m) : con G 1 0 0 m_Reader_take [av_R (some 2), av_I k] h (QB t m s (bnd (sp_take t i k) fun _ => .inr (i + 1, μ)) h) := by
  refine c_Reader_take hb0 (fun _ => ?_)
  unfold B_Reader_take_0
  intro x2 e2 _ _
  have ek : x2 = tK t i := e2.trans H.1.2.2.2.2.2.1
  refine ⟨fun c => ?_, fun c => ?_⟩
  · refine con_mono (t_Reader_step hb0 H (hg (by omega))) ?_
    rintro r h' ⟨rfl, hb1, f1, r1⟩
    refine ⟨rfl, hb1, 1, rfl, hb1, f1, Or.inr rfl, ?_⟩
    rw [sp_take, if_pos (by omega)]
    exact ⟨rfl, r1⟩
  · refine con_mono (t_Reader_refuse hb0 H.1) ?_
    rintro r h' ⟨z, rfl, hb1, f1, rfl, r1, r2⟩
    refine ⟨0, rfl, hb1, Or.inl rfl, 0, rfl, hb1, f1, Or.inl rfl, ?_⟩
    rw [sp_take, if_neg (by omega)]
    exact ⟨rfl, r1, r2⟩
def PNc (t : tk_T) (m i s : Nat) (μ : pm_T) (R : F_T ⊕ Int) (z : Int) (h' : ah_T) : Prop := match R with
  | .inl q => z = 0 ∧ h'.2.1 2 6 = q.1 ∧ h'.2.1 2 7 = q.2
  | .inr v => z = v ∧ 1 ≤ v ∧ v ≤ 64 ∧ RCs t m (i + 1) μ s h'
