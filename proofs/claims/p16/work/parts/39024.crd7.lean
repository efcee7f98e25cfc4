/-! ===== the class: the parts of a voice told; a sound read ===== -/
def SC (π : pm_T) (v j b : Nat) (h : ah_T) : Prop := h.2.1 (v + 3) b = π 19 j ∧ ∀ p : Nat, (p : Int) < π 5 j → h.2.1 (v + 1) ((π 19 j).toNat + p) = π (6 + p) j ∧ h.2.1 (v + 2) ((π 19 j).toNat + p) = π (10 + p) j
def ECp (π : pm_T) (v j : Nat) (h : ah_T) : Prop := (h.2.1 12 j = π 18 j ∧ h.2.1 (v + 4) (π 18 j).toNat = π 2 j ∧ h.2.1 (v + 5) (π 18 j).toNat = π 3 j ∧ h.2.1 (v + 6) (π 18 j).toNat = π 4 j) ∧ h.2.1 (v + 3) ((π 18 j).toNat + 1) = π 19 j + π 5 j ∧ SC π v j (π 18 j).toNat h
def RPj (π : pm_T) (v j : Nat) (h : ah_T) : Prop := (h.2.1 10 j = π 1 j ∧ h.2.1 11 j = π 14 j) ∧ (π 1 j = 256 → ECp π v j h) ∧ (π 1 j = 123 → h.2.1 12 j = π 2 j ∧ h.2.1 13 j = π 3 j)
def RPc (π : pm_T) (v : Nat) (h : ah_T) : Prop := (h.2.1 9 4 = π 0 0 ∧ h.2.1 9 7 = π 0 1 ∧ h.2.1 2 4 = π 0 2 ∧ h.2.1 v 7 = π 0 3 ∧ h.2.1 v 2 = π 0 4) ∧ (∀ d : Nat, (d : Int) < π 0 1 → h.2.1 14 d = π 15 d ∧ h.2.1 15 d = π 16 d) ∧ ∀ j : Nat, (j : Int) < π 0 0 → RPj π v j h
/-- cells of sound j, that stand below b sounds and n pitches, as they were -/
theorem SC_c {π π' : pm_T} {v j b : Nat} {h h' : ah_T} {n : Int} (H : SC π v j b h) (S : SO π j) (hn : π 19 j + π 5 j ≤ n) (e : ∀ a, (5 ≤ a ∧ a ≤ 13) ∨ a = 19 → π' a j = π a j) (g3 : h'.2.1 (v + 3) b = h.2.1 (v + 3) b) (g : ∀ k : Nat, (k : Int) < n → h'.2.1 (v + 1) k = h.2.1 (v + 1) k ∧ h'.2.1 (v + 2) k = h.2.1 (v + 2) k) : SC π' v j b h' := by
  obtain ⟨h1, h2⟩ := H
  obtain ⟨s1, s2, -, -⟩ := S
  have e5 := e 5 (by omega)
  have e19 := e 19 (by omega)
  refine ⟨by rw [g3, e19]; exact h1, fun p hp => ?_⟩
  rw [e5] at hp
  obtain ⟨g1, g2⟩ := g ((π 19 j).toNat + p) (by omega)
  rw [e19, g1, g2, e (6 + p) (by omega), e (10 + p) (by omega)]
  exact h2 p hp
theorem ECp_c {π π' : pm_T} {v j : Nat} {h h' : ah_T} {n b : Int} (H : ECp π v j h) (S : EVp π j) (hn : π 0 4 ≤ n) (hb : π 0 3 ≤ b) (e : ∀ a, (2 ≤ a ∧ a ≤ 13) ∨ a = 18 ∨ a = 19 → π' a j = π a j) (g12 : h'.2.1 12 j = h.2.1 12 j) (g4 : ∀ k : Nat, (k : Int) < b → h'.2.1 (v + 4) k = h.2.1 (v + 4) k ∧ h'.2.1 (v + 5) k = h.2.1 (v + 5) k ∧ h'.2.1 (v + 6) k = h.2.1 (v + 6) k) (g3 : ∀ k : Nat, (k : Int) ≤ b → h'.2.1 (v + 3) k = h.2.1 (v + 3) k) (g : ∀ k : Nat, (k : Int) < n → h'.2.1 (v + 1) k = h.2.1 (v + 1) k ∧ h'.2.1 (v + 2) k = h.2.1 (v + 2) k) : ECp π' v j h' := by
  obtain ⟨⟨a1, a2, a3, a4⟩, a5, a6⟩ := H
  obtain ⟨-, s2, s3, s4⟩ := S
  have e18 := e 18 (by omega)
  obtain ⟨q4, q5, q6⟩ := g4 (π 18 j).toNat (by omega)
  refine ⟨⟨by rw [g12, e18]; exact a1, ?_, ?_, ?_⟩, ?_, ?_⟩
  · rw [e18, q4, e 2 (by omega)]; exact a2
  · rw [e18, q5, e 3 (by omega)]; exact a3
  · rw [e18, q6, e 4 (by omega)]; exact a4
  · rw [e18, g3 _ (by omega), e 19 (by omega), e 5 (by omega)]; exact a5
  · rw [e18]; exact SC_c a6 s4 (n := n) (by omega) (fun a q => e a (by omega)) (g3 _ (by omega)) g
theorem RPj_c {π π' : pm_T} {v j : Nat} {h h' : ah_T} {n b : Int} (H : RPj π v j h) (S : PJ π j) (hn : π 0 4 ≤ n) (hb : π 0 3 ≤ b) (e : ∀ a, (1 ≤ a ∧ a ≤ 13) ∨ a = 18 ∨ a = 19 → π' a j = π a j) (g10 : h'.2.1 10 j = h.2.1 10 j) (g11 : h'.2.1 11 j = π' 14 j) (g12 : h'.2.1 12 j = h.2.1 12 j ∧ h'.2.1 13 j = h.2.1 13 j) (g4 : ∀ k : Nat, (k : Int) < b → h'.2.1 (v + 4) k = h.2.1 (v + 4) k ∧ h'.2.1 (v + 5) k = h.2.1 (v + 5) k ∧ h'.2.1 (v + 6) k = h.2.1 (v + 6) k) (g3 : ∀ k : Nat, (k : Int) ≤ b → h'.2.1 (v + 3) k = h.2.1 (v + 3) k) (g : ∀ k : Nat, (k : Int) < n → h'.2.1 (v + 1) k = h.2.1 (v + 1) k ∧ h'.2.1 (v + 2) k = h.2.1 (v + 2) k) : RPj π' v j h' := by
  obtain ⟨⟨a1, a2⟩, a3, a4⟩ := H
  have e1 := e 1 (by omega)
  refine ⟨⟨by rw [g10, e1]; exact a1, g11⟩, fun q => ?_, fun q => ?_⟩
  · rw [e1] at q
    exact ECp_c (a3 q) (S.2.1 q) hn hb (fun a w => e a (by omega)) g12.1 g4 g3 g
  · rw [e1] at q
    rw [g12.1, g12.2, e 2 (by omega), e 3 (by omega)]; exact a4 q
/-- the parts stay; the counts of admitted and of pitches, and the sound being read, may change -/
theorem RPc_s {π π' : pm_T} {v : Nat} {h h' : ah_T} {W : Nat → Nat → Prop} (H : RPc π v h) (P : PW π) (f : fr W h h') (hW : ∀ a k, W a k → ((a ≤ 8 ∧ (a = 2 → 4 ≤ k)) ∨ (a = v ∧ k = 2) ∨ ((a = v + 1 ∨ a = v + 2) ∧ π 0 4 ≤ k))) (v24 : 24 ≤ v) (e : ∀ a k, (k ≠ sz π ∧ (a ≠ 0 ∨ (k ≠ 2 ∧ k ≠ 4))) ∨ (14 ≤ a ∧ a ≤ 16) → π' a k = π a k) (e0 : π' 0 0 = π 0 0 ∧ π' 0 1 = π 0 1 ∧ π' 0 3 = π 0 3) (e2 : h'.2.1 2 4 = π' 0 2) (e4 : h'.2.1 v 2 = π' 0 4) : RPc π' v h' := by
  obtain ⟨⟨a1, a2, a3, a4, a5⟩, hd, hj⟩ := H
  obtain ⟨c0, c1, c3⟩ := e0
  have g : ∀ (a k : Nat), ¬ ((a ≤ 8 ∧ (a = 2 → 4 ≤ k)) ∨ (a = v ∧ k = 2) ∨ ((a = v + 1 ∨ a = v + 2) ∧ π 0 4 ≤ k)) → h'.2.1 a k = h.2.1 a k := fun a k q => fr_g f (fun w => q (hW a k w))
  refine ⟨⟨?_, ?_, e2, ?_, e4⟩, fun d hd' => ?_, fun j hj' => ?_⟩
  · rw [g _ _ (by omega), c0]; exact a1
  · rw [g _ _ (by omega), c1]; exact a2
  · rw [g _ _ (by omega), c3]; exact a4
  · rw [c1] at hd'
    rw [g _ _ (by omega), g _ _ (by omega), e _ _ (by omega), e _ _ (by omega)]; exact hd d hd'
  · rw [c0] at hj'
    have nz : j ≠ sz π := by unfold sz; omega
    refine RPj_c (hj j hj') (P.2.2 j hj') (Int.le_refl _) (Int.le_refl _) (fun a q => e a j (Or.inl ⟨nz, by omega⟩)) (g _ _ (by omega)) ?_ ⟨g _ _ (by omega), g _ _ (by omega)⟩ (fun k hk => ⟨g _ _ (by omega), g _ _ (by omega), g _ _ (by omega)⟩) (fun k hk => g _ _ (by omega)) (fun k hk => ⟨g _ _ (by omega), g _ _ (by omega)⟩)
    rw [g _ _ (by omega), e _ _ (by omega)]; exact (hj j hj').1.2
theorem RPc_t {π : pm_T} {v : Nat} {h h' : ah_T} (H : RPc π v h) (P : PW π) (f : fr WT h h') (v24 : 24 ≤ v) : RPc π v h' :=
  RPc_s H P (f := fr_w (W := fun a k => (a = 3 ∧ (k = 5 ∨ 9 ≤ k)) ∨ (a = 2 ∧ 6 ≤ k)) f (fun _ _ w => w)) (fun a k w => by omega) v24 (fun _ _ _ => rfl) ⟨rfl, rfl, rfl⟩ ((fr_g f (by omega)).trans H.1.2.2.1) ((fr_g f (by omega)).trans H.1.2.2.2.2)
/-- what reading keeps: the tokens at i, the score, the parts of the voice v -/
def VSp (t : tk_T) (m i : Nat) (μ : pm_T) (s : Nat) (π : pm_T) (v : Nat) (h : ah_T) : Prop := RCs t m i μ s h ∧ RPc π v h
theorem RCs_p {t : tk_T} {m i : Nat} {μ : pm_T} {s v : Nat} {h h' : ah_T} {W : Nat → Nat → Prop} (H : RCs t m i μ s h) (f : fr W h h') (hs : s = 17 ∨ s = 80) (hv : isV v) (hW : ∀ a k, W a k → (a = 2 ∧ k = 4) ∨ (9 ≤ a ∧ a ≤ 15) ∨ (v ≤ a ∧ a ≤ v + 13)) : RCs t m i μ s h' := by
  unfold isV at hv
  exact ⟨RCt_f H.1 f (fun a k q => by have := hW a k q; omega), RSc_f H.2.1 f (fun a k p q w => by have := hW a k w; omega) (fun w => by have := hW _ _ w; omega) (fun k w => by have := hW _ _ w; omega), (fr_g f (fun q => by have := hW _ _ q; omega)).trans H.2.2⟩
theorem t_Reader_admit {G : cx_T} {s v : Nat} {h : ah_T} {t : tk_T} {m i : Nat} {μ π : pm_T} (hb0 : hb s h) (hv : isV v) (H : RCs t m i μ s h) (hi : i + 1 < m) (ha : h.2.1 2 4 = π 0 2) (ha0 : 0 ≤ π 0 2) : con G 1 0 0 m_Reader_admit [av_R (some 2)] h (fun r h' => ∃ z, r = some (av_I z) ∧ hb s h' ∧ fr (fun a k => WT a k ∨ (a = 2 ∧ k = 4)) h h' ∧ ((π 0 2 < 300 ∧ z = 1 ∧ RCs t m (i + 1) μ s h' ∧ h'.2.1 2 4 = π 0 2 + 1) ∨ (¬ π 0 2 < 300 ∧ z = 0 ∧ h'.2.1 2 6 = 3 ∧ h'.2.1 2 7 = tP t i))) := by
  have hs : s = 17 ∨ s = 80 := hb0.2.1
  refine c_Reader_admit hb0 ?_
  unfold B_Reader_admit_0
  intro x1 e1 _ _
  have ex : x1 = π 0 2 := e1.trans ha
  refine ⟨fun c => ⟨⟨by omega, by omega⟩, fun h4 e4 => ?_⟩, fun c x11 e11 _ _ => ?_⟩
  · have f4 : fr (fun a k => a = 2 ∧ k = 4) h h4 := fr_i fr_0 e4 ⟨rfl, rfl⟩
    have H4 := RCs_p H f4 hs hv (fun a k w => Or.inl w)
    refine con_mono (tt_Reader_step (hb_i hb0 e4) H4 hi) ?_
    rintro r h' ⟨rfl, hb1, f1, R1⟩
    refine ⟨rfl, hb1, 1, rfl, hb1, fr_t (fr_w f4 (fun _ _ w => Or.inr w)) f1 (fun _ _ w => Or.inl w), Or.inl ⟨by omega, rfl, R1, ?_⟩⟩
    rw [fr_g f1 (by omega), mv_i e4, ex]
  · refine con_mono (tt_Reader_blame hb0) ?_
    rintro r h' ⟨z, rfl, hb1, f1, rfl, r1, r2⟩
    exact ⟨0, rfl, hb1, Or.inl rfl, 0, rfl, hb1, fr_w f1 (fun _ _ w => Or.inl w), Or.inr ⟨by omega, rfl, r1, by rw [r2, e11, (RCs_b H).2.1]⟩⟩
/-- a sound read -/
def PSc (t : tk_T) (m s : Nat) (μ : pm_T) (v : Nat) (R : F_T ⊕ (Nat × pm_T)) (z : Int) (h' : ah_T) : Prop := match R with
  | .inl q => z = 0 ∧ h'.2.1 2 6 = q.1 ∧ h'.2.1 2 7 = q.2
  | .inr q => z = 1 ∧ VSp t m q.1 μ s q.2 v h' ∧ PW q.2 ∧ PS q.2 ∧ SC q.2 v (sz q.2) (q.2 0 3).toNat h' ∧ q.2 0 3 < q.2 0 2
abbrev QS (t : tk_T) (m s : Nat) (μ : pm_T) (v : Nat) (R : F_T ⊕ (Nat × pm_T)) (h : ah_T) : Option av_T → ah_T → Prop := fun r h' => ∃ z, r = some (av_I z) ∧ hb s h' ∧ fr (WP v) h h' ∧ (z = 0 ∨ z = 1) ∧ PSc t m s μ v R z h'
