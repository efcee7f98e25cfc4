/-! ===== the class: the parts of a voice told; a sound read ===== -/
def SC (π : pm_T) (v j b : Nat) (h : ah_T) : Prop := h.2.1 (v + 3) b = π 19 j ∧ ∀ p : Nat, (p : Int) < π 5 j → h.2.1 (v + 1) ((π 19 j).toNat + p) = π (6 + p) j ∧ h.2.1 (v + 2) ((π 19 j).toNat + p) = π (10 + p) j
def ECp (π : pm_T) (v j : Nat) (h : ah_T) : Prop := (h.2.1 12 j = π 18 j ∧ h.2.1 (v + 4) (π 18 j).toNat = π 2 j ∧ h.2.1 (v + 5) (π 18 j).toNat = π 3 j ∧ h.2.1 (v + 6) (π 18 j).toNat = π 4 j) ∧ h.2.1 (v + 3) ((π 18 j).toNat + 1) = π 19 j + π 5 j ∧ SC π v j (π 18 j).toNat h
def RPj (π : pm_T) (v j : Nat) (h : ah_T) : Prop := (h.2.1 10 j = π 1 j ∧ h.2.1 11 j = π 14 j) ∧ (π 1 j = 256 → ECp π v j h) ∧ (π 1 j = 123 → h.2.1 12 j = π 2 j ∧ h.2.1 13 j = π 3 j)
def RPc (π : pm_T) (v : Nat) (h : ah_T) : Prop := (h.2.1 9 4 = π 0 0 ∧ h.2.1 9 7 = π 0 1 ∧ h.2.1 2 4 = π 0 2 ∧ h.2.1 v 7 = π 0 3 ∧ h.2.1 v 2 = π 0 4) ∧ (∀ d : Nat, (d : Int) < π 0 1 → h.2.1 14 d = π 15 d ∧ h.2.1 15 d = π 16 d) ∧ ∀ j : Nat, (j : Int) < π 0 0 → RPj π v j h
/-- cells of sound j, that stand below b sounds and n pitches, as they were -/
theorem SC_c {π π' : pm_T} {v j b : Nat} {h h' : ah_T} {n : Int} (H : SC π v j b h) (S : SO π j) (hn : π 19 j + π 5 j ≤ n) (e : ∀ a, (5 ≤ a ∧ a ≤ 13) ∨ a = 19 → π' a j = π a j) (g3 : h'.2.1 (v + 3) b = h.2.1 (v + 3) b) (g : ∀ k : Nat, (k : Int) < n → h'.2.1 (v + 1) k = h.2.1 (v + 1) k ∧ h'.2.1 (v + 2) k = h.2.1 (v + 2) k) : SC π' v j b h' := by
  obtain ⟨h1, h2⟩ := H
  obtain ⟨s1, s2, -, -⟩ := S
  have e5 := e 5 (by omega)
  have e19 := e 19 (by omega)
  refine ⟨by rw [g3, e19]; exact h1, fun p hp => ?_⟩
  rw [e5] at hp
  obtain ⟨g1, g2⟩ := g ((π 19 j).toNat + p) (by omega)
  rw [e19, g1, g2, e (6 + p) (by omega), e (10 + p) (by omega)]
  exact h2 p hp
theorem ECp_c {π π' : pm_T} {v j : Nat} {h h' : ah_T} {n b : Int} (H : ECp π v j h) (S : EVp π j) (hn : π 0 4 ≤ n) (hb : π 0 3 ≤ b) (e : ∀ a, (2 ≤ a ∧ a ≤ 13) ∨ a = 18 ∨ a = 19 → π' a j = π a j) (g12 : h'.2.1 12 j = h.2.1 12 j) (g4 : ∀ k : Nat, (k : Int) < b → h'.2.1 (v + 4) k = h.2.1 (v + 4) k ∧ h'.2.1 (v + 5) k = h.2.1 (v + 5) k ∧ h'.2.1 (v + 6) k = h.2.1 (v + 6) k) (g3 : ∀ k : Nat, (k : Int) ≤ b → h'.2.1 (v + 3) k = h.2.1 (v + 3) k) (g : ∀ k : Nat, (k : Int) < n → h'.2.1 (v + 1) k = h.2.1 (v + 1) k ∧ h'.2.1 (v + 2) k = h.2.1 (v + 2) k) : ECp π' v j h' := by
  obtain ⟨⟨a1, a2, a3, a4⟩, a5, a6⟩ := H
  obtain ⟨-, s2, s3, s4⟩ := S
  have e18 := e 18 (by omega)
  obtain ⟨q4, q5, q6⟩ := g4 (π 18 j).toNat (by omega)
  refine ⟨⟨by rw [g12, e18]; exact a1, ?_, ?_, ?_⟩, ?_, ?_⟩
  · rw [e18, q4, e 2 (by omega)]; exact a2
  · rw [e18, q5, e 3 (by omega)]; exact a3
  · rw [e18, q6, e 4 (by omega)]; exact a4
  · rw [e18, g3 _ (by omega), e 19 (by omega), e 5 (by omega)]; exact a5
  · rw [e18]; exact SC_c a6 s4 (n := n) (by omega) (fun a q => e a (by omega)) (g3 _ (by omega)) g
theorem RPj_c {π π' : pm_T} {v j : Nat} {h h' : ah_T} {n b : Int} (H : RPj π v j h) (S : PJ π j) (hn : π 0 4 ≤ n) (hb : π 0 3 ≤ b) (e : ∀ a, (1 ≤ a ∧ a ≤ 13) ∨ a = 18 ∨ a = 19 → π' a j = π a j) (g10 : h'.2.1 10 j = h.2.1 10 j) (g11 : h'.2.1 11 j = π' 14 j) (g12 : h'.2.1 12 j = h.2.1 12 j ∧ h'.2.1 13 j = h.2.1 13 j) (g4 : ∀ k : Nat, (k : Int) < b → h'.2.1 (v + 4) k = h.2.1 (v + 4) k ∧ h'.2.1 (v + 5) k = h.2.1 (v + 5) k ∧ h'.2.1 (v + 6) k = h.2.1 (v + 6) k) (g3 : ∀ k : Nat, (k : Int) ≤ b → h'.2.1 (v + 3) k = h.2.1 (v + 3) k) (g : ∀ k : Nat, (k : Int) < n → h'.2.1 (v + 1) k = h.2.1 (v + 1) k ∧ h'.2.1 (v + 2) k = h.2.1 (v + 2) k) : RPj π' v j h' := by
  obtain ⟨⟨a1, a2⟩, a3, a4⟩ := H
  have e1 := e 1 (by omega)
  refine ⟨⟨by rw [g10, e1]; exact a1, g11⟩, fun q => ?_, fun q => ?_⟩
  · rw [e1] at q
    exact ECp_c (a3 q) (S.2.1 q) hn hb (fun a w => e a (by omega)) g12.1 g4 g3 g
  · rw [e1] at q
    rw [g12.1, g12.2, e 2 (by omega), e 3 (by omega)]; exact a4 q
/-- the parts stay; the counts of admitted and of pitches, and the sound being read, may change -/
theorem RPc_s {π π' : pm_T} {v : Nat} {h h' : ah_T} {W : Nat → Nat → Prop} (H : RPc π v h) (P : PW π) (f : fr W h h') (hW : ∀ a k, W a k → ((a ≤ 8 ∧ (a = 2 → 4 ≤ k)) ∨ (a = v ∧ k = 2) ∨ ((a = v + 1 ∨ a = v + 2) ∧ π 0 4 ≤ k))) (v24 : 24 ≤ v) (e : ∀ a k, (k ≠ sz π ∧ (a ≠ 0 ∨ (k ≠ 2 ∧ k ≠ 4))) ∨ (14 ≤ a ∧ a ≤ 16) → π' a k = π a k) (e0 : π' 0 0 = π 0 0 ∧ π' 0 1 = π 0 1 ∧ π' 0 3 = π 0 3) (e2 : h'.2.1 2 4 = π' 0 2) (e4 : h'.2.1 v 2 = π' 0 4) : RPc π' v h' := by
  obtain ⟨⟨a1, a2, a3, a4, a5⟩, hd, hj⟩ := H
  obtain ⟨c0, c1, c3⟩ := e0
  have g : ∀ (a k : Nat), ¬ ((a ≤ 8 ∧ (a = 2 → 4 ≤ k)) ∨ (a = v ∧ k = 2) ∨ ((a = v + 1 ∨ a = v + 2) ∧ π 0 4 ≤ k)) → h'.2.1 a k = h.2.1 a k := fun a k q => fr_g f (fun w => q (hW a k w))
  refine ⟨⟨?_, ?_, e2, ?_, e4⟩, fun d hd' => ?_, fun j hj' => ?_⟩
  · rw [g _ _ (by omega), c0]; exact a1
  · rw [g _ _ (by omega), c1]; exact a2
  · rw [g _ _ (by omega), c3]; exact a4
  · rw [c1] at hd'
    rw [g _ _ (by omega), g _ _ (by omega), e _ _ (by omega), e _ _ (by omega)]; exact hd d hd'
  · rw [c0] at hj'
    have nz : j ≠ sz π := by unfold sz; omega
    refine RPj_c (hj j hj') (P.2.2 j hj') (Int.le_refl _) (Int.le_refl _) (fun a q => e a j (Or.inl ⟨nz, by omega⟩)) (g _ _ (by omega)) ?_ ⟨g _ _ (by omega), g _ _ (by omega)⟩ (fun k hk => ⟨g _ _ (by omega), g _ _ (by omega), g _ _ (by omega)⟩) (fun k hk => g _ _ (by omega)) (fun k hk => ⟨g _ _ (by omega), g _ _ (by omega)⟩)
    rw [g _ _ (by omega), e _ _ (by omega)]; exact (hj j hj').1.2
theorem RPc_t {π : pm_T} {v : Nat} {h h' : ah_T} (H : RPc π v h) (P : PW π) (f : fr WT h h') (v24 : 24 ≤ v) : RPc π v h' :=
  RPc_s H P (f := fr_w (W := fun a k => (a = 3 ∧ (k = 5 ∨ 9 ≤ k)) ∨ (a = 2 ∧ 6 ≤ k)) f (fun _ _ w => w)) (fun a k w => by omega) v24 (fun _ _ _ => rfl) ⟨rfl, rfl, rfl⟩ ((fr_g f (by omega)).trans H.1.2.2.1) ((fr_g f (by omega)).trans H.1.2.2.2.2)
/-- what reading keeps: the tokens at i, the score, the parts of the voice v -/
def VSp (t : tk_T) (m i : Nat) (μ : pm_T) (s : Nat) (π : pm_T) (v : Nat) (h : ah_T) : Prop := RCs t m i μ s h ∧ RPc π v h
theorem RCs_p {t : tk_T} {m i : Nat} {μ : pm_T} {s v : Nat} {h h' : ah_T} {W : Nat → Nat → Prop} (H : RCs t m i μ s h) (f : fr W h h') (hs : s = 17 ∨ s = 80) (hv : isV v) (hW : ∀ a k, W a k → (a = 2 ∧ k = 4) ∨ (9 ≤ a ∧ a ≤ 15) ∨ (v ≤ a ∧ a ≤ v + 13)) : RCs t m i μ s h' := by
  unfold isV at hv
  exact ⟨RCt_f H.1 f (fun a k q => by have := hW a k q; omega), RSc_f H.2.1 f (fun a k p q w => by have := hW a k w; omega) (fun w => by have := hW _ _ w; omega) (fun k w => by have := hW _ _ w; omega), (fr_g f (fun q => by have := hW _ _ q; omega)).trans H.2.2⟩
theorem t_Reader_admit {G : cx_T} {s v : Nat} {h : ah_T} {t : tk_T} {m i : Nat} {μ π : pm_T} (hb0 : hb s h) (hv : isV v) (H : RCs t m i μ s h) (hi : i + 1 < m) (ha : h.2.1 2 4 = π 0 2) (ha0 : 0 ≤ π 0 2) : con G 1 0 0 m_Reader_admit [av_R (some 2)] h (fun r h' => ∃ z, r = some (av_I z) ∧ hb s h' ∧ fr (fun a k => WT a k ∨ (a = 2 ∧ k = 4)) h h' ∧ ((π 0 2 < 300 ∧ z = 1 ∧ RCs t m (i + 1) μ s h' ∧ h'.2.1 2 4 = π 0 2 + 1) ∨ (¬ π 0 2 < 300 ∧ z = 0 ∧ h'.2.1 2 6 = 3 ∧ h'.2.1 2 7 = tP t i))) := by
  have hs : s = 17 ∨ s = 80 := hb0.2.1
  refine c_Reader_admit hb0 ?_
  unfold B_Reader_admit_0
  intro x1 e1 _ _
  have ex : x1 = π 0 2 := e1.trans ha
  refine ⟨fun c => ⟨⟨by omega, by omega⟩, fun h4 e4 => ?_⟩, fun c x11 e11 _ _ => ?_⟩
  · have f4 : fr (fun a k => a = 2 ∧ k = 4) h h4 := fr_i fr_0 e4 ⟨rfl, rfl⟩
    have H4 := RCs_p H f4 hs hv (fun a k w => Or.inl w)
    refine con_mono (tt_Reader_step (hb_i hb0 e4) H4 hi) ?_
    rintro r h' ⟨rfl, hb1, f1, R1⟩
    refine ⟨rfl, hb1, 1, rfl, hb1, fr_t (fr_w f4 (fun _ _ w => Or.inr w)) f1 (fun _ _ w => Or.inl w), Or.inl ⟨by omega, rfl, R1, ?_⟩⟩
    rw [fr_g f1 (by omega), mv_i e4, ex]
  · refine con_mono (tt_Reader_blame hb0) ?_
    rintro r h' ⟨z, rfl, hb1, f1, rfl, r1, r2⟩
    exact ⟨0, rfl, hb1, Or.inl rfl, 0, rfl, hb1, fr_w f1 (fun _ _ w => Or.inl w), Or.inr ⟨by omega, rfl, r1, by rw [r2, e11, (RCs_b H).2.1]⟩⟩
/-- a sound read -/
def PSc (t : tk_T) (m s : Nat) (μ : pm_T) (v : Nat) (R : F_T ⊕ (Nat × pm_T)) (z : Int) (h' : ah_T) : Prop := match R with
  | .inl q => z = 0 ∧ h'.2.1 2 6 = q.1 ∧ h'.2.1 2 7 = q.2
  | .inr q => z = 1 ∧ VSp t m q.1 μ s q.2 v h' ∧ PW q.2 ∧ PS q.2 ∧ SC q.2 v (sz q.2) (q.2 0 3).toNat h' ∧ q.2 0 3 < q.2 0 2
abbrev QS (t : tk_T) (m s : Nat) (μ : pm_T) (v : Nat) (R : F_T ⊕ (Nat × pm_T)) (h : ah_T) : Option av_T → ah_T → Prop := fun r h' => ∃ z, r = some (av_I z) ∧ hb s h' ∧ fr (WP v) h h' ∧ (z = 0 ∨ z = 1) ∧ PSc t m s μ v R z h'

/-! ===== the class: a sound read ===== -/
def RSp (π : pm_T) (v : Nat) (h : ah_T) : Prop := RPc π v h ∧ PW π ∧ PS π ∧ SC π v (sz π) (π 0 3).toNat h
theorem RSp_0 {π : pm_T} {v : Nat} {h : ah_T} (v24 : 24 ≤ v) (H : RPc π v h) (P : PW π) (hB : h.2.1 (v + 3) (π 0 3).toNat = π 0 4) : RSp (snd0 π) v h := by
  obtain ⟨p1, p2, p3⟩ := PW_snd0 P
  have g : ∀ a k, a ≠ 5 ∧ a ≠ 17 ∧ a ≠ 19 ∨ k ≠ sz π → snd0 π a k = π a k := fun a k q => by
    unfold snd0; rw [up2_o (by omega), up2_o (by omega), up2_o (by omega)]
  have v5 : snd0 π 5 (sz π) = 0 := by unfold snd0; rw [up2_o (by omega), up2_o (by omega), up2_at]
  have v19 : snd0 π 19 (sz π) = π 0 4 := by unfold snd0; rw [up2_at]
  refine ⟨RPc_s H P (fr_0 (W := fun _ _ => False)) (fun a k w => w.elim) v24 (fun a k q => g a k (by omega)) ⟨g _ _ (by omega), g _ _ (by omega), g _ _ (by omega)⟩ ?_ ?_, p1, p2, ?_⟩
  · rw [g _ _ (by omega)]; exact H.1.2.2.1
  · rw [g _ _ (by omega)]; exact H.1.2.2.2.2
  · rw [p3, g 0 3 (by omega)]
    exact ⟨by rw [v19]; exact hB, fun p hp => by omega⟩
theorem RSp_a {π : pm_T} {v : Nat} {h h' : ah_T} (v24 : 24 ≤ v) (R : RSp π v h) (f : fr (fun a k => WT a k ∨ (a = 2 ∧ k = 4)) h h') (h3 : π 0 2 < 300) (h2 : h'.2.1 2 4 = π 0 2 + 1) : RSp (adm π) v h' := by
  obtain ⟨H, P, S, C⟩ := R
  obtain ⟨p1, p2⟩ := PW_adm P S h3
  refine ⟨RPc_s H P f (fun a k w => by omega) v24 (fun a k q => adm_o (by omega)) ⟨adm_o (by omega), adm_o (by omega), adm_o (by omega)⟩ (by rw [adm_2, h2]) ?_, p1, p2, ?_⟩
  · rw [fr_g f (by omega), adm_o (by omega)]; exact H.1.2.2.2.2
  · rw [sz_adm, adm_o (by omega)]
    exact SC_c C S.1 (n := π 19 (sz π) + π 5 (sz π)) (Int.le_refl _) (fun a q => adm_o (by omega)) (fr_g f (by omega)) (fun k _ => ⟨fr_g f (by omega), fr_g f (by omega)⟩)
theorem RSp_t {π : pm_T} {v : Nat} {h h' : ah_T} (v24 : 24 ≤ v) (R : RSp π v h) (f : fr WT h h') : RSp π v h' := by
  obtain ⟨H, P, S, C⟩ := R
  exact ⟨RPc_t H P f v24, P, S, SC_c C S.1 (n := π 19 (sz π) + π 5 (sz π)) (Int.le_refl _) (fun _ _ => rfl) (fr_g f (by omega)) (fun k _ => ⟨fr_g f (by omega), fr_g f (by omega)⟩)⟩
/-- a PITCH and its admission -/
theorem RSp_p {π : pm_T} {v n j : Nat} {t : tk_T} {h h1 h' : ah_T} (v24 : 24 ≤ v) (R : RSp π v h) (hn : π 0 4 = (n : Int)) (f1 : fr (fun x k => (x = v ∧ k = 2) ∨ (x = v + 1 ∧ k = n) ∨ (x = v + 2 ∧ k = n)) h h1) (g1 : h1.2.1 v 2 = (n : Int) + 1 ∧ h1.2.1 (v + 1) n = tV' t j ∧ h1.2.1 (v + 2) n = tS t j) (f2 : fr (fun a k => WT a k ∨ (a = 2 ∧ k = 4)) h1 h') (h5 : π 5 (sz π) < 4) (h3 : π 0 2 < 300) (h2 : h'.2.1 2 4 = π 0 2 + 1) (hk : (-2 ≤ tV' t j ∧ tV' t j ≤ 109) ∧ 0 ≤ tS t j ∧ tS t j ≤ 62) : RSp (pch t j (sgt t j) (adm π)) v h' := by
  obtain ⟨H, P, S, C⟩ := R
  obtain ⟨p1, p2⟩ := PW_adm P S h3
  have P' := P
  obtain ⟨P0, -, -⟩ := P
  obtain ⟨⟨s1, s2, s3, s4⟩, s5, s6⟩ := S
  have a5 : adm π 5 (sz (adm π)) = π 5 (sz π) := by rw [sz_adm, adm_o (by omega)]
  obtain ⟨q1, q2⟩ := PW_pch (t := t) (i := j) p1 p2 (by rw [a5]; exact h5) (by rw [a5, adm_o (by omega), adm_2]; omega) (by rw [adm_o (by omega), adm_2]; omega) hk
  obtain ⟨e, en⟩ : ∃ e : Nat, π 5 (sz π) = (e : Int) := ⟨(π 5 (sz π)).toNat, by omega⟩
  have en' : adm π 5 (sz (adm π)) = (e : Int) := a5.trans en
  have f := fr_t (W := fun a k => WT a k ∨ (a = 2 ∧ k = 4) ∨ (a = v ∧ k = 2) ∨ ((a = v + 1 ∨ a = v + 2) ∧ k = n)) (fr_w f1 (fun a k w => by omega)) f2 (fun a k w => by omega)
  have po : ∀ a k, ¬ (a = 0 ∧ (k = 4 ∨ k = 2)) → (k ≠ sz π ∨ (a ≠ 5 ∧ a ≠ 17 ∧ a ≠ 6 + e ∧ a ≠ 10 + e)) → pch t j (sgt t j) (adm π) a k = π a k := fun a k q r => by
    rw [pch_o en' (by omega) (by rw [sz_adm]; omega), adm_o (by omega)]
  refine ⟨RPc_s H P' f (fun a k w => by omega) v24 (fun a k q => po a k (by omega) (by omega)) ⟨po _ _ (by omega) (by omega), po _ _ (by omega) (by omega), po _ _ (by omega) (by omega)⟩ ?_ ?_, q1, q2, ?_⟩
  · rw [pch_o en' (by omega) (by omega), adm_2, h2]
  · rw [pch_4, adm_o (by omega), fr_g f2 (by omega), g1.1, hn]
  · obtain ⟨c1, c2⟩ := C
    have e19 : pch t j (sgt t j) (adm π) 19 (sz π) = π 19 (sz π) := po _ _ (by omega) (by omega)
    have e5 : pch t j (sgt t j) (adm π) 5 (sz π) = π 5 (sz π) + 1 := by
      have := pch_5 (t := t) (i := j) (g := sgt t j) (π := adm π)
      rw [sz_adm] at this
      rw [this, adm_o (by omega)]
    have ek := pch_k (t := t) (i := j) (g := sgt t j) en' (by omega)
    rw [sz_adm] at ek
    rw [sz_pch, sz_adm, po 0 3 (by omega) (by omega)]
    refine ⟨by rw [e19, fr_g f (by omega)]; exact c1, fun p hp => ?_⟩
    rw [e5] at hp
    rw [e19]
    by_cases hc : p = e
    · subst hc
      have : (π 19 (sz π)).toNat + p = n := by omega
      rw [this, fr_g f2 (by omega), fr_g f2 (by omega), g1.2.1, g1.2.2, ek.1, ek.2]
      exact ⟨rfl, rfl⟩
    · rw [fr_g f (by omega), fr_g f (by omega), po _ _ (by omega) (by omega), po _ _ (by omega) (by omega)]
      exact c2 p (by omega)
/-- of a PITCH, an r, or a < with what follows it -/
theorem t_Reader_readSound {G : cx_T} {s v : Nat} {h : ah_T} {t : tk_T} {m i : Nat} {μ π : pm_T} (hb0 : hb s h) (hv : isV v) (hT : TG t m) (H : VSp t m i μ s π v h) (P : PW π) (hB : h.2.1 (v + 3) (π 0 3).toNat = π 0 4) (hk : tK t i = 258 ∨ tK t i = 266 ∨ tK t i = 60) : con G 2 0 0 m_Reader_readSound [av_R (some 2), av_R (some v)] h (QS t m s μ v (sp_sound t i π) h) := by
  have hs : s = 17 ∨ s = 80 := hb0.2.1
  have v24 := isV_24 hv
  obtain ⟨H1, H2⟩ := H
  obtain ⟨c9, c10, c11, c12⟩ := RCs_b H1
  have R0 := RSp_0 v24 H2 P hB
  have e2 : snd0 π 0 2 = π 0 2 := by unfold snd0; rw [up2_o (by omega), up2_o (by omega), up2_o (by omega)]
  have e3 : snd0 π 0 3 = π 0 3 := by unfold snd0; rw [up2_o (by omega), up2_o (by omega), up2_o (by omega)]
  have e4 : snd0 π 0 4 = π 0 4 := by unfold snd0; rw [up2_o (by omega), up2_o (by omega), up2_o (by omega)]
  have e5 : snd0 π 5 (sz (snd0 π)) = 0 := by rw [(PW_snd0 P).2.2]; unfold snd0; rw [up2_o (by omega), up2_o (by omega), up2_at]
  obtain ⟨p0, p1, p2, p3, p4⟩ := P.1
  have hi : i + 1 < m := hT.1 i H1.1.2.2.1 ⟨by omega, by omega⟩
  refine c_Reader_readSound hv (X85 := fun v2 v3 hh => fr (WP v) h hh ∧ ∃ (j : Nat) (ρ : pm_T) (f : Nat), RCs t m j μ s hh ∧ RSp ρ v hh ∧ v3 = ρ 5 (sz ρ) ∧ (f : Int) = 5 - v3 ∧ (0 < v3 → v2 = ρ (5 + (ρ 5 (sz ρ)).toNat) (sz ρ) ∧ ρ 0 3 < ρ 0 2) ∧ (v3 = 0 → v2 = -2147483648 ∧ tK t j = 258) ∧ sp_sound t i π = (if tK t j = 62 ∧ 0 < v3 then .inr (j + 1, ρ) else sp_chord t f j ρ)) ?_ hb0 ?_
  · refine lp_Reader_readSound_85 hv _ (fun _ v3 _ => (5 - v3).toNat) ?_
    rintro v2 v3 hh hb1 ⟨hf, j, ρ, f, Hj, R, ev, ef, eg, ez, es⟩
    obtain ⟨d9, d10, d11, d12⟩ := RCs_b Hj
    obtain ⟨⟨s1, s2, s3, s4⟩, s5, s6⟩ := R.2.2.1
    obtain ⟨r0, r1, r2, r3, r4⟩ := R.2.1.1
    obtain ⟨f', rfl⟩ : ∃ f', f = f' + 1 := ⟨f - 1, by omega⟩
    unfold B_Reader_readSound_85
    refine ⟨fun c => by omega, fun _ x2 y2 _ _ => ⟨fun c x4 y4 _ _ x6 y6 _ _ => ?_, fun c => ?_⟩⟩
    · have hk : tK t j = 258 := by omega
      obtain ⟨kb, sb⟩ := hT.2.2 j Hj.1.2.2.1 hk
      rw [if_neg (by omega), sp_chord, if_pos hk] at es
      have ex6 : x6 = tV' t j := y6.trans d11
      refine ⟨⟨by omega, by omega⟩, fun c4 => ?_, fun c4 x9 y9 _ _ => ?_⟩
      · rw [if_pos (by omega)] at es
        refine con_mono (tt_Reader_blame hb1) ?_
        rintro r h' ⟨z, rfl, hb2, f2, rfl, w1, w2⟩
        exact ⟨0, rfl, hb2, Or.inl rfl, 0, rfl, hb2, fr_t hf f2 WT_P, Or.inl rfl, by rw [es]; exact ⟨rfl, w1, by rw [w2, y4, d10]⟩⟩
      · rw [if_neg (by omega)] at es
        have ex9 : x9 = tS t j := y9.trans d12
        obtain ⟨n, en⟩ : ∃ n : Nat, ρ 0 4 = (n : Int) := ⟨(ρ 0 4).toNat, by omega⟩
        refine con_mono (t_Voice_addPitch hv hb1 (n := n) (by rw [R.1.1.2.2.2.2, en])) ?_
        rintro r h10 ⟨rfl, hb10, f10, g10⟩
        have H10 := RCs_p Hj f10 hs hv (fun a k w => by omega)
        refine ⟨rfl, hb10, ?_⟩
        refine con_mono (t_Reader_admit (π := ρ) hb10 hv H10 (hT.1 j Hj.1.2.2.1 ⟨by omega, by omega⟩) (by rw [fr_g f10 (by omega)]; exact R.1.1.2.2.1) (by omega)) ?_
        rintro r h13 ⟨z, rfl, hb13, f13, q⟩
        have fx := fr_t (fr_t hf f10 (fun a k w => by omega)) f13 (fun a k w => by omega)
        rcases q with ⟨q1, rfl, H13, q2⟩ | ⟨q1, rfl, w1, w2⟩
        · have g10' := g10 (by omega)
          rw [ex6, ex9] at g10'
          have R13 := RSp_p v24 R en f10 g10' f13 (by omega) q1 q2 ⟨kb, sb⟩
          refine ⟨1, rfl, hb13, fun d => absurd d (by decide), fun _ => ⟨fun cv => ?_, fun cv => ?_⟩⟩
          · rw [if_neg (by rintro ⟨u1, u2⟩; have := (eg (by omega)).1; omega), sp_adm_a q1] at es
            have a5 : adm ρ 5 (sz (adm ρ)) = v3 := by rw [sz_adm, adm_o (by omega)]; exact ev.symm
            have b5 : pch t j (sgt t j) (adm ρ) 5 (sz (pch t j (sgt t j) (adm ρ))) = v3 + 1 := by rw [sz_pch, pch_5, a5]
            obtain ⟨e, ee⟩ : ∃ e : Nat, v3 = (e : Int) := ⟨v3.toNat, by omega⟩
            refine ⟨⟨by omega, by omega⟩, ⟨fx, j + 1, pch t j (sgt t j) (adm ρ), f', H13, R13, b5.symm, by omega, fun _ => ⟨?_, ?_⟩, fun w => by omega, ?_⟩, by omega⟩
            · rw [b5, ee]
              have : 5 + ((e : Int) + 1).toNat = 6 + e := by omega
              rw [this, sz_pch, (pch_k (a5.trans ee) (by omega)).1, ex6]
            · rw [pch_o (a5.trans ee) (by omega) (by omega), pch_o (a5.trans ee) (by omega) (by omega), adm_2, adm_o (by omega)]; omega
            · rw [es]
              simp only [bnd]
              by_cases c62 : tK t (j + 1) = 62
              · rw [if_pos c62, if_pos ⟨c62, by omega⟩]
              · rw [if_neg c62, if_neg (fun w => c62 w.1)]
          · have h0 : 0 < v3 := by
              rcases Int.lt_or_le 0 v3 with w | w
              · exact w
              · have := (ez (by omega)).1; omega
            rw [if_pos ⟨by omega, by have := (eg h0).1; omega⟩, if_pos q1] at es
            refine con_mono (tt_Reader_blame hb13) ?_
            rintro r h' ⟨z, rfl, hb2, f2, rfl, w1, w2⟩
            exact ⟨0, rfl, hb2, Or.inl rfl, 0, rfl, hb2, fr_t fx f2 WT_P, Or.inl rfl, by rw [es]; exact ⟨rfl, w1, by rw [w2, y4, d10]⟩⟩
        · refine ⟨0, rfl, hb13, fun _ => ⟨0, rfl, hb13, fx, Or.inl rfl, ?_⟩, fun d => absurd rfl d⟩
          have es' : sp_sound t i π = .inl (3, tP t j) := by
            rw [es, if_neg q1, sp_adm_n q1]
            split <;> rfl
          rw [es']; exact ⟨rfl, w1, w2⟩
    · have hn : ¬ tK t j = 258 := by omega
      have h0 : 0 < v3 := by
        rcases Int.lt_or_le 0 v3 with w | w
        · exact w
        · exact absurd (ez (by omega)).2 hn
      unfold B_Reader_readSound_180
      refine con_mono (tt_Reader_take (k := 62) hb1 Hj (fun w => hT.1 _ Hj.1.2.2.1 (gk_of w (by decide) (by decide)))) ?_
      rintro r h' ⟨z, rfl, hb2, f2, z01, p2⟩
      refine ⟨z, rfl, hb2, z01, z, rfl, hb2, fr_t hf f2 WT_P, z01, ?_⟩
      rw [sp_chord, if_neg hn] at es
      rw [sp_take] at p2
      by_cases c62 : tK t j = 62
      · rw [if_pos ⟨c62, h0⟩] at es
        rw [if_pos c62] at p2
        obtain ⟨rfl, H'⟩ := p2
        have R' := RSp_t v24 R f2
        rw [es]
        exact ⟨rfl, ⟨H', R'.1⟩, R'.2.1, R'.2.2.1, R'.2.2.2, (eg h0).2⟩
      · rw [if_neg (fun w => c62 w.1)] at es
        rw [if_neg c62] at p2
        rw [es]; exact p2
  · unfold B_Reader_readSound_0
    intro x2 y2 _ _
    have ek : x2 = tK t i := y2.trans c9
    refine ⟨fun c => ?_, fun c => ⟨fun c1 x15 y15 _ _ => ⟨?_, fun x18 y18 _ _ => ?_⟩, fun c1 => ?_⟩⟩
    · refine con_mono (t_Reader_admit (π := snd0 π) hb0 hv H1 hi (R0.1.1.2.2.1) (by omega)) ?_
      rintro r h' ⟨z, rfl, hb1, f1, q⟩
      have es : sp_sound t i π = bnd (sp_adm t i (snd0 π)) fun π1 => .inr (i + 1, π1) := by rw [sp_sound, if_pos (by omega)]
      have fx : fr (WP v) h h' := fr_w f1 (fun a k w => by omega)
      rcases q with ⟨q1, rfl, H', q2⟩ | ⟨q1, rfl, w1, w2⟩
      · have R' := RSp_a v24 R0 f1 q1 q2
        rw [sp_adm_a q1] at es
        refine ⟨1, rfl, hb1, Or.inr rfl, 1, rfl, hb1, fx, Or.inr rfl, ?_⟩
        rw [es]
        exact ⟨rfl, ⟨H', R'.1⟩, R'.2.1, R'.2.2.1, R'.2.2.2, by show adm (snd0 π) 0 3 < adm (snd0 π) 0 2; rw [adm_2, adm_o (by omega)]; omega⟩
      · rw [sp_adm_n q1] at es
        exact ⟨0, rfl, hb1, Or.inl rfl, 0, rfl, hb1, fx, Or.inl rfl, by rw [es]; exact ⟨rfl, w1, w2⟩⟩
    · have := hT.2.2 i H1.1.2.2.1 (by omega)
      constructor <;> omega
    · have hk : tK t i = 258 := by omega
      obtain ⟨kb, sb⟩ := hT.2.2 i H1.1.2.2.1 hk
      obtain ⟨n, en⟩ : ∃ n : Nat, snd0 π 0 4 = (n : Int) := ⟨(π 0 4).toNat, by omega⟩
      refine con_mono (t_Voice_addPitch hv hb0 (n := n) (by rw [R0.1.1.2.2.2.2, en])) ?_
      rintro r h10 ⟨rfl, hb10, f10, g10⟩
      have H10 := RCs_p H1 f10 hs hv (fun a k w => by omega)
      refine ⟨rfl, hb10, ?_⟩
      refine con_mono (t_Reader_admit (π := snd0 π) hb10 hv H10 hi (by rw [fr_g f10 (by omega)]; exact R0.1.1.2.2.1) (by omega)) ?_
      rintro r h13 ⟨z, rfl, hb13, f13, q⟩
      have es : sp_sound t i π = bnd (sp_adm t i (snd0 π)) fun π1 => .inr (i + 1, pch t i (sgt t i) π1) := by rw [sp_sound, if_neg (by omega), if_pos hk]
      have fx : fr (WP v) h h13 := fr_t (fr_w f10 (fun a k w => by omega)) f13 (fun a k w => by omega)
      rcases q with ⟨q1, rfl, H', q2⟩ | ⟨q1, rfl, w1, w2⟩
      · have g10' := g10 (by omega)
        rw [y15.trans c11, y18.trans c12] at g10'
        have R' := RSp_p v24 R0 en f10 g10' f13 (by omega) q1 q2 ⟨kb, sb⟩
        rw [sp_adm_a q1] at es
        refine ⟨1, rfl, hb13, Or.inr rfl, 1, rfl, hb13, fx, Or.inr rfl, ?_⟩
        rw [es]
        have a5 : adm (snd0 π) 5 (sz (adm (snd0 π))) = ((0 : Nat) : Int) := by rw [sz_adm, adm_o (by omega)]; exact e5
        exact ⟨rfl, ⟨H', R'.1⟩, R'.2.1, R'.2.2.1, R'.2.2.2, by show pch t i (sgt t i) (adm (snd0 π)) 0 3 < pch t i (sgt t i) (adm (snd0 π)) 0 2; rw [pch_o a5 (by omega) (by omega), pch_o a5 (by omega) (by omega), adm_2, adm_o (by omega)]; omega⟩
      · rw [sp_adm_n q1] at es
        exact ⟨0, rfl, hb13, Or.inl rfl, 0, rfl, hb13, fx, Or.inl rfl, by rw [es]; exact ⟨rfl, w1, w2⟩⟩
    · have es : sp_sound t i π = sp_chord t 5 (i + 1) (snd0 π) := by rw [sp_sound, if_neg (by omega), if_neg (by omega)]
      refine con_mono (tt_Reader_step hb0 H1 hi) ?_
      rintro r h6 ⟨rfl, hb6, f6, H6⟩
      have R6 := RSp_t v24 R0 f6
      refine ⟨rfl, hb6, fun x10 y10 _ _ => ⟨fun c2 => ?_, fun c2 => ?_⟩⟩
      · have hk1 : tK t (i + 1) = 258 := by have := (RCs_b H6).1; omega
        exact ⟨fr_w f6 WT_P, i + 1, snd0 π, 5, H6, R6, e5.symm, by omega, fun w => by omega, fun _ => ⟨rfl, hk1⟩, by rw [es, if_neg (by omega)]⟩
      · have hk1 : ¬ tK t (i + 1) = 258 := by have := (RCs_b H6).1; omega
        refine con_mono (tt_Reader_refuse hb6 H6.1) ?_
        rintro r h' ⟨z, rfl, hb1, f1, rfl, w1, w2⟩
        exact ⟨0, rfl, hb1, Or.inl rfl, 0, rfl, hb1, fr_w (fr_t f6 f1 (fun _ _ w => w)) WT_P, Or.inl rfl, by rw [es, sp_chord, if_neg hk1]; exact ⟨rfl, w1, w2⟩⟩
