/-! ===== the reference: a part of a voice ===== -/
theorem MKc_n {π : pm_T} {h : ah_T} {ow : Nat → Nat} {p C : Nat} (H : MKc π h ow p C) : ∀ j, j ≤ C → j ≤ mkn π p j
  | 0, _ => Nat.zero_le _
  | j + 1, hj => by
    have := MKc_n H j (by omega)
    have := (H.2.1 j (by omega)).1
    omega
/-- a part without a number -/
theorem RPm_addP {π : pm_T} {c x y : Int} {h h' : ah_T} {W : Nat → Nat → Prop} (R : RPm π h) (P : PW π) (hc : c ≠ 256 ∧ c ≠ 123) (f : fr W h h') (hW : ∀ a k, W a k → (a = 170 ∧ k ≠ 63 ∧ k ≠ 64) ∨ (a = 201 ∧ k = sz π)) (g : h'.2.1 170 43 = π 0 0 + 1 ∧ h'.2.1 201 (sz π) = mkd c) : RPm (addP π c x y) h' := by
  obtain ⟨R1, ⟨a1, a2⟩, hd, hj⟩ := R
  have p0 := P.1.1
  have hz : (sz π : Int) = π 0 0 := by unfold sz; omega
  have gg : ∀ (a k : Nat), ¬ ((a = 170 ∧ k ≠ 63 ∧ k ≠ 64) ∨ (a = 201 ∧ k = sz π)) → h'.2.1 a k = h.2.1 a k := fun a k q => fr_g f (fun w => q (hW a k w))
  have v0 := (addP_v (π := π) (c := c) (x := x) (y := y)).1
  have v1 := (addP_v (π := π) (c := c) (x := x) (y := y)).2.1
  refine ⟨by rw [v0, g.1], ⟨by rw [gg _ _ (by omega), addP_o (by omega) (by omega)]; exact a1, by rw [gg _ _ (by omega), addP_o (by omega) (by omega)]; exact a2⟩, fun e he => ?_, fun j hj' => ?_⟩
  · rw [addP_o (by omega) (by omega)] at he
    have pd := P.2.1 e he
    rw [gg _ _ (by omega), gg _ _ (by omega), addP_o (a := 15) (by omega) (by omega), addP_o (a := 1) (by omega) (Or.inl (by have := pd.1; omega))]; exact hd e he
  · rw [v0] at hj'
    by_cases q : j = sz π
    · rw [q]
      exact ⟨by rw [v1, g.2], fun w => by rw [v1] at w; omega, fun w => by rw [v1] at w; omega⟩
    · exact RMj_c (hj j (by omega)) (P.2.2 j (by omega)) (fun a w => addP_o (by omega) (Or.inl q)) (fun a w => gg _ _ (by omega)) (fun k _ _ => ⟨gg _ _ (by omega), gg _ _ (by omega)⟩)
/-- a bracket opened -/
theorem RPm_addO {π : pm_T} {c x y : Int} {h h' : ah_T} {W : Nat → Nat → Prop} (R : RPm π h) (P : PW π) (hc : c = 91 ∨ c = 123) (f : fr W h h') (hW : ∀ a k, W a k → (a = 170 ∧ k ≠ 64) ∨ ((a = 201 ∨ a = 202 ∨ a = 203 ∨ a = 214) ∧ k = sz π) ∨ ((a = 215 ∨ a = 216) ∧ k = dp π)) (g : h'.2.1 170 43 = π 0 0 + 1 ∧ h'.2.1 170 63 = π 0 1 + 1 ∧ h'.2.1 201 (sz π) = mkd c ∧ (c = 123 → h'.2.1 202 (sz π) = x ∧ h'.2.1 203 (sz π) = y) ∧ h'.2.1 215 (dp π) = π 0 0 ∧ h'.2.1 216 (dp π) = (if c = 91 then 2 else 5)) : RPm (addP (opn π) c x y) h' := by
  obtain ⟨R1, ⟨a1, a2⟩, hd, hj⟩ := R
  obtain ⟨p0, p1, -⟩ := P.1
  have hz : (sz π : Int) = π 0 0 := by unfold sz; omega
  have hdp : (dp π : Int) = π 0 1 := by unfold dp; omega
  have gg : ∀ (a k : Nat), ¬ ((a = 170 ∧ k ≠ 64) ∨ ((a = 201 ∨ a = 202 ∨ a = 203 ∨ a = 214) ∧ k = sz π) ∨ ((a = 215 ∨ a = 216) ∧ k = dp π)) → h'.2.1 a k = h.2.1 a k := fun a k q => fr_g f (fun w => q (hW a k w))
  obtain ⟨v0, v1, v2, v3, -⟩ := addP_v (π := opn π) (c := c) (x := x) (y := y)
  obtain ⟨w1, w15, w16⟩ := opn_v (π := π)
  rw [sz_opn] at v1 v2 v3
  rw [opn_o (by omega) (by omega)] at v0
  have o : ∀ a k, ¬ (a = 0 ∧ k ≤ 1) → (k ≠ sz π ∨ ¬ (a = 1 ∨ a = 2 ∨ a = 3 ∨ a = 14)) → (k ≠ dp π ∨ ¬ (a = 15 ∨ a = 16)) → addP (opn π) c x y a k = π a k := fun a k q1 q2 q3 => by
    rw [addP_o (by omega) (by rw [sz_opn]; exact q2), opn_o (by omega) q3]
  have o1 : addP (opn π) c x y 0 1 = π 0 1 + 1 := by rw [addP_o (by omega) (by omega), w1]
  refine ⟨by rw [v0, g.1], ⟨by rw [o1, g.2.1], by rw [gg _ _ (by omega), o _ _ (by omega) (by omega) (by omega)]; exact a2⟩, fun e he => ?_, fun j hj' => ?_⟩
  · rw [o1] at he
    by_cases q : e = dp π
    · rw [q]
      have e15 : addP (opn π) c x y 15 (dp π) = π 0 0 := by rw [addP_o (by omega) (by omega), w15]
      rw [e15]
      have : (π 0 0).toNat = sz π := rfl
      rw [this, v1]
      exact ⟨g.2.2.2.2.1, g.2.2.2.2.2⟩
    · have he' : (e : Int) < π 0 1 := by omega
      have pd := P.2.1 e he'
      rw [gg _ _ (by omega), gg _ _ (by omega), o 15 _ (by omega) (by omega) (Or.inl q), o 1 _ (by omega) (Or.inl (by have := pd.1; omega)) (by omega)]; exact hd e he'
  · rw [v0] at hj'
    by_cases q : j = sz π
    · rw [q]
      refine ⟨by rw [v1]; exact g.2.2.1, fun w => by rw [v1] at w; omega, fun w => ?_⟩
      rw [v1] at w
      rw [v2, v3]; exact g.2.2.2.1 w
    · exact RMj_c (hj j (by omega)) (P.2.2 j (by omega)) (fun a w => o _ _ (by omega) (Or.inl q) (by omega)) (fun a w => gg _ _ (by omega)) (fun k _ _ => ⟨gg _ _ (by omega), gg _ _ (by omega)⟩)
/-- a mark -/
theorem RPm_addM {π : pm_T} {K : Int} {h h' : ah_T} {W : Nat → Nat → Prop} (R : RPm π h) (P : PW π) (h1 : 0 < π 0 1) (hK : K = 58 ∨ K = 93 ∨ K = 125) (f : fr W h h') (hW : ∀ a k, W a k → (a = 170 ∧ k ≠ 64) ∨ (a = 201 ∧ k = sz π) ∨ (210 ≤ a ∧ a ≤ 214)) (g : h'.2.1 170 43 = π 0 0 + 1 ∧ h'.2.1 170 63 = (if K = 58 then π 0 1 else π 0 1 - 1) ∧ h'.2.1 201 (sz π) = mkd K) : RPm (addM π K) h' := by
  obtain ⟨R1, ⟨a1, a2⟩, hd, hj⟩ := R
  obtain ⟨p0, p1, -⟩ := P.1
  have hz : (sz π : Int) = π 0 0 := by unfold sz; omega
  have gg : ∀ (a k : Nat), ¬ ((a = 170 ∧ k ≠ 64) ∨ (a = 201 ∧ k = sz π) ∨ (210 ≤ a ∧ a ≤ 214)) → h'.2.1 a k = h.2.1 a k := fun a k q => fr_g f (fun w => q (hW a k w))
  have pdl := P.2.1 (dp π - 1) (by unfold dp; omega)
  unfold PD at pdl
  obtain ⟨z0, z1, v1, -, -, -⟩ := addM_v (π := π) (K := K) (by omega)
  refine ⟨by rw [z0, g.1], ⟨by rw [z1, g.2.1], by rw [gg _ _ (by omega), addM_o (by omega) (by omega) (by omega) (by omega)]; exact a2⟩, fun e he => ?_, fun j hj' => ?_⟩
  · have he' : (e : Int) < π 0 1 := by rw [z1] at he; split at he <;> omega
    have pd := P.2.1 e he'
    rw [gg _ _ (by omega), gg _ _ (by omega), addM_o (a := 15) (by omega) (by omega) (by omega) (by omega), addM_o (a := 1) (by omega) (Or.inl (by have := pd.1; omega)) (by omega) (by omega)]; exact hd e he'
  · rw [z0] at hj'
    by_cases q : j = sz π
    · rw [q]
      exact ⟨by rw [v1, g.2.2], fun w => by rw [v1] at w; omega, fun w => by rw [v1] at w; omega⟩
    · exact RMj_c (hj j (by omega)) (P.2.2 j (by omega)) (fun a w => addM_o (by omega) (Or.inl q) (by omega) (by omega)) (fun a w => gg _ _ (by omega)) (fun k _ _ => ⟨gg _ _ (by omega), gg _ _ (by omega)⟩)
theorem MKm_addO {π : pm_T} {c x y : Int} {h h' : ah_T} (M : MKm π h) (W : WC π) (g : ∀ a j, 210 ≤ a → a ≤ 214 → j < sz π → h'.2.1 a j = h.2.1 a j) (g2 : c = 91 → h'.2.1 214 (sz π) = 0) : MKm (addP (opn π) c x y) h' := by
  obtain ⟨p0, p1, W2⟩ := W
  obtain ⟨z0, v1, v2, v3, v14⟩ := addP_v (π := opn π) (c := c) (x := x) (y := y)
  obtain ⟨y1, y15, y16⟩ := opn_v (π := π)
  rw [sz_opn] at v1
  rw [opn_o (by omega) (by omega)] at z0
  have o1 : addP (opn π) c x y 0 1 = π 0 1 + 1 := by rw [addP_o (by omega) (by omega), y1]
  refine MKm_add M W2 (by unfold sz; omega) (fun a j ha hj => ?_) g (by unfold dp; omega) (fun d hd => ⟨?_, ?_⟩) (Or.inr ⟨by unfold dp; omega, ?_, ?_, fun w => g2 (by rw [v1] at w; exact w)⟩)
  · rw [addP_o (by omega) (by rw [sz_opn]; omega), opn_o (by omega) (by omega)]
  · rw [addP_o (by omega) (by omega), opn_o (by omega) (by omega)]
  · rw [addP_o (by omega) (by omega), opn_o (by omega) (by omega)]
  · unfold oo; rw [addP_o (by omega) (by omega), y15]; rfl
  · unfold ll; rw [addP_o (by omega) (by omega), y16]; rfl
theorem MKm_addP {π : pm_T} {c x y : Int} {h h' : ah_T} (M : MKm π h) (W : WC π) (hc : c ≠ 91 ∧ c ≠ 123) (g : ∀ a j, 210 ≤ a → a ≤ 214 → j < sz π → h'.2.1 a j = h.2.1 a j) : MKm (addP π c x y) h' := by
  obtain ⟨p0, p1, W2⟩ := W
  have k0 := (addP_v (π := π) (c := c) (x := x) (y := y)).1
  have v1 := (addP_v (π := π) (c := c) (x := x) (y := y)).2.1
  have o1 : addP π c x y 0 1 = π 0 1 := addP_o (by omega) (by omega)
  exact MKm_add M W2 (by unfold sz; omega) (fun a j ha hj => addP_o (by omega) (by omega)) g (by unfold dp; rw [o1]; exact Nat.le_refl _) (fun d hd => ⟨addP_o (by omega) (by omega), addP_o (by omega) (by omega)⟩) (Or.inl ⟨by unfold dp; rw [o1], by rw [v1]; exact hc.1, by rw [v1]; exact hc.2⟩)
theorem addO_0 {π : pm_T} {c x y : Int} : addP (opn π) c x y 0 0 = π 0 0 + 1 := by
  have := (addP_v (π := opn π) (c := c) (x := x) (y := y)).1
  rw [opn_o (by omega) (by omega)] at this
  exact this
/-- between two parts -/
def VEm (X : tx_T) (i : Nat) (μ π : pm_T) (h : ah_T) : Prop := RMs X i μ h ∧ RPm π h ∧ PW π ∧ WC π ∧ MKm π h ∧ π 0 0 + 1 ≤ i
def PEm (X : tx_T) (μ : pm_T) (R : F_T ⊕ (Nat × pm_T)) (z : Int) (h' : ah_T) : Prop := match R with
  | .inl q => z = 0 ∧ h'.2.1 170 11 = q.1 ∧ h'.2.1 170 12 = q.2
  | .inr q => z = 1 ∧ VEm X q.1 μ q.2 h'
abbrev QEm (s : Nat) (X : tx_T) (μ : pm_T) (R : F_T ⊕ (Nat × pm_T)) (h : ah_T) : Option av_T → ah_T → Prop := fun r h' => ∃ z, r = some (av_I z) ∧ hb s h' ∧ fr WVm h h' ∧ (z = 0 ∨ z = 1) ∧ PEm X μ R z h'
theorem t_MD_wantR {G : cx_T} {s : Nat} {h : ah_T} {X : tx_T} {i : Nat} {μ : pm_T} {k : Int} (hb0 : hb s h) (hA : XA X) (H : RMs X i μ h) (hk : isSg k) : con G 3 0 0 m_MD_want [av_R (some 170), av_I k] h (fun r h' => ∃ z, r = some (av_I z) ∧ hb s h' ∧ fr WK h h' ∧ ((tK X.2.2.1 i = k ∧ z = 1 ∧ RMs X (i + 1) μ h') ∨ (¬ tK X.2.2.1 i = k ∧ z = 0 ∧ h'.2.1 170 11 = (cn X.2.2.1 i).1 ∧ h'.2.1 170 12 = (cn X.2.2.1 i).2))) := by
  refine c_MD_want hb0 (fun _ => ?_)
  unfold B_MD_want_0 B_MD_want_19
  refine con_mono (t_MD_isSign hb0 hA H hk) ?_
  rintro r h2 ⟨z3, rfl, hb2, rfl, -, z02⟩
  refine ⟨z3, rfl, hb2, fun c => ?_, fun c => ?_⟩
  · refine con_mono (t_MD_cantk hb2 H) ?_
    rintro r h' ⟨z, rfl, hb3, f3, rfl, q1, q2⟩
    exact ⟨0, rfl, hb3, Or.inl rfl, 0, rfl, hb3, f3, Or.inr ⟨z02.mp c, rfl, q1, q2⟩⟩
  · have e : tK X.2.2.1 i = k := Classical.not_not.mp (fun w => c (z02.mpr w))
    refine con_mono (t_MD_step hb2 hA H (by rw [e]; unfold isSg at hk; unfold gk; omega)) ?_
    rintro r h' ⟨z, rfl, hb3, f3, H3, rfl⟩
    exact ⟨1, rfl, hb3, Or.inr rfl, 1, rfl, hb3, fr_w f3 WM_K, Or.inl ⟨e, rfl, H3⟩⟩
theorem t_MD_timesPart {G : cx_T} {s : Nat} {h : ah_T} {X : tx_T} {i : Nat} {μ π : pm_T} (hb0 : hb s h) (hA : XA X) (H : VEm X i μ π h) (hk : tK X.2.2.1 i = 123) (h6 : π 0 1 ≤ 6) :
    con G 4 0 0 m_MD_timesPart [av_R (some 170)] h (QEm s X μ (sp_times X.2.2.1 i π) h) := by
  obtain ⟨H, R, P, W, M, hpi⟩ := H
  have hi2 := RMs_i hA H
  obtain ⟨p0, p1, -⟩ := P.1
  have hz : (sz π : Int) = π 0 0 := by unfold sz; omega
  have hdp : (dp π : Int) = π 0 1 := by unfold dp; omega
  generalize et : X.2.2.1 = t at *
  have a2 : ∀ {a b : Int} {h1 : ah_T} {R : F_T ⊕ (Nat × pm_T)}, hb s h1 → h1.2.1 170 11 = 0 → fr WVm h h1 → R = .inl (a, b) → con G 0 0 0 m_MD_wrong [av_R (some 170), av_I a, av_I b] h1 (fun r h2 => ∃ z : Int, r = some (av_I z) ∧ hb s h2 ∧ (z = 0 ∨ z = 1) ∧ QEm s X μ R h (some (av_I z)) h2) := by
    intro a b h1 R hb1 h0 f1 e
    refine con_mono (t_MD_wrongk hb1 h0) ?_
    rintro r h' ⟨z, rfl, hb2, f2, rfl, w1, w2⟩
    exact ⟨0, rfl, hb2, Or.inl rfl, 0, rfl, hb2, fr_t f1 f2 WK_V, Or.inl rfl, by rw [e]; exact ⟨rfl, w1, w2⟩⟩
  have a3 : ∀ {j : Nat} {h1 : ah_T} {R : F_T ⊕ (Nat × pm_T)}, hb s h1 → RMs X j μ h1 → fr WVm h h1 → R = .inl (cn t j) → con G 1 0 0 m_MD_cant [av_R (some 170)] h1 (fun r h2 => ∃ z : Int, r = some (av_I z) ∧ hb s h2 ∧ (z = 0 ∨ z = 1) ∧ QEm s X μ R h (some (av_I z)) h2) := by
    intro j h1 R hb1 H1 f1 e
    refine con_mono (t_MD_cantk hb1 H1) ?_
    rintro r h' ⟨z, rfl, hb2, f2, rfl, w1, w2⟩
    rw [et] at w1 w2
    exact ⟨0, rfl, hb2, Or.inl rfl, 0, rfl, hb2, fr_t f1 f2 WK_V, Or.inl rfl, by rw [e]; exact ⟨rfl, w1, w2⟩⟩
  refine c_MD_timesPart hb0 ?_
  unfold B_MD_timesPart_0 B_MD_timesPart_78 B_MD_timesPart_144
  intro x1 e1 _ _ x3 e3 _ _
  have ex1 : x1 = (sz π : Int) := by rw [e1, R.1, hz]
  have ex3 : x3 = (dp π : Int) := by rw [e3, R.2.1.1, hdp]
  subst ex1 ex3
  refine ⟨⟨by omega, by omega⟩, ?_⟩
  rw [tn_c]
  intro h6' e6
  have f6 : fr (fun a k => a = 215 ∧ k = dp π) h h6' := fr_i fr_0 e6 ⟨rfl, rfl⟩
  refine con_mono (t_MD_put (p := sz π) (hb_i hb0 e6) (by rw [fr_g f6 (by omega), R.1, hz]) (by omega)) ?_
  rintro r h8 ⟨rfl, hb8, f8, m1, m2⟩
  refine ⟨rfl, hb8, fun x12 e12 _ _ => ?_⟩
  have ex12 : x12 = (dp π : Int) := by rw [e12, fr_g f8 (by omega), fr_g f6 (by omega), R.2.1.1, hdp]
  subst ex12
  refine ⟨⟨by omega, by omega⟩, ?_⟩
  rw [tn_c]
  intro h14 e14
  refine ⟨⟨by omega, by omega⟩, fun h18 e18 => ?_⟩
  have f18 : fr (fun a k => (a = 170 ∧ k = 43) ∨ (a = 170 ∧ k = 63) ∨ (a = 201 ∧ k = sz π) ∨ ((a = 215 ∨ a = 216) ∧ k = dp π)) h h18 := fr_i (fr_i (fr_t (fr_w f6 (fun a k w => by omega)) f8 (fun a k w => by omega)) e14 (by omega)) e18 (by omega)
  have hb18 := hb_i (hb_i hb8 e14) e18
  have H18 := RMs_V H f18 (fun a k w => by omega)
  refine con_mono (t_MD_step hb18 hA H18 (by rw [et, hk]; exact ⟨by decide, by decide⟩)) ?_
  rintro r h20 ⟨z, rfl, hb20, f20, H20, rfl⟩
  have ff20 : fr (fun a k => (a = 170 ∧ k ≠ 64) ∨ ((a = 201 ∨ a = 202 ∨ a = 203 ∨ a = 214) ∧ k = sz π) ∨ ((a = 215 ∨ a = 216) ∧ k = dp π)) h h20 := fr_t (fr_w f18 (fun a k w => by omega)) f20 (fun a k w => by omega)
  have gV20 : fr WVm h h20 := fr_t (fr_w f18 (fun a k w => by omega)) f20 (fun a k w => by omega)
  have w1 : h20.2.1 170 43 = π 0 0 + 1 := by rw [fr_g f20 (by omega), mm_i e18 (by omega), mm_i e14 (by omega), m2, hz]
  have w2 : h20.2.1 170 63 = π 0 1 + 1 := by rw [fr_g f20 (by omega), mv_i e18, hdp]
  have w3 : h20.2.1 201 (sz π) = mkd 123 := by rw [fr_g f20 (by omega), mm_i e18 (by omega), mm_i e14 (by omega), m1]; rfl
  have w4 : h20.2.1 215 (dp π) = π 0 0 := by rw [fr_g f20 (by omega), mm_i e18 (by omega), mm_i e14 (by omega), fr_g f8 (by omega), mv_i e6, hz]
  have w5 : h20.2.1 216 (dp π) = 5 := by rw [fr_g f20 (by omega), mm_i e18 (by omega), mv_i e14]
  have num : ∀ {j : Nat} {h1 : ah_T} {x : Int}, RMs X j μ h1 → x = h1.2.1 170 4 → (x = 3 ↔ tK t j = 259) := by
    intro j h1 x H1 e; rw [e, H1.1.2.2.2.1, et]; exact ek_3
  have val : ∀ {j : Nat} {h1 : ah_T} {x : Int}, RMs X j μ h1 → tK t j = 259 → x = h1.2.1 170 6 → x = tV' t j := by
    intro j h1 x H1 k e; rw [e]; have := H1.1.2.2.2.2.2.2.1; rw [et] at this; exact this k
  unfold sp_times
  refine ⟨1, rfl, hb20, fun x23 e23 _ _ => ⟨fun c => ?_, fun c => ?_⟩⟩
  · have kn := (num H20 e23).mp c
    have bad : ¬ (1 ≤ tV' t (i + 1) ∧ tV' t (i + 1) ≤ 16) → sp_num t (i + 1) 16 false = .inl (5, tP t (i + 1)) := fun w => by unfold sp_num; rw [if_pos kn, if_neg (fun q => w q.1)]
    intro x24 e24 _ _
    have ev := val H20 kn e24
    refine ⟨fun d x ex _ _ => ?_, fun d => ⟨fun d2 => ⟨⟨by omega, by omega⟩, ?_⟩, fun d2 x ex _ _ => ?_⟩⟩
    · exact a2 (a := 5) (b := x) hb20 H20.2.2 gV20 (by rw [bad (by omega), ex, H20.1.2.2.1, et]; rfl)
    · have en : sp_num t (i + 1) 16 false = .inr x24 := by unfold sp_num; rw [if_pos kn, if_pos ⟨by omega, Or.inl rfl⟩, ev]
      rw [tn_c]
      intro h29 e29
      have H29 := RMs_V H20 (fr_i (W := fun a k => a = 202 ∧ k = sz π) fr_0 e29 ⟨rfl, rfl⟩) (fun a k w => by omega)
      refine con_mono (t_MD_step (hb_i hb20 e29) hA H29 (by rw [et, kn]; exact ⟨by decide, by decide⟩)) ?_
      rintro r h31 ⟨z, rfl, hb31, f31, H31, rfl⟩
      have ff31 := fr_t (fr_i ff20 e29 (by omega)) f31 (fun a k w => by omega)
      have gV31 := fr_t (fr_i gV20 e29 (by omega)) f31 (fun a k w => by omega)
      refine ⟨1, rfl, hb31, ?_⟩
      refine con_mono (t_MD_wantR (k := 47) hb31 hA H31 (by unfold isSg; omega)) ?_
      rintro r h34 ⟨z36, rfl, hb34, f34, q⟩
      rw [et] at q
      have ff34 := fr_t ff31 f34 (fun a k w => by omega)
      have gV34 := fr_t gV31 f34 (fun a k w => by omega)
      rcases q with ⟨k47, rfl, H34⟩ | ⟨k47, rfl, q1, q2⟩
      · refine ⟨1, rfl, hb34, fun d => absurd d (by decide), fun _ x37 e37 _ _ => ⟨fun c2 => ?_, fun c2 => ?_⟩⟩
        · have kn2 : tK t (i + 3) = 259 := (num H34 e37).mp c2
          have bad2 : ¬ (1 ≤ tV' t (i + 3) ∧ tV' t (i + 3) ≤ 16) → sp_num t (i + 3) 16 false = .inl (5, tP t (i + 3)) := fun w => by unfold sp_num; rw [if_pos kn2, if_neg (fun q => w q.1)]
          intro x38 e38 _ _
          have ev2 : x38 = tV' t (i + 3) := val H34 kn2 e38
          refine ⟨fun d x ex _ _ => ?_, fun d => ⟨fun d2 h42 e42 => ?_, fun d2 x ex _ _ => ?_⟩⟩
          · exact a2 (a := 5) (b := x) hb34 H34.2.2 gV34 (by rw [en]; simp only [bnd, sp_take]; rw [if_pos k47, bad2 (by omega), ex, H34.1.2.2.1, et])
          · have en2 : sp_num t (i + 3) 16 false = .inr x38 := by unfold sp_num; rw [if_pos kn2, if_pos ⟨by omega, Or.inl rfl⟩, ev2]
            have H42 := RMs_V H34 (fr_i (W := fun a k => a = 203 ∧ k = sz π) fr_0 e42 ⟨rfl, rfl⟩) (fun a k w => by omega)
            refine con_mono (t_MD_step (hb_i hb34 e42) hA H42 (by rw [et, kn2]; exact ⟨by decide, by decide⟩)) ?_
            rintro r h44 ⟨z, rfl, hb44, f44, H44, rfl⟩
            refine ⟨1, rfl, hb44, ?_⟩
            refine con_mono (t_MD_wantR (k := 58) hb44 hA H44 (by unfold isSg; omega)) ?_
            rintro r h47 ⟨z49, rfl, hb47, f47, q⟩
            rw [et] at q
            have ff47 := fr_t (fr_t (fr_i ff34 e42 (by omega)) f44 (fun a k w => by omega)) f47 (fun a k w => by omega)
            have gV47 := fr_t (fr_t (fr_i gV34 e42 (by omega)) f44 (fun a k w => by omega)) f47 (fun a k w => by omega)
            rcases q with ⟨k58, rfl, H47⟩ | ⟨k58, rfl, q1, q2⟩
            · refine ⟨1, rfl, hb47, Or.inr rfl, 1, rfl, hb47, gV47, Or.inr rfl, ?_⟩
              have es : (bnd (sp_num t (i + 1) 16 false) fun a => bnd (sp_take t (i + 2) 47) fun _ => bnd (sp_num t (i + 3) 16 false) fun b => bnd (sp_take t (i + 4) 58) fun _ => (.inr (i + 5, addP (opn π) 123 a b) : F_T ⊕ (Nat × pm_T))) = .inr (i + 5, addP (opn π) 123 x24 x38) := by
                rw [en]; simp only [bnd, sp_take]; rw [if_pos k47, en2]; simp only; rw [if_pos k58]
              rw [es]
              have u : ∀ a k, a ≠ 170 → a ≠ 203 → h47.2.1 a k = h31.2.1 a k := fun a k q1 q2 => by rw [fr_g f47 (by omega), fr_g f44 (by omega), mm_i e42 (by omega), fr_g f34 (by omega)]
              have uu : ∀ a k, a = 170 → (k = 43 ∨ k = 63) → h47.2.1 a k = h20.2.1 a k := fun a k q1 q2 => by rw [fr_g f47 (by omega), fr_g f44 (by omega), mm_i e42 (by omega), fr_g f34 (by omega), fr_g f31 (by omega), mm_i e29 (by omega)]
              have RR : RPm (addP (opn π) 123 x24 x38) h47 := by
                refine RPm_addO R P (Or.inr rfl) ff47 (fun _ _ w => w) ⟨by rw [uu _ _ rfl (Or.inl rfl)]; exact w1, by rw [uu _ _ rfl (Or.inr rfl)]; exact w2, ?_, fun _ => ⟨?_, ?_⟩, ?_, ?_⟩
                · rw [u _ _ (by decide) (by decide), fr_g f31 (by omega), mm_i e29 (by omega)]; exact w3
                · rw [u _ _ (by decide) (by decide), fr_g f31 (by omega), mv_i e29]
                · rw [fr_g f47 (by omega), fr_g f44 (by omega), mv_i e42]
                · rw [u _ _ (by decide) (by decide), fr_g f31 (by omega), mm_i e29 (by omega)]; exact w4
                · rw [u _ _ (by decide) (by decide), fr_g f31 (by omega), mm_i e29 (by omega)]; exact w5
              have PP : PW (addP (opn π) 123 x24 x38) := PW_addO P h6 (Or.inr ⟨rfl, by omega, by omega⟩)
              have WW' := WC_addO (x := x24) (y := x38) W h6 (Or.inr rfl)
              have MM : MKm (addP (opn π) 123 x24 x38) h47 := MKm_addO M W (fun a j h1 h2 hj => fr_g ff47 (by omega)) (fun w => absurd w (by decide))
              have k0 := addO_0 (π := π) (c := 123) (x := x24) (y := x38)
              exact ⟨rfl, H47, RR, PP, WW', MM, by show addP (opn π) 123 x24 x38 0 0 + 1 ≤ ((i + 5 : Nat) : Int); rw [k0]; omega⟩
            · refine ⟨0, rfl, hb47, Or.inl rfl, 0, rfl, hb47, gV47, Or.inl rfl, ?_⟩
              have es : (bnd (sp_num t (i + 1) 16 false) fun a => bnd (sp_take t (i + 2) 47) fun _ => bnd (sp_num t (i + 3) 16 false) fun b => bnd (sp_take t (i + 4) 58) fun _ => (.inr (i + 5, addP (opn π) 123 a b) : F_T ⊕ (Nat × pm_T))) = .inl (cn t (i + 4)) := by
                rw [en]; simp only [bnd, sp_take]; rw [if_pos k47, en2]; simp only; rw [if_neg k58]
              rw [es]
              exact ⟨rfl, q1, q2⟩
          · exact a2 (a := 5) (b := x) hb34 H34.2.2 gV34 (by rw [en]; simp only [bnd, sp_take]; rw [if_pos k47, bad2 (by omega), ex, H34.1.2.2.1, et])
        · refine a3 (j := i + 1 + 1 + 1) hb34 H34 gV34 ?_
          have bad3 : sp_num t (i + 3) 16 false = .inl (cn t (i + 3)) := by unfold sp_num; rw [if_neg (fun w => c2 ((num H34 e37).mpr w))]
          rw [en]; simp only [bnd, sp_take]; rw [if_pos k47, bad3]
      · refine ⟨0, rfl, hb34, fun _ => ⟨0, rfl, hb34, gV34, Or.inl rfl, ?_⟩, fun d => absurd rfl d⟩
        have es : (bnd (sp_num t (i + 1) 16 false) fun a => bnd (sp_take t (i + 2) 47) fun _ => bnd (sp_num t (i + 3) 16 false) fun b => bnd (sp_take t (i + 4) 58) fun _ => (.inr (i + 5, addP (opn π) 123 a b) : F_T ⊕ (Nat × pm_T))) = .inl (cn t (i + 2)) := by
          rw [en]; simp only [bnd, sp_take]; rw [if_neg k47]
        rw [es]
        exact ⟨rfl, q1, q2⟩
    · exact a2 (a := 5) (b := x) hb20 H20.2.2 gV20 (by rw [bad (by omega), ex, H20.1.2.2.1, et]; rfl)
  · refine a3 (j := i + 1) hb20 H20 gV20 ?_
    unfold sp_num
    rw [if_neg (fun w => c ((num H20 e23).mpr w))]; rfl
