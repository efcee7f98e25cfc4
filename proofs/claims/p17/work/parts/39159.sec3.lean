/-! ===== second of both: what the latest lines found is carried ===== -/
theorem PRc_s {low : Int} {sp n : Nat} {R : Int} {ln : Nat → Int} {h h' : ah_T} (H : PRc low sp n R ln h) (e1 : ∀ k, 2 ≤ k → k ≤ 5 → h'.2.1 158 k = h.2.1 158 k) (e2 : ∀ j, j < n → h'.2.1 160 j = h.2.1 160 j) : PRc low sp n R ln h' := by
  obtain ⟨⟨h1, h2, h3, h4⟩, h5⟩ := H
  exact ⟨⟨(e1 2 (by decide) (by decide)).trans h1, (e1 3 (by decide) (by decide)).trans h2, (e1 4 (by decide) (by decide)).trans h3, (e1 5 (by decide) (by decide)).trans h4⟩, fun j hj => (e2 j hj).trans (h5 j hj)⟩
theorem PRr_s {low : Int} {sp n : Nat} {R : Int} {ln : Nat → Int} {h h' : ah_T} (H : PRr low sp n R ln h) (e1 : ∀ k, 93 ≤ k → k ≤ 96 → h'.2.1 170 k = h.2.1 170 k) (e2 : ∀ j, j < n → h'.2.1 229 j = h.2.1 229 j) : PRr low sp n R ln h' := by
  obtain ⟨⟨h1, h2, h3, h4⟩, h5⟩ := H
  exact ⟨⟨(e1 94 (by decide) (by decide)).trans h1, (e1 95 (by decide) (by decide)).trans h2, (e1 93 (by decide) (by decide)).trans h3, (e1 96 (by decide) (by decide)).trans h4⟩, fun j hj => (e2 j hj).trans (h5 j hj)⟩
theorem BLs_s {l : List Nat} {h h' : ah_T} (H : BLs l h) (e1 : h'.2.1 158 1 = h.2.1 158 1) (e2 : ∀ j, j < 1563 → h'.2.2.1 159 j = h.2.2.1 159 j) : BLs l h' :=
  ⟨e1.trans H.1, fun r hr => by rw [e2 (r / 64) (by omega)]; exact H.2 r hr⟩
/-- what second answers, as the heap has it -/
def SVs (f : Int → Int → Int) (h : ah_T) : Prop := ((∀ k i, f k i = -1) ∧ h.2.1 158 1 = 0 ∧ h.2.1 170 91 = 0) ∨ ∃ (low : Int) (sp n : Nat) (R : Int) (ln : Nat → Int), PRg low sp n ln ∧ sp ^ n ≤ 100000 ∧ (∀ k i, f k i = secv (rws (tvF low sp (fP R ln n) (n - 1) [])) low sp n k i) ∧ (PRc low sp n R ln h ∧ BLs (rws (tvF low sp (fP R ln n) (n - 1) [])) h) ∧ PRr low sp n R ln h ∧ h.2.1 170 91 = ((rws (tvF low sp (fP R ln n) (n - 1) [])).length : Int)
def FIs (h : ah_T) : Prop := ∃ f : Int → Int → Int, SVs f h
theorem SVs_e {f : Int → Int → Int} {h h' : ah_T} (H : SVs f h) (e1 : ∀ k, 1 ≤ k → k ≤ 5 → h'.2.1 158 k = h.2.1 158 k) (e2 : ∀ j, j < 8 → h'.2.1 160 j = h.2.1 160 j) (e3 : ∀ j, j < 1563 → h'.2.2.1 159 j = h.2.2.1 159 j) (e4 : ∀ k, k = 91 ∨ (93 ≤ k ∧ k ≤ 96) → h'.2.1 170 k = h.2.1 170 k) (e5 : ∀ j, j < 8 → h'.2.1 229 j = h.2.1 229 j) : SVs f h' := by
  rcases H with ⟨h1, h2, h3⟩ | ⟨low, sp, n, R, ln, g, hN, hf, ⟨A, B⟩, C, D⟩
  · exact Or.inl ⟨h1, (e1 1 (by decide) (by decide)).trans h2, (e4 91 (by decide)).trans h3⟩
  · have n8 := g.2.2.1.2
    exact Or.inr ⟨low, sp, n, R, ln, g, hN, hf, ⟨PRc_s A (fun k q1 q2 => e1 k (by omega) q2) (fun j hj => e2 j (by omega)), BLs_s B (e1 1 (by decide) (by decide)) e3⟩, PRr_s C (fun k q1 q2 => e4 k (Or.inr ⟨q1, q2⟩)) (fun j hj => e5 j (by omega)), (e4 91 (by decide)).trans D⟩
theorem FIs_c {s : Nat} {F : Nat → Prop} {h h' : ah_T} (H : FIs h) (k : kF F s h h') (h1 : F 158 ∧ F 159 ∧ F 160) (h2 : ∀ a, 170 ≤ a → F a) : FIs h' := by
  obtain ⟨f, H⟩ := H
  exact ⟨f, SVs_e H (fun j _ _ => congrFun (k.2 158 h1.1).1 j) (fun j _ => congrFun (k.2 160 h1.2.2).1 j) (fun j _ => congrFun (k.2 159 h1.2.1).2.1 j) (fun j _ => congrFun (k.2 170 (h2 _ (by decide))).1 j) (fun j _ => congrFun (k.2 229 (h2 _ (by decide))).1 j)⟩
theorem FIs_m {P : Nat → Nat → Bool} {h h' : ah_T} (H : FIs h) (k : kM P h h') (h1 : P 170 91 = false ∧ P 170 93 = false ∧ P 170 94 = false ∧ P 170 95 = false ∧ P 170 96 = false) (h2 : ∀ j, P 229 j = false) : FIs h' := by
  obtain ⟨f, H⟩ := H
  obtain ⟨p1, p2, p3, p4, p5⟩ := h1
  refine ⟨f, SVs_e H (fun j _ _ => congrFun (k.2.1 158 (by decide)).1 j) (fun j _ => congrFun (k.2.1 160 (by decide)).1 j) (fun j _ => congrFun (k.2.1 159 (by decide)).2.1 j) (fun j q => k.2.2.1 _ _ ?_) (fun j _ => k.2.2.1 _ _ (h2 j))⟩
  rcases (by omega : j = 91 ∨ j = 93 ∨ j = 94 ∨ j = 95 ∨ j = 96) with rfl | rfl | rfl | rfl | rfl <;> assumption
theorem FIs_s {P : Nat → Nat → Bool} {h h1 h2 : ah_T} (H : FIs h) (f : ∀ a, 170 ≤ a → same3 h h1 a) (Z : FZ h h1 h2) (k : kM P h1 h2) (hP : P 170 93 = false ∧ P 170 94 = false ∧ P 170 95 = false ∧ P 170 96 = false) (hQ : ∀ j, P 229 j = false) : FIs h2 := by
  obtain ⟨g, H⟩ := H
  rcases Z with ⟨zc, zm, -⟩ | ⟨zc, zm⟩
  · obtain ⟨p2, p3, p4, p5⟩ := hP
    refine ⟨g, SVs_e H (fun j q1 q2 => zc.1 _ _ (by decide) (by decide) ?_) (fun j hj => zc.1 _ _ (by decide) (by decide) (ic0 (n := 8) (by decide +kernel) hj)) (fun j hj => zc.2 _ _ (by decide) (by decide) (lc1 (n := 1563) (by decide +kernel) hj)) (fun j q => ?_) (fun j _ => (k.2.2.1 _ _ (hQ j)).trans (congrFun (f 229 (by decide)).1 j))⟩
    · rcases (by omega : j = 1 ∨ j = 2 ∨ j = 3 ∨ j = 4 ∨ j = 5) with rfl | rfl | rfl | rfl | rfl <;> decide +kernel
    · rcases (by omega : j = 91 ∨ j = 93 ∨ j = 94 ∨ j = 95 ∨ j = 96) with rfl | rfl | rfl | rfl | rfl
      · exact (zm 91 (by decide)).trans (congrFun (f 170 (by decide)).1 91)
      · exact (k.2.2.1 _ _ p2).trans (congrFun (f 170 (by decide)).1 93)
      · exact (k.2.2.1 _ _ p3).trans (congrFun (f 170 (by decide)).1 94)
      · exact (k.2.2.1 _ _ p4).trans (congrFun (f 170 (by decide)).1 95)
      · exact (k.2.2.1 _ _ p5).trans (congrFun (f 170 (by decide)).1 96)
  · exact ⟨fun _ _ => -1, Or.inl ⟨fun _ _ => rfl, zc.2.2.2.1, zm 91 (by decide)⟩⟩
theorem FIs_0 : FIs hp_0 := ⟨fun _ _ => -1, Or.inl ⟨fun _ _ => rfl, by decide +kernel, by decide +kernel⟩⟩
theorem lin_p {μ : pm_T} {low high R : Int} (b3 : 0 ≤ μ 0 3 ∧ μ 0 3 ≤ 8) (L : LNg μ) (h : 0 ≤ linv μ low high R) : PRg low (spn low high) (μ 0 3).toNat (μ 1) ∧ spn low high ^ (μ 0 3).toNat ≤ 100000 := by
  unfold linv at h
  by_cases ok : okl low high R
  · rw [dif_t ok] at h
    by_cases z : μ 0 3 = 0
    · rw [dif_t z] at h; exact absurd h (by decide)
    · rw [dif_f z] at h
      by_cases big : 100000 < spn low high ^ (μ 0 3).toNat
      · rw [dif_t big] at h; exact absurd h (by decide)
      · have o := ok.1
        have e : ((spn low high : Nat) : Int) = high - low + 1 := by unfold spn; omega
        exact ⟨⟨⟨by omega, by omega⟩, by omega, ⟨by omega, by omega⟩, fun j hj => L j (by omega)⟩, by omega⟩
  · rw [dif_f ok] at h; exact absurd h (by decide)
def FDs (μ : pm_T) (low high R : Int) (h : ah_T) : Prop := (linv μ low high R < 0 → FIs h) ∧ (0 ≤ linv μ low high R → PRc low (spn low high) (μ 0 3).toNat R (μ 1) h ∧ BLs (lnR μ low high R) h)
theorem f_PM_lines {G : cx_T} {s : Nat} {h : ah_T} {μ : pm_T} {low high R : Int} (hx : xi s h) (hm : mi h) (C : CKn μ (97 - s) h) (Rq : SRq μ h) (FI : FIs h) : con G 14 0 0 m_PM_lines [av_R (some 0), av_I low, av_I high, av_I R] h (fun r h' => ∃ z, r = some (av_I z) ∧ ((-2147483648) ≤ z ∧ z ≤ 2147483647) ∧ kF FC s h h' ∧ SRq μ h' ∧ FDs μ low high R h') := by
  have hb0 := hb_xm hx hm
  have hs := hx.2.1
  have hc : isS (97 - s) := by unfold isS at *; omega
  refine con_mono (con_conj (h2 := h) (s_PM_lines hx) (t_PM_lines hb0 hc C (LNg_of hm Rq.1))) ?_
  rintro r h' ⟨⟨z, rfl, q2, kc⟩, r2, h2, ⟨rfl, hb2, -, k1, k2⟩, er, SS⟩
  have A : agI h2 h' := agI_of hb2.1 kc.1.1 (sh_sym SS)
  have L : agL h2 h' := agL_of hb2.1 kc.1.1 (sh_sym SS)
  have a1 : ∀ k, 1 ≤ k → k ≤ 5 → h'.2.1 158 k = h2.2.1 158 k := fun j q1 q2 => by
    refine A 158 j ?_
    rcases (by omega : j = 1 ∨ j = 2 ∨ j = 3 ∨ j = 4 ∨ j = 5) with rfl | rfl | rfl | rfl | rfl <;> decide +kernel
  have a2 : ∀ j, j < 8 → h'.2.1 160 j = h2.2.1 160 j := fun j hj => A _ _ (ic0 (n := 8) (by decide +kernel) hj)
  have a3 : ∀ j, j < 1563 → h'.2.2.1 159 j = h2.2.2.1 159 j := fun j hj => L _ _ (lc1 (n := 1563) (by decide +kernel) hj)
  refine ⟨z, rfl, q2, kc, SR_c Rq kc, fun n => ?_, fun p => ?_⟩
  · obtain rfl := k1 n
    obtain ⟨f, H⟩ := FI
    exact ⟨f, SVs_e H a1 a2 a3 (fun j _ => congrFun (kc.2 170 (Or.inr (by decide))).1 j) (fun j _ => congrFun (kc.2 229 (Or.inr (by decide))).1 j)⟩
  · obtain ⟨P, B⟩ := k2 p
    have g := lin_p C.2.1.1 (LNg_of hm Rq.1) p
    have n8 := g.1.2.2.1.2
    exact ⟨PRc_s P (fun k q1 q2 => a1 k (by omega) q2) (fun j hj => a2 j (by omega)), BLs_s B (a1 1 (by decide) (by decide)) a3⟩
theorem f_MD_lines {G : cx_T} {s : Nat} {h : ah_T} {μ : pm_T} {low high R : Int} (hx : xi s h) (hm : mi h) (GG : GM μ) (Rq : SRq μ h) (FD : FDs μ low high R h) : con G 3 0 0 m_MD_lines [av_R (some 170), av_I low, av_I high, av_I R] h (fun r h' => ∃ z, r = some (av_I z) ∧ ((-2147483648) ≤ z ∧ z ≤ 2147483647) ∧ kM (pm [91, 93, 94, 95, 96] [229, 230]) h h' ∧ FIs h') := by
  have hb0 := hb_xm hx hm
  refine con_mono (con_conj (h2 := h) (s_MD_lines hm) (t_MD_lines hb0 Rq.1 (LNg_of hm Rq.1))) ?_
  rintro r h' ⟨⟨z, rfl, q2, kn⟩, r2, h2, ⟨rfl, hb2, -, k1, k2⟩, er, SS⟩
  have A : agI h2 h' := agI_of hb2.1 kn.1.1 (sh_sym SS)
  have a4 : ∀ k, k = 91 ∨ (93 ≤ k ∧ k ≤ 96) → h'.2.1 170 k = h2.2.1 170 k := fun j q => by
    refine A 170 j ?_
    rcases (by omega : j = 91 ∨ j = 93 ∨ j = 94 ∨ j = 95 ∨ j = 96) with rfl | rfl | rfl | rfl | rfl <;> decide +kernel
  have a5 : ∀ j, j < 8 → h'.2.1 229 j = h2.2.1 229 j := fun j hj => A _ _ (ic0 (n := 8) (by decide +kernel) hj)
  have c1 : ∀ a k, a < 170 → h'.2.1 a k = h.2.1 a k := fun a k q => congrFun (kn.2.1 a q).1 k
  have c2 : ∀ a k, a < 170 → h'.2.2.1 a k = h.2.2.1 a k := fun a k q => congrFun (kn.2.1 a q).2.1 k
  refine ⟨z, rfl, q2, kn, ?_⟩
  by_cases n : linv μ low high R < 0
  · obtain rfl := k1 n
    obtain ⟨f, H⟩ := FD.1 n
    exact ⟨f, SVs_e H (fun j _ _ => c1 _ _ (by decide)) (fun j _ => c1 _ _ (by decide)) (fun j _ => c2 _ _ (by decide)) a4 a5⟩
  · have g := lin_p Rq.1.2.1.1 (LNg_of hm Rq.1) (low := low) (high := high) (R := R) (by omega)
    have n8 := g.1.2.2.1.2
    obtain ⟨P, B⟩ := FD.2 (by omega)
    obtain ⟨Q1, Q2⟩ := k2 (by omega)
    exact ⟨secv (lnR μ low high R) low (spn low high) (μ 0 3).toNat, Or.inr ⟨low, spn low high, (μ 0 3).toNat, R, μ 1, g.1, g.2, fun _ _ => rfl, ⟨PRc_s P (fun k _ _ => c1 _ _ (by decide)) (fun j _ => c1 _ _ (by decide)), BLs_s B (c1 _ _ (by decide)) (fun j _ => c2 _ _ (by decide))⟩, PRr_s Q1 (fun k q1 q2 => a4 k (Or.inr ⟨q1, q2⟩)) (fun j hj => a5 j (by omega)), (a4 91 (by decide)).trans Q2⟩⟩
theorem secv_b {l : List Nat} {low : Int} {sp n : Nat} {ln : Nat → Int} {k i : Int} (g : PRg low sp n ln) : (-2147483648) ≤ secv l low sp n k i ∧ secv l low sp n k i ≤ 2147483647 := by
  obtain ⟨⟨g1, g2⟩, g3, -⟩ := g
  unfold secv
  split
  · have : l.getD k.toNat 0 / sp ^ (n - 1 - i.toNat) % sp < sp := Nat.mod_lt _ (by omega)
    omega
  · decide
theorem e_PM_second {G : cx_T} {s : Nat} {h : ah_T} {f : Int → Int → Int} {k i : Int} (hx : xi s h) (hm : mi h) (H : SVs f h) : con G 3 0 0 m_PM_second [av_R (some 0), av_I k, av_I i] h (fun r h' => ∃ z, r = some (av_I z) ∧ h = h' ∧ z = f k i) := by
  have hb0 := hb_xm hx hm
  rcases H with ⟨h1, h2, h3⟩ | ⟨low, sp, n, R, ln, g, hN, hf, ⟨A, B⟩, C, D⟩
  · refine con_mono (con_conj (h2 := h) (s_PM_second hx) (c_PM_second (Q := fun r h' => r = some (av_I (-1)) ∧ hb s h' ∧ h' = h) hb0 (fun _ _ => ?_))) ?_
    · unfold B_PM_second_0
      refine con_mono (c_Seconds_keyIn (X48 := fun _ _ _ => False) (Q := fun r h' => r = some (av_I (-1)) ∧ hb s h' ∧ h' = h) (fun _ _ _ _ x => x.elim) hb0 (fun _ _ => ?_)) ?_
      · unfold B_Seconds_keyIn_0 B_Seconds_keyIn_32
        refine ⟨fun _ => ⟨rfl, hb0, rfl⟩, fun q1 x1 e1 _ _ => ⟨fun _ => ⟨rfl, hb0, rfl⟩, fun q2 => ?_⟩⟩
        have ex := e1.trans h2
        omega
      · rintro r h2 ⟨rfl, hb2, rfl⟩
        exact ⟨_, rfl, hb2, rfl, hb2, rfl⟩
    · rintro r h' ⟨⟨z, rfl, q2, rfl⟩, r2, h2', ⟨rfl, hb2, -⟩, er, -⟩
      exact ⟨z, rfl, rfl, (cv_eq (cv_I er rfl) q2 (by decide)).trans (h1 k i).symm⟩
  · have rl := rwF_l (low := low) (sp := sp) (P := fP R ln n) n []
    have rs := rwF_s (low := low) (sp := sp) (P := fP R ln n) n []
    obtain ⟨m, em⟩ : ∃ m, n = m + 1 := ⟨n - 1, by have := g.2.2.1.1; omega⟩
    have er : rwF low sp (fP R ln n) n [] = rws (tvF low sp (fP R ln n) (n - 1) []) := by
      rw [show n - 1 = m by omega]
      conv => lhs; rw [em]
      rw [em]
      rfl
    rw [er] at rl rs
    have hm1 : ∀ r, r ∈ rws (tvF low sp (fP R ln n) (n - 1) []) → r < 100000 := fun r hr => by
      have := (rs.2 r hr).2
      have e0 : rowL low sp [] = 0 := rfl
      rw [e0, Nat.zero_add, Nat.one_mul] at this
      omega
    refine con_mono (con_conj (h2 := h) (s_PM_second hx) (t_PM_second (k := k) (i := i) hb0 A g B rs.1 hm1 (by omega))) ?_
    rintro r h' ⟨⟨z, rfl, q2, rfl⟩, r2, h2', ⟨rfl, hb2, -⟩, er2, -⟩
    exact ⟨z, rfl, rfl, (cv_eq (cv_I er2 rfl) q2 (secv_b g)).trans (hf k i).symm⟩
theorem e_MD_second {G : cx_T} {s : Nat} {h : ah_T} {f : Int → Int → Int} {k i : Int} (hx : xi s h) (hm : mi h) (H : SVs f h) : con G 3 0 0 m_MD_second [av_R (some 170), av_I k, av_I i] h (fun r h' => ∃ z, r = some (av_I z) ∧ ((-2147483648) ≤ z ∧ z ≤ 2147483647) ∧ kM (pm [] [230]) h h' ∧ z = f k i) := by
  have hb0 := hb_xm hx hm
  rcases H with ⟨h1, h2, h3⟩ | ⟨low, sp, n, R, ln, g, hN, hf, ⟨A, B⟩, C, D⟩
  · refine con_mono (con_conj (h2 := h) (s_MD_second hm) (c_MD_second (Q := fun r h' => r = some (av_I (-1)) ∧ hb s h') hb0 (fun _ _ => ?_))) ?_
    · unfold B_MD_second_0 B_MD_second_24
      refine ⟨fun _ => ⟨rfl, hb0⟩, fun q1 x1 e1 _ _ => ⟨fun _ => ⟨rfl, hb0⟩, fun q2 => ?_⟩⟩
      have ex := e1.trans h3
      omega
    · rintro r h' ⟨⟨z, rfl, q2, kn⟩, r2, h2', ⟨rfl, hb2⟩, er, -⟩
      exact ⟨z, rfl, q2, kn, (cv_eq (cv_I er rfl) q2 (by decide)).trans (h1 k i).symm⟩
  · refine con_mono (con_conj (h2 := h) (s_MD_second hm) (t_MD_second (k := k) (i := i) hb0 C g hN D)) ?_
    rintro r h' ⟨⟨z, rfl, q2, kn⟩, r2, h2', ⟨rfl, hb2, -⟩, er2, -⟩
    exact ⟨z, rfl, q2, kn, (cv_eq (cv_I er2 rfl) q2 (secv_b g)).trans (hf k i).symm⟩
