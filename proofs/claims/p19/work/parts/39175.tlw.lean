/-! ===== tree of both: what the latest readings found is carried ===== -/
theorem RUm_e {μ : pm_T} {h h' : ah_T} (U : RUm μ h) (e : ∀ a k, Rce a k → h'.2.1 a k = h.2.1 a k) : RUm μ h' := by
  obtain ⟨⟨u1, u2⟩, ub, u3, u4⟩ := U
  refine ⟨⟨(e 177 0 (by unfold Rce; omega)).trans u1, (e 181 0 (by unfold Rce; omega)).trans u2⟩, ub, fun j hj => ?_, fun j hj => (e 182 j (by unfold Rce; omega)).trans (u4 j hj)⟩
  obtain ⟨a1, a2, a3⟩ := u3 j hj
  exact ⟨(e 178 j (by unfold Rce; omega)).trans a1, (e 179 j (by unfold Rce; omega)).trans a2, (e 180 j (by unfold Rce; omega)).trans a3⟩
def TVs (g : Int → Int → Int) (h : ah_T) : Prop := ((∀ k i, g k i = -1) ∧ h.2.1 162 1 = 0 ∧ h.2.1 170 98 = 0) ∨ ∃ μ : pm_T, (∀ k i, g k i = trv μ k i) ∧ ((1 ≤ μ 0 4 ∧ μ 0 4 ≤ 24) ∧ (1 ≤ μ 0 5 ∧ μ 0 5 ≤ 12)) ∧ NMg μ ∧ RUm μ h ∧ reaN μ ≤ 1000000 ∧ (h.2.1 162 1 = reaN μ ∧ h.2.1 170 98 = reaN μ) ∧ (TBa μ h ∧ VBt h) ∧ TBb μ h
def FIt (h : ah_T) : Prop := ∃ g : Int → Int → Int, TVs g h
theorem TVs_e {g : Int → Int → Int} {h h' : ah_T} (H : TVs g h) (e1 : h'.2.1 162 1 = h.2.1 162 1) (e2 : ∀ k, k < 2704 → h'.2.1 163 k = h.2.1 163 k) (e3 : h'.2.1 170 98 = h.2.1 170 98) (e4 : ∀ k, k < 2704 → h'.2.2.1 231 k = h.2.2.1 231 k) (e5 : ∀ a k, Rce a k → h'.2.1 a k = h.2.1 a k) : TVs g h' := by
  rcases H with ⟨h1, h2, h3⟩ | ⟨μ, hg, hb, N, U, hr, ⟨f1, f2⟩, ⟨T, V⟩, B⟩
  · exact Or.inl ⟨h1, e1.trans h2, e3.trans h3⟩
  · exact Or.inr ⟨μ, hg, hb, N, RUm_e U e5, hr, ⟨e1.trans f1, e3.trans f2⟩, ⟨fun a f m h1 h2 h3 h4 => (e2 _ (by unfold ixT; omega)).trans (T a f m h1 h2 h3 h4), fun k hk => by rw [e2 k hk]; exact V k hk⟩, fun a f m h1 h2 h3 h4 => (e4 _ (by unfold ixT; omega)).trans (B a f m h1 h2 h3 h4)⟩
theorem Rce_b {a k : Nat} (q : Rce a k) : 177 ≤ a ∧ a ≤ 182 := by unfold Rce at q; omega
theorem Rce_i {a k : Nat} (q : Rce a k) : icb a k = true := by
  rcases q with ⟨rfl | rfl, rfl⟩ | ⟨⟨q1, q2⟩, q3⟩ | ⟨rfl, q3⟩
  · decide +kernel
  · decide +kernel
  · rcases (by omega : a = 178 ∨ a = 179 ∨ a = 180) with rfl | rfl | rfl
    · exact ic0 (n := 48) (by decide +kernel) (by omega)
    · exact ic0 (n := 48) (by decide +kernel) (by omega)
    · exact ic0 (n := 48) (by decide +kernel) (by omega)
  · exact ic0 (n := 24) (by decide +kernel) (by omega)
theorem FIt_c {s : Nat} {F : Nat → Prop} {h h' : ah_T} (H : FIt h) (k : kF F s h h') (h1 : F 162 ∧ F 163) (h2 : ∀ a, 170 ≤ a → F a) : FIt h' := by
  obtain ⟨g, H⟩ := H
  exact ⟨g, TVs_e H (congrFun (k.2 162 h1.1).1 1) (fun j _ => congrFun (k.2 163 h1.2).1 j) (congrFun (k.2 170 (h2 _ (by decide))).1 98) (fun j _ => congrFun (k.2 231 (h2 _ (by decide))).2.1 j) (fun a j q => congrFun (k.2 a (h2 a (by have := Rce_b q; omega))).1 j)⟩
theorem FIt_m {P : Nat → Nat → Bool} {h h' : ah_T} (H : FIt h) (k : kM P h h') (h1 : P 170 98 = false) (h2 : ∀ j, P 177 j = false ∧ P 178 j = false ∧ P 179 j = false ∧ P 180 j = false ∧ P 181 j = false ∧ P 182 j = false ∧ P 231 j = false) : FIt h' := by
  obtain ⟨g, H⟩ := H
  refine ⟨g, TVs_e H (congrFun (k.2.1 162 (by decide)).1 1) (fun j _ => congrFun (k.2.1 163 (by decide)).1 j) (k.2.2.1 _ _ h1) (fun j _ => k.2.2.2 _ _ (h2 j).2.2.2.2.2.2) (fun a j q => k.2.2.1 _ _ ?_)⟩
  obtain ⟨p1, p2, p3, p4, p5, p6, -⟩ := h2 j
  have b := Rce_b q
  rcases (by omega : a = 177 ∨ a = 178 ∨ a = 179 ∨ a = 180 ∨ a = 181 ∨ a = 182) with rfl | rfl | rfl | rfl | rfl | rfl <;> assumption
theorem FIt_s {P : Nat → Nat → Bool} {h h1 h2 : ah_T} (H : FIt h) (f : ∀ a, 170 ≤ a → same3 h h1 a) (Z : FZ h h1 h2) (k : kM P h1 h2) (hQ : ∀ j, P 231 j = false) : FIt h2 := by
  obtain ⟨g, H⟩ := H
  rcases Z with ⟨zc, zm, zr⟩ | ⟨zc, zm⟩
  · exact ⟨g, TVs_e H (zc.1 _ _ (by decide) (by decide) (by decide +kernel)) (fun j hj => zc.1 _ _ (by decide) (by decide) (ic0 (n := 2704) (by decide +kernel) hj)) ((zm 98 (by decide)).trans (congrFun (f 170 (by decide)).1 98)) (fun j _ => (k.2.2.2 _ _ (hQ j)).trans (congrFun (f 231 (by decide)).2.1 j)) (fun a j q => (zr a j q (Rce_i q)).trans (congrFun (f a (by have := Rce_b q; omega)).1 j))⟩
  · exact ⟨fun _ _ => -1, Or.inl ⟨fun _ _ => rfl, zc.2.2.2.2.1, zm 98 (by decide)⟩⟩
theorem FIt_0 : FIt hp_0 := ⟨fun _ _ => -1, Or.inl ⟨fun _ _ => rfl, by decide +kernel, by decide +kernel⟩⟩
theorem nz_t {x y : Int} (e : nz x = nz y) : x.toNat = y.toNat ∧ (x < 0 ↔ y < 0) := by
  unfold nz at e
  constructor
  · split at e <;> split at e <;> omega
  · split at e <;> split at e <;> omega
theorem RE_of {μ ν : pm_T} {h : ah_T} (U : RUm μ h) (W : RUm ν h) : RE μ ν := by
  obtain ⟨⟨u1, u2⟩, ub, u3, u4⟩ := U
  obtain ⟨⟨w1, w2⟩, wb, w3, w4⟩ := W
  have e4 : μ 0 4 = ν 0 4 := u1.symm.trans w1
  have e5 : μ 0 5 = ν 0 5 := u2.symm.trans w2
  refine ⟨⟨e4, e5⟩, fun r hr => ?_, fun f hf => (u4 f hf).symm.trans (w4 f (by omega))⟩
  obtain ⟨a1, a2, a3⟩ := u3 r hr
  obtain ⟨b1, b2, b3⟩ := w3 r (by omega)
  exact ⟨a1.symm.trans b1, a2.symm.trans b2, nz_t (a3.symm.trans b3)⟩
theorem reav_c {μ : pm_T} : (reav μ = -2 ∧ (μ 0 4 = 0 ∨ μ 0 5 = 0)) ∨ (reav μ = -4 ∧ μ 0 4 ≠ 0 ∧ μ 0 5 ≠ 0 ∧ 1000000 < reaN μ) ∨ (reav μ = reaN μ ∧ μ 0 4 ≠ 0 ∧ μ 0 5 ≠ 0 ∧ 0 ≤ reaN μ ∧ reaN μ ≤ 1000000) := by
  have rb : 0 ≤ reaN μ ∧ reaN μ ≤ 1000001 := trN_b _ _ _
  unfold reav
  by_cases c4 : μ 0 4 = 0
  · rw [if_pos c4]; exact Or.inl ⟨rfl, Or.inl c4⟩
  · rw [if_neg c4]
    by_cases c5 : μ 0 5 = 0
    · rw [if_pos c5]; exact Or.inl ⟨rfl, Or.inr c5⟩
    · rw [if_neg c5]
      by_cases c : 1000000 < reaN μ
      · rw [if_pos c]; exact Or.inr (Or.inl ⟨rfl, c4, c5, c⟩)
      · rw [if_neg c]; exact Or.inr (Or.inr ⟨rfl, c4, c5, rb.1, by omega⟩)
theorem FIt_z {μ : pm_T} {h : ah_T} (H : FIt h) (U : RUm μ h) (n : reav μ < 0) : h.2.1 162 1 = 0 ∧ h.2.1 170 98 = 0 := by
  obtain ⟨g, ⟨-, h2, h3⟩ | ⟨ν, -, ⟨b4, b5⟩, N, W, hr, -⟩⟩ := H
  · exact ⟨h2, h3⟩
  · exfalso
    have E := RE_of W U
    have e := (trv_q E N b4.1 b5 0 0).1
    have e4 := E.1.1
    have e5 := E.1.2
    rcases reav_c (μ := μ) with ⟨-, c⟩ | ⟨-, -, -, c⟩ | ⟨c, -, -, c2, -⟩ <;> omega
def FDt (μ : pm_T) (h : ah_T) : Prop := (reav μ < 0 → h.2.1 162 1 = 0 ∧ h.2.1 170 98 = 0) ∧ (0 ≤ reav μ → TBa μ h ∧ VBt h ∧ h.2.1 162 1 = reaN μ)
theorem f_PM_readings {G : cx_T} {s : Nat} {h : ah_T} {μ : pm_T} (hx : xi s h) (hm : mi h) (C : CKn μ (97 - s) h) (R : SRq μ h) (hR : RL h) (FI : FIt h) : con G 6 0 0 m_PM_readings [av_R (some 0)] h (fun r h' => ∃ z, r = some (av_I z) ∧ ((-2147483648) ≤ z ∧ z ≤ 2147483647) ∧ kF FC s h h' ∧ SRq μ h' ∧ FDt μ h') := by
  have hb0 := hb_xm hx hm
  have hs := hx.2.1
  have hc : isS (97 - s) := by unfold isS at *; omega
  have U := RUm_of R.1
  refine con_mono (con_conj (h2 := h) (s_PM_readings hx) (t_PM_readings hb0 hc (RUc_of C) (NMg_of hm R.1 hR))) ?_
  rintro r h' ⟨⟨z, rfl, q2, kc⟩, r2, h2, ⟨rfl, hb2, -, st⟩, er, SS⟩
  have A : agI h2 h' := agI_of hb2.1 kc.1.1 (sh_sym SS)
  have a1 : h'.2.1 162 1 = h2.2.1 162 1 := A _ _ (by decide +kernel)
  have a2 : ∀ k, k < 2704 → h'.2.1 163 k = h2.2.1 163 k := fun k hk => A _ _ (ic0 (n := 2704) (by decide +kernel) hk)
  have c98 : h'.2.1 170 98 = h.2.1 170 98 := congrFun (kc.2 170 (Or.inr (by decide))).1 98
  refine ⟨z, rfl, q2, kc, SR_c R kc, fun n => ?_, fun p => ?_⟩
  · obtain ⟨z1, z2⟩ := FIt_z FI U n
    refine ⟨a1.trans ?_, c98.trans z2⟩
    rcases st with ⟨-, e⟩ | ⟨-, -, -, ⟨-, e⟩ | ⟨e, -⟩⟩
    · rw [e]; exact z1
    · rw [e]; exact z1
    · omega
  · rcases st with ⟨e, -⟩ | ⟨-, T, V, ⟨e, -⟩ | ⟨-, -, e, e2⟩⟩
    · omega
    · omega
    · have l12 := U.2.1.2
      exact ⟨fun a f m h1 h2 h3 h4 => (a2 _ (by unfold ixT; omega)).trans (T a f m h1 h2 h3 h4), fun k hk => by rw [a2 k hk]; exact V k hk, a1.trans (e.trans e2)⟩
theorem f_MD_readings {G : cx_T} {s : Nat} {h : ah_T} {μ : pm_T} (hx : xi s h) (hm : mi h) (hR : RL h) (hT : TP h) (GG : GM μ) (R : SRq μ h) (FD : FDt μ h) : con G 2 0 0 m_MD_readings [av_R (some 170)] h (fun r h' => ∃ z, r = some (av_I z) ∧ ((-2147483648) ≤ z ∧ z ≤ 2147483647) ∧ (TP h') ∧ kM (pm [98] [231]) h h' ∧ FIt h') := by
  have hb0 := hb_xm hx hm
  have U := RUm_of R.1
  have Nm := NMg_of hm R.1 hR
  refine con_mono (con_conj (h2 := h) (s_MD_readings hm hR hT) (t_MD_readings hb0 U Nm)) ?_
  rintro r h' ⟨⟨z, rfl, q2, q3, kn⟩, r2, h2, ⟨rfl, hb2, -, st⟩, er, SS⟩
  have A : agI h2 h' := agI_of hb2.1 kn.1.1 (sh_sym SS)
  have L : agL h2 h' := agL_of hb2.1 kn.1.1 (sh_sym SS)
  have a98 : h'.2.1 170 98 = h2.2.1 170 98 := A _ _ (by decide +kernel)
  have l231 : ∀ k, k < 2704 → h'.2.2.1 231 k = h2.2.2.1 231 k := fun k hk => L _ _ (lc1 (n := 2704) (by decide +kernel) hk)
  have c1 : ∀ a k, a < 170 → h'.2.1 a k = h.2.1 a k := fun a k q => congrFun (kn.2.1 a q).1 k
  refine ⟨z, rfl, q2, q3, kn, ?_⟩
  by_cases n : reav μ < 0
  · obtain ⟨z1, z2⟩ := FD.1 n
    refine ⟨fun _ _ => -1, Or.inl ⟨fun _ _ => rfl, (c1 _ _ (by decide)).trans z1, a98.trans ?_⟩⟩
    rcases st with ⟨-, e⟩ | ⟨-, -, ⟨-, e⟩ | ⟨e, -⟩⟩
    · rw [e]; exact z2
    · rw [e]; exact z2
    · omega
  · obtain ⟨T, V, f1⟩ := FD.2 (by omega)
    have b4 := U.2.1.1
    have b5 := U.2.1.2
    rcases st with ⟨e, -⟩ | ⟨-, B, ⟨e, -⟩ | ⟨-, e0, e, e2⟩⟩
    · omega
    · omega
    · have nn : μ 0 4 ≠ 0 ∧ μ 0 5 ≠ 0 := by rcases reav_c (μ := μ) with ⟨c, -⟩ | ⟨c, -⟩ | ⟨-, c1, c2, -⟩ <;> first | exact ⟨c1, c2⟩ | omega
      refine ⟨trv μ, Or.inr ⟨μ, fun _ _ => rfl, ⟨⟨by omega, by omega⟩, ⟨by omega, by omega⟩⟩, Nm, RUm_e U (fun a k q => kn.2.2.1 a k ?_), by omega, ⟨(c1 _ _ (by decide)).trans f1, a98.trans (e.trans e2)⟩, ⟨fun a f m h1 h2 h3 h4 => (c1 _ _ (by decide)).trans (T a f m h1 h2 h3 h4), fun k hk => by rw [c1 _ _ (by decide)]; exact V k hk⟩, fun a f m h1 h2 h3 h4 => (l231 _ (by unfold ixT; omega)).trans (B a f m h1 h2 h3 h4)⟩⟩
      have b := Rce_b q
      rcases (by omega : a = 177 ∨ a = 178 ∨ a = 179 ∨ a = 180 ∨ a = 181 ∨ a = 182) with rfl | rfl | rfl | rfl | rfl | rfl <;> rfl
theorem e_PM_tree {G : cx_T} {s : Nat} {h : ah_T} {μ : pm_T} {g : Int → Int → Int} {k i : Int} (hx : xi s h) (hm : mi h) (C : CKn μ (97 - s) h) (R : SRq μ h) (hR : RL h) (H : TVs g h) : con G 6 0 0 m_PM_tree [av_R (some 0), av_I k, av_I i] h (fun r h' => ∃ z, r = some (av_I z) ∧ ((-2147483648) ≤ z ∧ z ≤ 2147483647) ∧ kF FC s h h' ∧ TVs g h' ∧ z = g k i) := by
  have hb0 := hb_xm hx hm
  have hs := hx.2.1
  have hc : isS (97 - s) := by unfold isS at *; omega
  have H' := H
  rcases H' with ⟨h1, h2, h3⟩ | ⟨ν, hg, ⟨b4, b5⟩, N, W, hr, ⟨f1, f2⟩, ⟨T, V⟩, B⟩
  · refine con_mono (con_conj (h2 := h) (s_PM_tree hx) (c_PM_tree (Q := fun r h' => r = some (av_I (-1)) ∧ hb s h' ∧ h' = h) hb0 (fun _ _ => ?_))) ?_
    · unfold B_PM_tree_0
      refine con_mono (t_Trees_ruleIn0 hb0 hc h2) ?_
      rintro r h' ⟨rfl, hb', rfl⟩
      exact ⟨_, rfl, hb', rfl, hb', rfl⟩
    · rintro r h' ⟨⟨z, rfl, q2, kc⟩, r2, h4, ⟨rfl, hb2, rfl⟩, er, SS⟩
      have A : agI h4 h' := agI_of hb2.1 kc.1.1 (sh_sym SS)
      exact ⟨z, rfl, q2, kc, Or.inl ⟨h1, (A _ _ (by decide +kernel)).trans h2, (A _ _ (by decide +kernel)).trans h3⟩, (cv_eq (cv_I er rfl) q2 (by decide)).trans (h1 k i).symm⟩
  · have U := RUm_of R.1
    have E := RE_of W U
    obtain ⟨er, et⟩ := trv_q E N b4.1 b5 k i
    have T' : TCs μ (97 - s) h := by
      refine ⟨RUc_of C, fun a f m h1 h2 h3 h4 => ?_, V⟩
      have e5 := E.1.2
      rw [← trN_e E (by omega) m f a (by omega)]
      exact T a f m h1 h2 (by rw [e5]; exact h3) (by rw [e5]; exact h4)
    have Nm := NMg_of hm R.1 hR
    have e4 := E.1.1
    have e5 := E.1.2
    refine con_mono (con_conj (h2 := h) (s_PM_tree hx) (c_PM_tree (Q := fun r h' => r = some (av_I (trv μ k i)) ∧ hb s h' ∧ fr TWa h h') hb0 (fun _ _ => ?_))) ?_
    · unfold B_PM_tree_0
      refine con_mono (t_Trees_ruleIn hb0 hc T' Nm (by omega) (by omega) (by rw [f1, er])) ?_
      rintro r h' ⟨rfl, hb', f'⟩
      exact ⟨_, rfl, hb', rfl, hb', f'⟩
    · rintro r h' ⟨⟨z, rfl, q2, kc⟩, r2, h4, ⟨rfl, hb2, fw⟩, err, SS⟩
      have A : agI h4 h' := agI_of hb2.1 kc.1.1 (sh_sym SS)
      have tb := trv_b (k := k) (i := i) Nm (by omega) (by omega)
      refine ⟨z, rfl, q2, kc, TVs_e H ((A _ _ (by decide +kernel)).trans (fr_g fw (by omega))) (fun j hj => (A _ _ (ic0 (n := 2704) (by decide +kernel) hj)).trans (fr_g fw (by omega))) (congrFun (kc.2 170 (Or.inr (by decide))).1 98) (fun j _ => congrFun (kc.2 231 (Or.inr (by decide))).2.1 j) (fun a j q => congrFun (kc.2 a (Or.inr (by have := Rce_b q; omega))).1 j), ?_⟩
      rw [cv_eq (cv_I err rfl) q2 tb, hg, et]
theorem e_MD_tree {G : cx_T} {s : Nat} {h : ah_T} {g : Int → Int → Int} {k i : Int} (hx : xi s h) (hm : mi h) (hR : RL h) (hT : TP h) (H : TVs g h) : con G 2 0 0 m_MD_tree [av_R (some 170), av_I k, av_I i] h (fun r h' => ∃ z, r = some (av_I z) ∧ ((-2147483648) ≤ z ∧ z ≤ 2147483647) ∧ kM (pm [] [232, 233, 234, 235]) h h' ∧ z = g k i) := by
  have hb0 := hb_xm hx hm
  rcases H with ⟨h1, h2, h3⟩ | ⟨ν, hg, ⟨b4, b5⟩, N, W, hr, ⟨f1, f2⟩, ⟨T, V⟩, B⟩
  · refine con_mono (con_conj (h2 := h) (s_MD_tree hm hR hT) (c_MD_tree (X62 := fun _ _ _ => False) (Q := fun r h' => r = some (av_I (-1)) ∧ hb s h') (fun _ _ _ _ x => x.elim) hb0 (fun _ _ => ?_))) ?_
    · unfold B_MD_tree_0 B_MD_tree_16
      refine ⟨fun _ => ⟨rfl, hb0⟩, fun q1 x1 e1 _ _ => ⟨fun _ => ⟨rfl, hb0⟩, fun q2 => ?_⟩⟩
      have ex := e1.trans h3
      omega
    · rintro r h' ⟨⟨z, rfl, q2, kn⟩, r2, h2', ⟨rfl, hb2⟩, er, -⟩
      exact ⟨z, rfl, q2, kn, (cv_eq (cv_I er rfl) q2 (by decide)).trans (h1 k i).symm⟩
  · refine con_mono (con_conj (h2 := h) (s_MD_tree hm hR hT) (t_MD_tree (k := k) (i := i) hb0 ⟨W, B⟩ N b4.1 b5.1 f2)) ?_
    rintro r h' ⟨⟨z, rfl, q2, kn⟩, r2, h2', ⟨rfl, hb2, -⟩, er, -⟩
    exact ⟨z, rfl, q2, kn, (cv_eq (cv_I er rfl) q2 (trv_b N b4 b5)).trans (hg k i).symm⟩
