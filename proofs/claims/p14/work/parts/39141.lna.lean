/-! ===== line of both: the list of LINES that the latest breaks found ===== -/
def FIl (h : ah_T) : Prop := ∃ l : List Int, l.length ≤ 14 ∧ GLp l h ∧ GLq l h
theorem GLp_s {l : List Int} {h h' : ah_T} (H : GLp l h) (e1 : h'.2.1 150 1 = h.2.1 150 1) (e2 : ∀ k, k < l.length → h'.2.1 151 k = h.2.1 151 k) : GLp l h' := by
  refine ⟨e1.trans H.1, fun k v hk => ?_⟩
  have kl : k < l.length := by
    by_cases c : k < l.length
    · exact c
    · rw [List.getElem?_eq_none (by omega)] at hk; cases hk
  exact (e2 k kl).trans (H.2 k v hk)
theorem GLq_s {l : List Int} {h h' : ah_T} (H : GLq l h) (e1 : h'.2.1 170 89 = h.2.1 170 89) (e2 : ∀ k, k < l.length → h'.2.1 228 k = h.2.1 228 k) : GLq l h' := by
  refine ⟨e1.trans H.1, fun k v hk => ?_⟩
  have kl : k < l.length := by
    by_cases c : k < l.length
    · exact c
    · rw [List.getElem?_eq_none (by omega)] at hk; cases hk
  exact (e2 k kl).trans (H.2 k v hk)
theorem FIl_c {s : Nat} {F : Nat → Prop} {h h' : ah_T} (H : FIl h) (k : kF F s h h') (h1 : F 150 ∧ F 151) (h2 : F 170 ∧ F 228) : FIl h' := by
  obtain ⟨l, hl, A, B⟩ := H
  exact ⟨l, hl, GLp_s A (congrFun (k.2 _ h1.1).1 _) (fun j _ => congrFun (k.2 _ h1.2).1 j), GLq_s B (congrFun (k.2 _ h2.1).1 _) (fun j _ => congrFun (k.2 _ h2.2).1 j)⟩
theorem FIl_m {P : Nat → Nat → Bool} {h h' : ah_T} (H : FIl h) (k : kM P h h') (h1 : P 170 89 = false) (h2 : ∀ j, P 228 j = false) : FIl h' := by
  obtain ⟨l, hl, A, B⟩ := H
  exact ⟨l, hl, GLp_s A (congrFun (k.2.1 150 (by decide)).1 _) (fun j _ => congrFun (k.2.1 151 (by decide)).1 j), GLq_s B (k.2.2.1 _ _ h1) (fun j _ => k.2.2.1 _ _ (h2 j))⟩
theorem FIl_s {P : Nat → Nat → Bool} {h h1 h2 : ah_T} (H : FIl h) (f : ∀ a, 170 ≤ a → same3 h h1 a) (Z : FZ h h1 h2) (k : kM P h1 h2) (hP : ∀ j, P 228 j = false) : FIl h2 := by
  obtain ⟨l, hl, A, B⟩ := H
  rcases Z with ⟨zc, zm, -⟩ | ⟨zc, zm⟩
  · refine ⟨l, hl, GLp_s A (zc.1 _ _ (by decide) (by decide) (by decide +kernel)) (fun j hj => zc.1 _ _ (by decide) (by decide) (ic0 (n := 14) (by decide +kernel) (by omega))), GLq_s B ((zm 89 (by decide)).trans (congrFun (f 170 (by decide)).1 89)) (fun j _ => (k.2.2.1 _ _ (hP j)).trans (congrFun (f 228 (by decide)).1 j))⟩
  · exact ⟨[], by decide, ⟨zc.2.2.1, fun k v hk => by cases hk⟩, zm 89 (by decide), fun k v hk => by cases hk⟩
theorem FIl_0 : FIl hp_0 := ⟨[], by decide, ⟨by decide +kernel, fun k v hk => by cases hk⟩, by decide +kernel, fun k v hk => by cases hk⟩
theorem lnl_l {μ : pm_T} {w : Int} (h : ¬ 14 < mbr μ (μ 0 7).toNat) : (lnl μ w).length ≤ 14 := by
  unfold lnl
  have := grpL_l (wd := wdt μ) (w := w) (z := (mbr μ (μ 0 7).toNat).toNat) (mbr μ (μ 0 7).toNat).toNat (mbr μ (μ 0 7).toNat).toNat
  omega
theorem brkv_n {μ : pm_T} {w : Int} (h : 0 ≤ brkv μ w) : ¬ 14 < mbr μ (μ 0 7).toNat := fun big => by
  unfold brkv at h
  by_cases c : 1 ≤ w ∧ w ≤ 1000
  · rw [dif_t c] at h
    by_cases c0 : μ 0 7 = 0
    · rw [dif_t c0] at h; exact absurd h (by decide)
    · rw [dif_f c0] at h
      unfold lnv at h
      rw [dif_t big] at h
      exact absurd h (by decide)
  · rw [dif_f c] at h; exact absurd h (by decide)
/-- between the two calls of breaks -/
def FDl (μ : pm_T) (w : Int) (h : ah_T) : Prop := (brkv μ w < 0 → FIl h) ∧ (0 ≤ brkv μ w → GLp (lnl μ w) h)
theorem f_PM_breaks {G : cx_T} {s : Nat} {h : ah_T} {μ : pm_T} {w : Int} (hx : xi s h) (hm : mi h) (C : CKn μ (97 - s) h) (R : SRq μ h) (FI : FIl h) : con G 6 0 0 m_PM_breaks [av_R (some 0), av_I w] h (fun r h' => ∃ z, r = some (av_I z) ∧ ((-2147483648) ≤ z ∧ z ≤ 2147483647) ∧ kF FC s h h' ∧ SRq μ h' ∧ FDl μ w h') := by
  have hb0 := hb_xm hx hm
  have V := CV_of hx C R
  have S := SG_of R.2.2.2.1
  refine con_mono (con_conj (h2 := h) (s_PM_breaks hx) (t_PM_breaks hb0 V S)) ?_
  rintro r h' ⟨⟨z, rfl, q2, kc⟩, r2, h2, ⟨rfl, hb2, f, k1, k2⟩, er, SS⟩
  have A : agI h2 h' := agI_of hb2.1 kc.1.1 (sh_sym SS)
  refine ⟨z, rfl, q2, kc, SR_c R kc, fun n => ?_, fun p => ?_⟩
  · obtain rfl := k1 n
    obtain ⟨l, hl, g1, g2⟩ := FI
    exact ⟨l, hl, GLp_s g1 (A _ _ (by decide +kernel)) (fun j hj => A _ _ (ic0 (n := 14) (by decide +kernel) (by omega))), GLq_s g2 (congrFun (kc.2 170 (Or.inr (by decide))).1 _) (fun j _ => congrFun (kc.2 228 (Or.inr (by decide))).1 j)⟩
  · have hl := lnl_l (w := w) (brkv_n p)
    exact GLp_s (k2 p) (A _ _ (by decide +kernel)) (fun j hj => A _ _ (ic0 (n := 14) (by decide +kernel) (by omega)))
theorem f_MD_breaks {G : cx_T} {s : Nat} {h : ah_T} {μ : pm_T} {w : Int} (hx : xi s h) (hm : mi h) (hKS : KS h) (hKO : KO h) (GG : GM μ) (R : SRq μ h) (FD : FDl μ w h) : con G 5 0 0 m_MD_breaks [av_R (some 170), av_I w] h (fun r h' => ∃ z, r = some (av_I z) ∧ ((-2147483648) ≤ z ∧ z ≤ 2147483647) ∧ kM (pm [65, 66, 89] [226, 227, 228]) h h' ∧ FIl h') := by
  have hb0 := hb_xm hx hm
  have S := SG_of R.2.2.2.1
  refine con_mono (con_conj (h2 := h) (s_MD_breaks hm hKS hKO) (t_MD_breaks hb0 (MV_of GG R) S)) ?_
  rintro r h' ⟨⟨z, rfl, q2, kn⟩, r2, h2, ⟨rfl, hb2, f, k1, k2⟩, er, SS⟩
  have A : agI h2 h' := agI_of hb2.1 kn.1.1 (sh_sym SS)
  refine ⟨z, rfl, q2, kn, ?_⟩
  have c0 : h'.2.1 150 1 = h.2.1 150 1 := congrFun (kn.2.1 150 (by decide)).1 _
  have c1 : ∀ j, h'.2.1 151 j = h.2.1 151 j := fun j => congrFun (kn.2.1 151 (by decide)).1 j
  by_cases n : brkv μ w < 0
  · obtain rfl := k1 n
    obtain ⟨l, hl, g1, g2⟩ := FD.1 n
    exact ⟨l, hl, GLp_s g1 c0 (fun j _ => c1 j), GLq_s g2 (A _ _ (by decide +kernel)) (fun j hj => A _ _ (ic0 (n := 16) (by decide +kernel) (by omega)))⟩
  · have hl := lnl_l (w := w) (brkv_n (μ := μ) (w := w) (by omega))
    exact ⟨_, hl, GLp_s (FD.2 (by omega)) c0 (fun j _ => c1 j), GLq_s (k2 (by omega)) (A _ _ (by decide +kernel)) (fun j hj => A _ _ (ic0 (n := 16) (by decide +kernel) (by omega)))⟩
theorem t_PM_line {G : cx_T} {s : Nat} {h : ah_T} {l : List Int} {i : Int} (hb0 : hb s h) (hl : l.length ≤ 14) (H : GLp l h) : con G 1 0 0 m_PM_line [av_R (some 0), av_I i] h (fun r h' => r = some (av_I (gat l i)) ∧ hb s h' ∧ h' = h) := by
  refine c_PM_line hb0 (fun _ => ?_)
  unfold B_PM_line_0
  refine con_mono (c_Page_barsIn (Q := fun r h' => r = some (av_I (gat l i)) ∧ hb s h' ∧ h' = h) hb0 (fun _ => ?_)) ?_
  · unfold B_Page_barsIn_0 B_Page_barsIn_30 B_Page_barsIn_31
    have no : ¬ (0 ≤ i ∧ i < (l.length : Int)) → some (av_I 0) = some (av_I (gat l i)) ∧ hb s h ∧ h = h := fun q => ⟨by rw [gat_o q], hb0, rfl⟩
    refine ⟨fun q => no (by omega), fun q x1 e1 _ _ => ?_⟩
    obtain rfl := e1.trans H.1
    refine ⟨fun q2 => no (by omega), fun q2 => ⟨fun q3 => no (by omega), fun q3 => ⟨by omega, fun x4 e4 _ _ => ?_⟩⟩⟩
    obtain ⟨v, g1, g2⟩ := gat_i (l := l) (i := i) (by omega)
    exact ⟨by rw [g2, e4, H.2 _ _ g1], hb0, rfl⟩
  · rintro r h2 ⟨rfl, hb2, rfl⟩
    exact ⟨_, rfl, hb2, rfl, hb2, rfl⟩
theorem t_MD_line {G : cx_T} {s : Nat} {h : ah_T} {l : List Int} {i : Int} (hb0 : hb s h) (hl : l.length ≤ 14) (H : GLq l h) : con G 0 0 0 m_MD_line [av_R (some 170), av_I i] h (fun r h' => r = some (av_I (gat l i)) ∧ hb s h' ∧ h' = h) := by
  refine c_MD_line hb0 (fun _ => ?_)
  unfold B_MD_line_0 B_MD_line_21 B_MD_line_22
  have no : ¬ (0 ≤ i ∧ i < (l.length : Int)) → some (av_I 0) = some (av_I (gat l i)) ∧ hb s h ∧ h = h := fun q => ⟨by rw [gat_o q], hb0, rfl⟩
  refine ⟨fun q => no (by omega), fun q x1 e1 _ _ => ?_⟩
  obtain rfl := e1.trans H.1
  refine ⟨fun q2 => no (by omega), fun q2 => ⟨by omega, fun x4 e4 _ _ => ?_⟩⟩
  obtain ⟨v, g1, g2⟩ := gat_i (l := l) (i := i) (by omega)
  exact ⟨by rw [g2, e4, H.2 _ _ g1], hb0, rfl⟩
theorem e_PM_line {G : cx_T} {s : Nat} {h : ah_T} {l : List Int} {i : Int} (hx : xi s h) (hm : mi h) (hl : l.length ≤ 14) (H : GLp l h) : con G 1 0 0 m_PM_line [av_R (some 0), av_I i] h (fun r h' => ∃ z, r = some (av_I z) ∧ h = h' ∧ z = gat l i) :=
  con_mono (t_PM_line (hb_xm hx hm) hl H) (fun _ _ q => ⟨_, q.1, q.2.2.symm, rfl⟩)
theorem e_MD_line {G : cx_T} {s : Nat} {h : ah_T} {l : List Int} {i : Int} (hx : xi s h) (hm : mi h) (hl : l.length ≤ 14) (H : GLq l h) : con G 0 0 0 m_MD_line [av_R (some 170), av_I i] h (fun r h' => ∃ z, r = some (av_I z) ∧ h = h' ∧ z = gat l i) :=
  con_mono (t_MD_line (hb_xm hx hm) hl H) (fun _ _ q => ⟨_, q.1, q.2.2.symm, rfl⟩)
