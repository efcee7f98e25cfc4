/-! ===== group of both: the list of GROUPS that the latest beam found ===== -/
def FIg (h : ah_T) : Prop := ∃ l : List Int, l.length ≤ 14 ∧ GLc l h ∧ GLm l h
theorem GLc_s {l : List Int} {h h' : ah_T} (H : GLc l h) (e1 : h'.2.1 146 1 = h.2.1 146 1) (e2 : ∀ k, k < l.length → h'.2.1 147 k = h.2.1 147 k) : GLc l h' := by
  refine ⟨e1.trans H.1, fun k v hk => ?_⟩
  have kl : k < l.length := by
    by_cases c : k < l.length
    · exact c
    · rw [List.getElem?_eq_none (by omega)] at hk; cases hk
  exact (e2 k kl).trans (H.2 k v hk)
theorem GLm_s {l : List Int} {h h' : ah_T} (H : GLm l h) (e1 : h'.2.1 170 85 = h.2.1 170 85) (e2 : ∀ k, k < l.length → h'.2.1 225 k = h.2.1 225 k) : GLm l h' := by
  refine ⟨e1.trans H.1, fun k v hk => ?_⟩
  have kl : k < l.length := by
    by_cases c : k < l.length
    · exact c
    · rw [List.getElem?_eq_none (by omega)] at hk; cases hk
  exact (e2 k kl).trans (H.2 k v hk)
theorem FIg_c {s : Nat} {F : Nat → Prop} {h h' : ah_T} (H : FIg h) (k : kF F s h h') (h1 : F 146 ∧ F 147) (h2 : F 170 ∧ F 225) : FIg h' := by
  obtain ⟨l, hl, A, B⟩ := H
  exact ⟨l, hl, GLc_s A (congrFun (k.2 _ h1.1).1 _) (fun j _ => congrFun (k.2 _ h1.2).1 j), GLm_s B (congrFun (k.2 _ h2.1).1 _) (fun j _ => congrFun (k.2 _ h2.2).1 j)⟩
theorem FIg_m {P : Nat → Nat → Bool} {h h' : ah_T} (H : FIg h) (k : kM P h h') (h1 : P 170 85 = false) (h2 : ∀ j, P 225 j = false) : FIg h' := by
  obtain ⟨l, hl, A, B⟩ := H
  exact ⟨l, hl, GLc_s A (congrFun (k.2.1 146 (by decide)).1 _) (fun j _ => congrFun (k.2.1 147 (by decide)).1 j), GLm_s B (k.2.2.1 _ _ h1) (fun j _ => k.2.2.1 _ _ (h2 j))⟩
theorem FIg_s {P : Nat → Nat → Bool} {h h1 h2 : ah_T} (H : FIg h) (f : ∀ a, 170 ≤ a → same3 h h1 a) (Z : FZ h h1 h2) (k : kM P h1 h2) (hP : ∀ j, P 225 j = false) : FIg h2 := by
  obtain ⟨l, hl, A, B⟩ := H
  rcases Z with ⟨zc, zm, -⟩ | ⟨zc, zm⟩
  · refine ⟨l, hl, GLc_s A (zc.1 _ _ (by decide) (by decide) (by decide +kernel)) (fun j hj => zc.1 _ _ (by decide) (by decide) (ic0 (n := 14) (by decide +kernel) (by omega))), GLm_s B ((zm 85 (by decide)).trans (congrFun (f 170 (by decide)).1 85)) (fun j _ => (k.2.2.1 _ _ (hP j)).trans (congrFun (f 225 (by decide)).1 j))⟩
  · exact ⟨[], by decide, ⟨zc.2.1, fun k v hk => by cases hk⟩, zm 85 (by decide), fun k v hk => by cases hk⟩
theorem FIg_0 : FIg hp_0 := ⟨[], by decide, ⟨by decide +kernel, fun k v hk => by cases hk⟩, by decide +kernel, fun k v hk => by cases hk⟩
/-- the GROUPS found -/
noncomputable def bml (μ : pm_T) (v b : Int) : List Int := (cutC μ v.toNat (brE μ v.toNat b.toNat) (brE μ v.toNat (b.toNat + 1)) (csC μ v.toNat (brE μ v.toNat b.toNat) (brE μ v.toNat (b.toNat + 1) - brE μ v.toNat b.toNat))).2
theorem bmv_p {μ : pm_T} (GG : GM μ) {v b : Int} (h : 0 ≤ bmv μ v b) : ((0 ≤ v ∧ v < μ 0 7) ∧ (0 ≤ b ∧ b < μ (10 + v.toNat) 1)) ∧ ¬ 14 < cntS μ v.toNat (brE μ v.toNat b.toNat) (brE μ v.toNat (b.toNat + 1) - brE μ v.toNat b.toNat) ∧ (bml μ v b).length ≤ 14 := by
  unfold bmv at h
  by_cases c : (0 ≤ v ∧ v < μ 0 7) ∧ (0 ≤ b ∧ b < μ (10 + v.toNat) 1)
  · rw [dif_t c] at h
    unfold bmC at h
    by_cases big : 14 < cntS μ v.toNat (brE μ v.toNat b.toNat) (brE μ v.toNat (b.toNat + 1) - brE μ v.toNat b.toNat)
    · rw [dif_t big] at h; exact absurd h (by decide)
    · refine ⟨c, big, ?_⟩
      have hn : ((v.toNat : Nat) : Int) < μ 0 7 := by omega
      have em := brE_m GG (b := b.toNat) hn
      have e1 := brE_b GG (b := b.toNat + 1) hn
      obtain ⟨⟨i1, i2⟩, i3, i4, i5, i6⟩ := csC_b (f := brE μ v.toNat b.toNat) GG hn (brE μ v.toNat (b.toNat + 1) - brE μ v.toNat b.toNat) (by omega)
      obtain ⟨x1, x3⟩ := cut_b (f := brE μ v.toNat b.toNat) GG hn (z := brE μ v.toNat (b.toNat + 1)) (q := csC μ v.toNat (brE μ v.toNat b.toNat) (brE μ v.toNat (b.toNat + 1) - brE μ v.toNat b.toNat)) e1 (by omega) (fun e q1 q2 => i3 e q1 (by omega))
      unfold bml
      omega
  · rw [dif_f c] at h; exact absurd h (by decide)
theorem bmv_n {μ : pm_T} (GG : GM μ) {n b : Nat} (hn : (n : Int) < μ 0 7) (hb : (b : Int) < μ (10 + n) 1) (big : ¬ 14 < cntS μ n (brE μ n b) (brE μ n (b + 1) - brE μ n b)) : 0 ≤ bmC μ n b := by
  have em := brE_m GG (b := b) hn
  have e1 := brE_b GG (b := b + 1) hn
  obtain ⟨⟨i1, i2⟩, i3, i4, i5, i6⟩ := csC_b (f := brE μ n b) GG hn (brE μ n (b + 1) - brE μ n b) (by omega)
  obtain ⟨⟨x1, x2⟩, x3⟩ := cut_b (f := brE μ n b) GG hn (z := brE μ n (b + 1)) (q := csC μ n (brE μ n b) (brE μ n (b + 1) - brE μ n b)) e1 (by omega) (fun e q1 q2 => i3 e q1 (by omega))
  unfold bmC
  rw [dif_f big]
  omega
theorem u_PM_beam {G : cx_T} {μ : pm_T} {v w : Int} {s : Nat} {h : ah_T} (hb0 : hb s h) (H : CV μ (97 - s) h) : con G 5 0 0 m_PM_beam [av_R (some 0), av_I v, av_I w] h (fun r h' => r = some (av_I (bmv μ v w)) ∧ hb s h' ∧ (bmv μ v w < 0 → h' = h) ∧ (0 ≤ bmv μ v w → GLc (bml μ v w) h')) := by
  have C := H.2.1
  have b4 := H.2.2.1.1.1
  have no : ¬ ((0 ≤ v ∧ v < μ 0 7) ∧ (0 ≤ w ∧ w < μ (10 + v.toNat) 1)) → bmv μ v w = -1 := fun q => by unfold bmv; rw [dif_f q]
  refine c_PM_beam hb0 (fun _ _ => ?_)
  unfold B_PM_beam_0 B_PM_beam_25
  refine con_mono (t_Score_voiceAt hb0 H.1 C) ?_
  rintro r h2 ⟨hb2, rfl, ⟨q1, q2, rfl⟩ | ⟨q1, rfl⟩⟩
  · obtain ⟨n, rfl⟩ : ∃ n : Nat, v = n := ⟨v.toNat, by omega⟩
    rw [tn_c] at no ⊢
    obtain ⟨hv, -, h16, -⟩ := CV_v H q2
    refine ⟨_, rfl, hb2, Or.inr ⟨_, rfl, hv, fun c => ?_, fun c x5 e5 _ _ => ?_⟩⟩
    · rw [no (by omega)]; exact ⟨rfl, hb2, fun _ => rfl, fun x => absurd x (by decide)⟩
    have ex := e5.trans h16
    subst ex
    refine ⟨fun c2 x8 e8 _ _ => ?_, fun c2 => ?_⟩
    · obtain ⟨b, rfl⟩ : ∃ b : Nat, w = b := ⟨w.toNat, by omega⟩
      have ex := e8.trans C.1.2.2.1
      subst ex
      have ev : bmv μ (n : Int) (b : Int) = bmC μ n b := by unfold bmv; rw [tn_c, tn_c, dif_t ⟨⟨by omega, q2⟩, by omega, c2⟩]
      have el : bml μ (n : Int) (b : Int) = (cutC μ n (brE μ n b) (brE μ n (b + 1)) (csC μ n (brE μ n b) (brE μ n (b + 1) - brE μ n b))).2 := by unfold bml; rw [tn_c, tn_c]
      refine con_mono (t_Beams_find hb2 H q2 c2) ?_
      rintro r h9 ⟨rfl, hb9, f9, k1, k2⟩
      rw [ev, el]
      refine ⟨_, rfl, hb9, rfl, hb9, fun x => k1 ?_, fun x => k2 (fun y => ?_)⟩
      · by_cases big : 14 < cntS μ n (brE μ n b) (brE μ n (b + 1) - brE μ n b)
        · exact big
        · have := bmv_n H.2.2.1 q2 c2 big; omega
      · unfold bmC at x
        rw [dif_t y] at x
        exact absurd x (by decide)
    · rw [no (by omega)]; exact ⟨rfl, hb2, fun _ => rfl, fun x => absurd x (by decide)⟩
  · rw [no (fun x => q1 x.1)]
    exact ⟨_, rfl, hb2, Or.inl ⟨rfl, rfl, hb2, fun _ => rfl, fun x => absurd x (by decide)⟩⟩
theorem u_MD_beam {G : cx_T} {s : Nat} {h : ah_T} {μ : pm_T} {v w : Int} (hb0 : hb s h) (H : MV μ h) : con G 5 0 0 m_MD_beam [av_R (some 170), av_I v, av_I w] h (fun r h' => r = some (av_I (bmv μ v w)) ∧ hb s h' ∧ (bmv μ v w < 0 → h' = h) ∧ (0 ≤ bmv μ v w → GLm (bml μ v w) h')) := by
  by_cases c : (0 ≤ v ∧ v < μ 0 7) ∧ (0 ≤ w ∧ w < μ (10 + v.toNat) 1)
  · obtain ⟨n, rfl⟩ : ∃ n : Nat, v = n := ⟨v.toNat, by omega⟩
    obtain ⟨b, rfl⟩ : ∃ b : Nat, w = b := ⟨w.toNat, by omega⟩
    rw [tn_c] at c
    have ev : bmv μ (n : Int) (b : Int) = bmC μ n b := by unfold bmv; rw [tn_c, tn_c, dif_t c]
    have el : bml μ (n : Int) (b : Int) = (cutC μ n (brE μ n b) (brE μ n (b + 1)) (csC μ n (brE μ n b) (brE μ n (b + 1) - brE μ n b))).2 := by unfold bml; rw [tn_c, tn_c]
    refine con_mono (t_MD_bar hb0 H c.1.2 c.2.2) ?_
    rintro r h' ⟨rfl, hb', f, k1, k2⟩
    rw [ev, el]
    refine ⟨rfl, hb', fun x => k1 ?_, fun x => k2 (fun y => ?_)⟩
    · by_cases big : 14 < cntS μ n (brE μ n b) (brE μ n (b + 1) - brE μ n b)
      · exact big
      · have := bmv_n H.2.1 c.1.2 c.2.2 big; omega
    · unfold bmC at x
      rw [dif_t y] at x
      exact absurd x (by decide)
  · have e : bmv μ v w = -1 := by unfold bmv; rw [dif_f c]
    rw [e]
    have no : ∀ {h2 : ah_T}, hb s h2 → h2 = h → some (av_I (-1)) = some (av_I (-1)) ∧ hb s h2 ∧ ((-1 : Int) < 0 → h2 = h) ∧ (0 ≤ (-1 : Int) → GLm (bml μ v w) h2) := fun q1 q2 => ⟨rfl, q1, fun _ => q2, fun x => absurd x (by decide)⟩
    refine c_MD_beam (X47 := fun _ _ _ _ _ => False) (fun _ _ _ _ _ _ x => x.elim) hb0 (fun _ _ => ?_)
    unfold B_MD_beam_0 B_MD_beam_22
    refine con_mono (t_MD_isVoice hb0 H.1) ?_
    rintro r h2 ⟨hb2, rfl, rfl⟩
    refine ⟨_, rfl, hb2, fun q => no hb2 rfl, fun q => ⟨fun q2 => no hb2 rfl, fun q2 => ?_⟩⟩
    have qv : 0 ≤ v ∧ v < μ 0 7 := by
      split at q
      · assumption
      · exact absurd rfl q
    have b4 := H.2.1.1.1
    refine ⟨by omega, fun x5 e5 _ _ => ?_⟩
    have ex := e5.trans (MV_n H (n := v.toNat) (by omega)).2.1
    subst ex
    exact ⟨fun q3 => absurd ⟨qv, by omega, q3⟩ c, fun q3 => no hb2 rfl⟩
def FDg (μ : pm_T) (v w : Int) (h : ah_T) : Prop := (bmv μ v w < 0 → FIg h) ∧ (0 ≤ bmv μ v w → GLc (bml μ v w) h)
theorem f_PM_beam {G : cx_T} {s : Nat} {h : ah_T} {μ : pm_T} {v w : Int} (hx : xi s h) (hm : mi h) (C : CKn μ (97 - s) h) (R : SRq μ h) (FI : FIg h) : con G 5 0 0 m_PM_beam [av_R (some 0), av_I v, av_I w] h (fun r h' => ∃ z, r = some (av_I z) ∧ ((-2147483648) ≤ z ∧ z ≤ 2147483647) ∧ kF FC s h h' ∧ SRq μ h' ∧ FDg μ v w h') := by
  have hb0 := hb_xm hx hm
  have V := CV_of hx C R
  refine con_mono (con_conj (h2 := h) (s_PM_beam hx) (u_PM_beam hb0 V)) ?_
  rintro r h' ⟨⟨z, rfl, q2, kc⟩, r2, h2, ⟨rfl, hb2, k1, k2⟩, er, SS⟩
  have A : agI h2 h' := agI_of hb2.1 kc.1.1 (sh_sym SS)
  refine ⟨z, rfl, q2, kc, SR_c R kc, fun n => ?_, fun p => ?_⟩
  · obtain rfl := k1 n
    obtain ⟨l, hl, g1, g2⟩ := FI
    exact ⟨l, hl, GLc_s g1 (A _ _ (by decide +kernel)) (fun j hj => A _ _ (ic0 (n := 14) (by decide +kernel) (by omega))), GLm_s g2 (congrFun (kc.2 170 (Or.inr (by decide))).1 _) (fun j _ => congrFun (kc.2 225 (Or.inr (by decide))).1 j)⟩
  · have hl := (bmv_p V.2.2.1 p).2.2
    exact GLc_s (k2 p) (A _ _ (by decide +kernel)) (fun j hj => A _ _ (ic0 (n := 14) (by decide +kernel) (by omega)))
theorem f_MD_beam {G : cx_T} {s : Nat} {h : ah_T} {μ : pm_T} {v w : Int} (hx : xi s h) (hm : mi h) (hKS : KS h) (GG : GM μ) (R : SRq μ h) (FD : FDg μ v w h) : con G 5 0 0 m_MD_beam [av_R (some 170), av_I v, av_I w] h (fun r h' => ∃ z, r = some (av_I z) ∧ ((-2147483648) ≤ z ∧ z ≤ 2147483647) ∧ kM (pm [65, 66, 85] [225, 226, 227]) h h' ∧ FIg h') := by
  have hb0 := hb_xm hx hm
  refine con_mono (con_conj (h2 := h) (s_MD_beam hm hKS) (u_MD_beam hb0 (MV_of GG R))) ?_
  rintro r h' ⟨⟨z, rfl, q2, kn⟩, r2, h2, ⟨rfl, hb2, k1, k2⟩, er, SS⟩
  have A : agI h2 h' := agI_of hb2.1 kn.1.1 (sh_sym SS)
  refine ⟨z, rfl, q2, kn, ?_⟩
  have c0 : h'.2.1 146 1 = h.2.1 146 1 := congrFun (kn.2.1 146 (by decide)).1 _
  have c1 : ∀ j, h'.2.1 147 j = h.2.1 147 j := fun j => congrFun (kn.2.1 147 (by decide)).1 j
  by_cases n : bmv μ v w < 0
  · obtain rfl := k1 n
    obtain ⟨l, hl, g1, g2⟩ := FD.1 n
    exact ⟨l, hl, GLc_s g1 c0 (fun j _ => c1 j), GLm_s g2 (A _ _ (by decide +kernel)) (fun j hj => A _ _ (ic0 (n := 16) (by decide +kernel) (by omega)))⟩
  · have hl := (bmv_p GG (v := v) (b := w) (by omega)).2.2
    exact ⟨_, hl, GLc_s (FD.2 (by omega)) c0 (fun j _ => c1 j), GLm_s (k2 (by omega)) (A _ _ (by decide +kernel)) (fun j hj => A _ _ (ic0 (n := 16) (by decide +kernel) (by omega)))⟩
theorem e_PM_group {G : cx_T} {s : Nat} {h : ah_T} {l : List Int} {i : Int} (hx : xi s h) (hm : mi h) (hl : l.length ≤ 14) (H : GLc l h) : con G 1 0 0 m_PM_group [av_R (some 0), av_I i] h (fun r h' => ∃ z, r = some (av_I z) ∧ h = h' ∧ z = gat l i) := by
  have hb0 := hb_xm hx hm
  refine c_PM_group hb0 (fun _ => ?_)
  unfold B_PM_group_0
  refine con_mono (c_Beams_eventsIn (Q := fun r h' => r = some (av_I (gat l i)) ∧ hb s h' ∧ h' = h) hb0 (fun _ => ?_)) ?_
  · unfold B_Beams_eventsIn_0 B_Beams_eventsIn_30 B_Beams_eventsIn_31
    have no : ¬ (0 ≤ i ∧ i < (l.length : Int)) → some (av_I 0) = some (av_I (gat l i)) ∧ hb s h ∧ h = h := fun q => ⟨by rw [gat_o q], hb0, rfl⟩
    refine ⟨fun q => no (by omega), fun q x1 e1 _ _ => ?_⟩
    obtain rfl := e1.trans H.1
    refine ⟨fun q2 => no (by omega), fun q2 => ⟨fun q3 => no (by omega), fun q3 => ⟨by omega, fun x4 e4 _ _ => ?_⟩⟩⟩
    obtain ⟨v, g1, g2⟩ := gat_i (l := l) (i := i) (by omega)
    exact ⟨by rw [g2, e4, H.2 _ _ g1], hb0, rfl⟩
  · rintro r h2 ⟨rfl, hb2, rfl⟩
    exact ⟨_, rfl, hb2, _, rfl, rfl, rfl⟩
theorem e_MD_group {G : cx_T} {s : Nat} {h : ah_T} {l : List Int} {i : Int} (hx : xi s h) (hm : mi h) (hl : l.length ≤ 14) (H : GLm l h) : con G 0 0 0 m_MD_group [av_R (some 170), av_I i] h (fun r h' => ∃ z, r = some (av_I z) ∧ h = h' ∧ z = gat l i) := by
  have hb0 := hb_xm hx hm
  refine c_MD_group hb0 (fun _ => ?_)
  unfold B_MD_group_0 B_MD_group_21 B_MD_group_22
  have no : ¬ (0 ≤ i ∧ i < (l.length : Int)) → ∃ z, some (av_I 0) = some (av_I z) ∧ h = h ∧ z = gat l i := fun q => ⟨0, rfl, rfl, by rw [gat_o q]⟩
  refine ⟨fun q => no (by omega), fun q x1 e1 _ _ => ?_⟩
  obtain rfl := e1.trans H.1
  refine ⟨fun q2 => no (by omega), fun q2 => ⟨by omega, fun x4 e4 _ _ => ?_⟩⟩
  obtain ⟨v, g1, g2⟩ := gat_i (l := l) (i := i) (by omega)
  exact ⟨_, rfl, rfl, by rw [g2, e4, H.2 _ _ g1]⟩
