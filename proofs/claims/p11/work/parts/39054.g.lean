/-! ===== the reference: an event ===== -/
theorem TkA_a {T : Nat → Int} {n : Nat} {t : tk_T} {m : Nat} {a b : Nat → Nat} (H : TkA T n t m a b) : ∀ i, i < m → i ≤ a i ∧ a i ≤ n
  | 0, h => ⟨Nat.zero_le _, (H.2.1 0 h).2.1⟩
  | i + 1, h => by
    obtain ⟨i1, i2⟩ := TkA_a H i (by omega)
    obtain ⟨g, s⟩ := H.2.2.1 i h
    obtain ⟨h1, h2, h3, h4⟩ := H.2.1 i (by omega)
    refine ⟨?_, (H.2.1 (i + 1) h).2.1⟩
    have hs := s.1.1
    rcases Nat.lt_or_ge (a i) n with w | w
    · have := (Tok_lt (h4 w).1 w g.2).1; omega
    · exact absurd (h3 (by omega)).1 g.1
theorem XA_m {X : tx_T} (hA : XA X) : X.2.2.2.1 ≤ X.2.1 + 1 := by
  have h0 := hA.2.2.2.2
  have := TkA_a hA (X.2.2.2.1 - 1) (by omega)
  omega
theorem RMs_i {X : tx_T} {i : Nat} {μ : pm_T} {h : ah_T} (hA : XA X) (H : RMs X i μ h) : i ≤ 2000 := by
  have := XA_m hA
  have h1 := H.1.2.1
  have h2 := H.1.1.2.1
  omega
theorem RPm_addE {π : pm_T} {h : ah_T} {n d w : Int} (R : RSm π h) (g : h.2.1 202 (sz π) = n ∧ h.2.1 209 (sz π) = d ∧ h.2.1 208 (sz π) = w) : RPm (addE π n d w) h := by
  obtain ⟨R1, ⟨⟨a1, a2⟩, hd, hj⟩, P, S, R3, R4⟩ := R
  have p0 := P.1.1
  have hz : (sz π : Int) = π 0 0 := by unfold sz; omega
  refine ⟨by rw [addE_0.1]; exact R1, ⟨by rw [addE_o (by omega) (by omega)]; exact a1, by rw [addE_o (by omega) (by omega)]; exact a2⟩, fun e he => ?_, fun j hj' => ?_⟩
  · rw [addE_o (by omega) (by omega)] at he
    have pd := P.2.1 e he
    rw [addE_o (a := 15) (by omega) (by omega), addE_o (a := 1) (by omega) (Or.inl (by have := pd.1; omega))]; exact hd e he
  · rw [addE_0.1] at hj'
    by_cases c : j = sz π
    · subst c
      obtain ⟨v1, v2, v3, v4, -, -⟩ := addE_v (π := π) (n := n) (d := d) (w := w)
      refine ⟨by rw [v1]; exact R3, fun _ => ⟨by rw [v2, v3, v4]; exact g, ESm_c R4 S.1.1.2 (fun a q => addE_o (by omega) (by omega)) ⟨rfl, rfl⟩ (fun _ _ _ => ⟨rfl, rfl⟩)⟩, fun q => by rw [v1] at q; cases q⟩
    · exact RMj_c (hj j (by omega)) (P.2.2 j (by omega)) (fun a q => addE_o (by omega) (Or.inl c)) (fun _ _ => rfl) (fun _ _ _ => ⟨rfl, rfl⟩)
def PVm (X : tx_T) (μ : pm_T) (R : F_T ⊕ (Nat × pm_T)) (z : Int) (h' : ah_T) : Prop := match R with
  | .inl q => z = 0 ∧ h'.2.1 170 11 = q.1 ∧ h'.2.1 170 12 = q.2
  | .inr q => z = 1 ∧ RMs X q.1 μ h' ∧ RPm q.2 h' ∧ PW q.2
abbrev QSm (s : Nat) (X : tx_T) (μ : pm_T) (R : F_T ⊕ (Nat × pm_T)) (h : ah_T) : Option av_T → ah_T → Prop := fun r h' => ∃ z, r = some (av_I z) ∧ hb s h' ∧ fr WSm h h' ∧ (z = 0 ∨ z = 1) ∧ PVm X μ R z h'
theorem RSm_t {π : pm_T} {h h' : ah_T} {W : Nat → Nat → Prop} (R : RSm π h) (f : fr W h h') (hW : ∀ a k, W a k → (a = 170 ∧ k ≠ 43 ∧ k ≠ 63 ∧ k ≠ 64) ∨ ((a = 202 ∨ a = 208 ∨ a = 209) ∧ k = sz π)) : RSm π h' := by
  obtain ⟨R1, R2, P, S, R3, R4⟩ := R
  have g : ∀ (a k : Nat), ¬ ((a = 170 ∧ k ≠ 43 ∧ k ≠ 63 ∧ k ≠ 64) ∨ ((a = 202 ∨ a = 208 ∨ a = 209) ∧ k = sz π)) → h'.2.1 a k = h.2.1 a k := fun a k q => fr_g f (fun w => q (hW a k w))
  refine ⟨by rw [g _ _ (by omega)]; exact R1, RPx_s R2 P f (fun a k w => by have := hW a k w; omega) (fun _ _ _ => rfl) ⟨rfl, rfl⟩ (by rw [g _ _ (by omega)]; exact R2.1.2), P, S, by rw [g _ _ (by omega)]; exact R3, ESm_c R4 S.1.1.2 (fun _ _ => rfl) ⟨g _ _ (by omega), g _ _ (by omega)⟩ (fun k _ _ => ⟨g _ _ (by omega), g _ _ (by omega)⟩)⟩
/-- what is left of an event behind its sound -/
def ev_n (t : tk_T) (i : Nat) (a : Nat × pm_T) : F_T ⊕ (Nat × pm_T) := bnd (sp_num t a.1 64 true) fun n => bnd (sp_dots t 4 (a.1 + 1) 0) fun d => sp_tie t i a.2 n d
theorem ev_e {t : tk_T} {i : Nat} {π : pm_T} : sp_event t i π = bnd (sp_sound t i π) (ev_n t i) := rfl
theorem t_MD_soundPart {G : cx_T} {s : Nat} {h : ah_T} {X : tx_T} {i : Nat} {μ π : pm_T} (hb0 : hb s h) (hA : XA X) (H : RMs X i μ h) (R : RPm π h) (P : PW π) (hp : π 0 0 ≤ i) (hk : tK X.2.2.1 i = 258 ∨ tK X.2.2.1 i = 266 ∨ tK X.2.2.1 i = 60) :
    con G 4 0 0 m_MD_soundPart [av_R (some 170)] h (QSm s X μ (sp_event X.2.2.1 i π) h) := by
  have hT : TG X.2.2.1 X.2.2.2.1 := XA_g hA
  have hi2 := RMs_i hA H
  obtain ⟨p0, p1, p2, p3, p4⟩ := P.1
  obtain ⟨q1, q2, q3⟩ := PW_snd0 P
  have e0 : ∀ a k, a ≠ 5 ∧ a ≠ 17 ∧ a ≠ 19 ∨ k ≠ sz π → snd0 π a k = π a k := fun a k q => by
    unfold snd0; rw [up2_o (by omega), up2_o (by omega), up2_o (by omega)]
  have v5 : snd0 π 5 (sz π) = 0 := by unfold snd0; rw [up2_o (by omega), up2_o (by omega), up2_at]
  have v17 : snd0 π 17 (sz π) = 0 := by unfold snd0; rw [up2_o (by omega), up2_at]
  have hz : (sz π : Int) = π 0 0 := by unfold sz; omega
  generalize et : X.2.2.1 = t at *
  have a2 : ∀ {a b : Int} {h1 : ah_T} {R : F_T ⊕ (Nat × pm_T)}, hb s h1 → h1.2.1 170 11 = 0 → fr WSm h h1 → R = .inl (a, b) → con G 0 0 0 m_MD_wrong [av_R (some 170), av_I a, av_I b] h1 (fun r h2 => ∃ z : Int, r = some (av_I z) ∧ hb s h2 ∧ (z = 0 ∨ z = 1) ∧ QSm s X μ R h (some (av_I z)) h2) := by
    intro a b h1 R hb1 h0 f1 e
    refine con_mono (t_MD_wrongk hb1 h0) ?_
    rintro r h' ⟨z, rfl, hb2, f2, rfl, w1, w2⟩
    exact ⟨0, rfl, hb2, Or.inl rfl, 0, rfl, hb2, fr_t f1 f2 WK_S, Or.inl rfl, by rw [e]; exact ⟨rfl, w1, w2⟩⟩
  have a3 : ∀ {j : Nat} {h1 : ah_T} {R : F_T ⊕ (Nat × pm_T)}, hb s h1 → RMs X j μ h1 → fr WSm h h1 → R = .inl (cn t j) → con G 1 0 0 m_MD_cant [av_R (some 170)] h1 (fun r h2 => ∃ z : Int, r = some (av_I z) ∧ hb s h2 ∧ (z = 0 ∨ z = 1) ∧ QSm s X μ R h (some (av_I z)) h2) := by
    intro j h1 R hb1 H1 f1 e
    refine con_mono (t_MD_cantk hb1 H1) ?_
    rintro r h' ⟨z, rfl, hb2, f2, rfl, w1, w2⟩
    rw [et] at w1 w2
    exact ⟨0, rfl, hb2, Or.inl rfl, 0, rfl, hb2, fr_t f1 f2 WK_S, Or.inl rfl, by rw [e]; exact ⟨rfl, w1, w2⟩⟩
  -- the dots
  have X2 : ∀ (v1 v2 : Int) (h1 : ah_T), hb s h1 → (fr WSm h h1 ∧ v1 = (sz π : Int) ∧ (v2 = 0 ↔ ¬ tK t i = 266) ∧ ∃ (j f : Nat) (ρ : pm_T) (n d : Int), RMs X j μ h1 ∧ RSm ρ h1 ∧ sz ρ = sz π ∧ ρ 0 3 < ρ 0 2 ∧ h1.2.1 202 (sz π) = n ∧ h1.2.1 209 (sz π) = d ∧ (1 ≤ n ∧ n ≤ 64) ∧ (0 ≤ d ∧ d ≤ 3) ∧ (f : Int) = 3 - d ∧ sp_event t i π = bnd (sp_dots t (f + 1) j d) (fun d => sp_tie t i ρ n d)) → aw G (rm_R 4 0 0) m_MD_soundPart 0 0 267 [some (av_R (some 170)), some (av_I v1), some (av_I v2)] [] h1 (QSm s X μ (sp_event t i π) h) := by
    refine lp_MD_soundPart_267 _ (fun v1 _ h1 => (4 - h1.2.1 209 v1.toNat).toNat) ?_
    rintro v1 v2 h1 hb1 ⟨f1, rfl, hv2, j, f, ρ, n, d, H1, R1, ez, h32, g2, g9, hn, hd, hf, es⟩
    unfold B_MD_soundPart_267 B_MD_soundPart_358
    refine con_mono (t_MD_isSign hb1 hA H1 (k := 46) (by unfold isSg; omega)) ?_
    rintro r h2 ⟨z3, rfl, hb2, rfl, -, z02⟩
    rw [et] at z02
    refine ⟨z3, rfl, hb2, fun c => ?_, fun c => ?_⟩
    · have n46 := z02.mp c
      have ed : sp_dots t (f + 1) j d = .inr (j, d) := by rw [sp_dots, if_neg n46]
      rw [ed] at es
      refine con_mono (t_MD_isSign hb2 hA H1 (k := 126) (by unfold isSg; omega)) ?_
      rintro r h5 ⟨z7, rfl, hb5, rfl, z01, z04⟩
      rw [et] at z04
      refine ⟨z7, rfl, hb5, ⟨by omega, by omega⟩, z01, ?_⟩
      rw [tn_c]
      intro h9 e9 x12 e12 _
      have ex12 : x12 = z7 := by rw [e12, mv_i e9]
      have f9 : fr (fun a k => a = 208 ∧ k = sz π) h5 h9 := fr_i fr_0 e9 ⟨rfl, rfl⟩
      have R9 := RSm_t R1 f9 (fun a k w => by rw [ez]; omega)
      have H9 := RMs_V H1 f9 (fun a k w => by omega)
      have hb9 := hb_i hb5 e9
      have ff := fr_t (W := WSm) f1 f9 (fun a k w => by omega)
      have hd3 : ∀ w : Int, (w = 0 ∨ w = 1) → w = z7 → RPm (addE ρ n d w) h9 ∧ PW (addE ρ n d w) := by
        intro w w01 ew
        exact ⟨RPm_addE R9 (by rw [ez, mm_i e9 (by omega), mm_i e9 (by omega), mv_i e9, ew]; exact ⟨g2, g9, rfl⟩), PW_addE R9.2.2.1 R9.2.2.2.1 h32 hn hd w01⟩
      refine ⟨fun c0 => ?_, fun c0 => ⟨fun c1 => ?_, fun c1 x16 e16 _ _ => ?_⟩⟩
      · have n126 : ¬ tK t j = 126 := z04.mp (by omega)
        refine ⟨1, rfl, hb9, ff, Or.inr rfl, ?_⟩
        rw [es]
        simp only [bnd, sp_tie]
        rw [if_neg n126]
        exact ⟨rfl, H9, hd3 0 (Or.inl rfl) (by omega)⟩
      · have y126 : tK t j = 126 := Classical.not_not.mp (fun w => c0 (by rw [ex12]; exact z04.mpr w))
        have nr : ¬ tK t i = 266 := hv2.mp c1
        refine con_mono (t_MD_step hb9 hA H9 (by rw [et, y126]; exact ⟨by decide, by decide⟩)) ?_
        rintro r h13 ⟨z, rfl, hb13, f13, H13, rfl⟩
        have hq := hd3 1 (Or.inr rfl) (by rcases z01 with w | w <;> omega)
        refine ⟨1, rfl, hb13, Or.inr rfl, 1, rfl, hb13, fr_t ff f13 WM_S, Or.inr rfl, ?_⟩
        rw [es]
        simp only [bnd, sp_tie]
        rw [if_pos y126, if_neg nr]
        exact ⟨rfl, H13, ⟨by rw [fr_g f13 (by omega)]; exact hq.1.1, RPx_t hq.1.2 hq.2 f13 (fun a k w => by omega)⟩, hq.2⟩
      · have y126 : tK t j = 126 := Classical.not_not.mp (fun w => c0 (by rw [ex12]; exact z04.mpr w))
        have yr : tK t i = 266 := Classical.not_not.mp (fun w => c1 (hv2.mpr w))
        have := a2 (a := 7) (b := x16) (R := sp_event t i π) hb9 H9.2.2 ff (by rw [es]; simp only [bnd, sp_tie]; rw [if_pos y126, if_pos yr, e16, H9.1.2.2.1, et])
        refine con_mono this ?_
        rintro r h17 ⟨z, rfl, hb17, z01', q⟩
        exact ⟨z, rfl, hb17, z01', q⟩
    · have y46 : tK t j = 46 := Classical.not_not.mp (fun w => c (z02.mpr w))
      rw [tn_c]
      refine ⟨⟨by omega, by omega⟩, fun x21 e21 _ _ => ?_⟩
      have ex21 : x21 = d := e21.trans g9
      subst ex21
      rw [sp_dots, if_pos y46] at es
      refine ⟨fun c3 x31 e31 _ _ => ?_, fun c3 => ⟨⟨by omega, by omega⟩, fun h26 e26 => ?_⟩⟩
      · rw [if_pos c3] at es
        exact a2 (a := 3) (b := x31) hb2 H1.2.2 f1 (by rw [es]; simp only [bnd]; rw [e31, H1.1.2.2.1, et])
      · rw [if_neg c3] at es
        have f26 : fr (fun a k => a = 209 ∧ k = sz π) h2 h26 := fr_i fr_0 e26 ⟨rfl, rfl⟩
        have R26 := RSm_t R1 f26 (fun a k w => by rw [ez]; omega)
        have H26 := RMs_V H1 f26 (fun a k w => by omega)
        refine con_mono (t_MD_step (hb_i hb2 e26) hA H26 (by rw [et, y46]; exact ⟨by decide, by decide⟩)) ?_
        rintro r h28 ⟨z, rfl, hb28, f28, H28, rfl⟩
        have m9 : h28.2.1 209 (sz π) = x21 + 1 := by rw [fr_g f28 (by omega), mv_i e26]
        obtain ⟨f', rfl⟩ : ∃ f', f = f' + 1 := ⟨f - 1, by omega⟩
        refine ⟨1, rfl, hb28, ⟨fr_t (fr_t (W := WSm) f1 f26 (fun a k w => by omega)) f28 WM_S, rfl, hv2, j + 1, f', ρ, n, x21 + 1, H28, RSm_t R26 f28 (fun a k w => by omega), ez, h32, by rw [fr_g f28 (by omega), mm_i e26 (by omega)]; exact g2, m9, hn, by omega, by omega, es⟩, ?_⟩
        rw [tn_c, m9, g9]; omega
  -- the number
  have k209 : ∀ (v2 : Int) (h1 : ah_T) (j : Nat) (ρ : pm_T), hb s h1 → fr WSm h h1 → (v2 = 0 ↔ ¬ tK t i = 266) → RMs X j μ h1 → RSm ρ h1 → sz ρ = sz π → ρ 0 3 < ρ 0 2 → sp_event t i π = ev_n t i (j, ρ) → B_MD_soundPart_209 G s (sz π : Int) v2 h1 (QSm s X μ (sp_event t i π) h) (fun v1 v2 h1 => (fr WSm h h1 ∧ v1 = (sz π : Int) ∧ (v2 = 0 ↔ ¬ tK t i = 266) ∧ ∃ (j f : Nat) (ρ : pm_T) (n d : Int), RMs X j μ h1 ∧ RSm ρ h1 ∧ sz ρ = sz π ∧ ρ 0 3 < ρ 0 2 ∧ h1.2.1 202 (sz π) = n ∧ h1.2.1 209 (sz π) = d ∧ (1 ≤ n ∧ n ≤ 64) ∧ (0 ≤ d ∧ d ≤ 3) ∧ (f : Int) = 3 - d ∧ sp_event t i π = bnd (sp_dots t (f + 1) j d) (fun d => sp_tie t i ρ n d))) := by
    intro v2 h1 j ρ hb1 f1 hv2 H1 R1 ez h32 es
    unfold ev_n at es
    unfold B_MD_soundPart_209
    intro x1 e1 _ _
    have k3 : x1 = 3 ↔ tK t j = 259 := by rw [e1, H1.1.2.2.2.1, et]; exact ek_3
    refine ⟨fun c x2 e2 _ _ => ?_, fun c => ?_⟩
    · have kn := k3.mp c
      have ev : x2 = tV' t j := by rw [e2]; have := H1.1.2.2.2.2.2.2.1; rw [et] at this; exact this kn
      refine con_mono (t_MD_isPower hb1 (by decide)) ?_
      rintro r h3 ⟨z5, rfl, hb3, rfl, -, z02⟩
      have esn : sp_num t j 64 true = if (1 ≤ tV' t j ∧ tV' t j ≤ 64) ∧ (true = false ∨ pwb (tV' t j) = true) then .inr (tV' t j) else .inl (5, tP t j) := by unfold sp_num; rw [if_pos kn]
      refine ⟨z5, rfl, hb3, fun c5 x17 e17 _ _ => ?_, fun c5 x7 e7 _ _ => ⟨⟨by omega, by omega⟩, ?_⟩⟩
      · have := z02.mp c5
        rw [if_neg (by rintro ⟨w1, w2⟩; rcases w2 with w | w; exact absurd w (by decide); exact this (by rw [ev]; exact ⟨w1, w⟩))] at esn
        refine a2 (a := 5) (b := x17) hb3 H1.2.2 f1 ?_
        rw [es, esn, e17, H1.1.2.2.1, et]; rfl
      · have hy : (1 ≤ x2 ∧ x2 ≤ 64) ∧ pwb x2 = true := Classical.not_not.mp (fun w => c5 (z02.mpr w))
        rw [ev] at hy
        rw [if_pos ⟨hy.1, Or.inr hy.2⟩] at esn
        rw [tn_c]
        intro h9 e9
        have f9 : fr (fun a k => a = 202 ∧ k = sz π) h3 h9 := fr_i fr_0 e9 ⟨rfl, rfl⟩
        have R9 := RSm_t R1 f9 (fun a k w => by rw [ez]; omega)
        have H9 := RMs_V H1 f9 (fun a k w => by omega)
        refine con_mono (t_MD_step (hb_i hb3 e9) hA H9 (by rw [et, kn]; exact ⟨by decide, by decide⟩)) ?_
        rintro r h11 ⟨z, rfl, hb11, f11, H11, rfl⟩
        refine ⟨1, rfl, hb11, fun h15 e15 => ?_⟩
        have f15 : fr (fun a k => a = 209 ∧ k = sz π) h11 h15 := fr_i fr_0 e15 ⟨rfl, rfl⟩
        refine ⟨fr_t (fr_t (fr_t (W := WSm) f1 f9 (fun a k w => by omega)) f11 WM_S) f15 (fun a k w => by omega), rfl, hv2, j + 1, 3, ρ, tV' t j, 0, RMs_V H11 f15 (fun a k w => by omega), RSm_t (RSm_t R9 f11 (fun a k w => by omega)) f15 (fun a k w => by rw [ez]; omega), ez, h32, ?_, mv_i e15, hy.1, ⟨by decide, by decide⟩, by decide, ?_⟩
        · rw [mm_i e15 (by omega), fr_g f11 (by omega), mv_i e9, e7]
          have := H1.1.2.2.2.2.2.2.1; rw [et] at this; exact this kn
        · rw [es, esn]; rfl
    · refine a3 (j := j) hb1 H1 f1 ?_
      rw [es]
      unfold sp_num
      rw [if_neg (fun w => c (k3.mpr w))]; rfl
  refine c_MD_soundPart (X95 := fun v1 v2 h1 => fr WSm h h1 ∧ v1 = (sz π : Int) ∧ v2 = 0 ∧ tK t i = 60 ∧ ∃ (j f : Nat) (ρ : pm_T), RMs X j μ h1 ∧ RSm ρ h1 ∧ sz ρ = sz π ∧ (f : Int) = 4 - ρ 5 (sz ρ) ∧ (0 < ρ 5 (sz ρ) → ρ 0 3 < ρ 0 2) ∧ sp_event t i π = bnd (sp_chord t (f + 1) j ρ) (ev_n t i)) (X267 := fun v1 v2 h1 => (fr WSm h h1 ∧ v1 = (sz π : Int) ∧ (v2 = 0 ↔ ¬ tK t i = 266) ∧ ∃ (j f : Nat) (ρ : pm_T) (n d : Int), RMs X j μ h1 ∧ RSm ρ h1 ∧ sz ρ = sz π ∧ ρ 0 3 < ρ 0 2 ∧ h1.2.1 202 (sz π) = n ∧ h1.2.1 209 (sz π) = d ∧ (1 ≤ n ∧ n ≤ 64) ∧ (0 ≤ d ∧ d ≤ 3) ∧ (f : Int) = 3 - d ∧ sp_event t i π = bnd (sp_dots t (f + 1) j d) (fun d => sp_tie t i ρ n d))) ?_ X2 hb0 ?_
  · refine lp_MD_soundPart_95 X2 _ (fun v1 _ h1 => (5 - h1.2.1 204 v1.toNat).toNat) ?_
    rintro v1 v2 h1 hb1 ⟨f1, rfl, rfl, hk60, j, f, ρ, H1, R1, ez, hf, h32, es⟩
    obtain ⟨⟨s1, s2, s3, s4⟩, s5, s6⟩ := R1.2.2.2.1
    obtain ⟨r0, r1, r2, r3, r4⟩ := R1.2.2.1.1
    unfold B_MD_soundPart_95
    intro x1 e1 _ _
    have k1 : x1 = 1 ↔ tK t j = 258 := by rw [e1, H1.1.2.2.2.1, et]; exact ek_1
    rw [tn_c]
    refine ⟨fun c => ⟨⟨by omega, by omega⟩, fun x3 e3 _ _ => ?_⟩, fun c => ?_⟩
    · have kp := k1.mp c
      have ex3 : x3 = ρ 5 (sz ρ) := by rw [e3, ← ez]; exact R1.2.2.2.2.2.1
      rw [sp_chord, if_pos kp] at es
      have k185 : ¬ ρ 5 (sz ρ) = 4 → ¬ (0 < ρ 5 (sz ρ) ∧ tV' t j ≤ ρ (5 + (ρ 5 (sz ρ)).toNat) (sz ρ)) → B_MD_soundPart_185 G s (sz π : Int) 0 h1 (QSm s X μ (sp_event t i π) h) (fun v1' v2' h' => (fr WSm h h' ∧ v1' = (sz π : Int) ∧ v2' = 0 ∧ tK t i = 60 ∧ ∃ (j f : Nat) (ρ : pm_T), RMs X j μ h' ∧ RSm ρ h' ∧ sz ρ = sz π ∧ (f : Int) = 4 - ρ 5 (sz ρ) ∧ (0 < ρ 5 (sz ρ) → ρ 0 3 < ρ 0 2) ∧ sp_event t i π = bnd (sp_chord t (f + 1) j ρ) (ev_n t i)) ∧ (5 - h'.2.1 204 v1'.toNat).toNat < (5 - h1.2.1 204 ((sz π : Int)).toNat).toNat) (fun v1 v2 h1 => (fr WSm h h1 ∧ v1 = (sz π : Int) ∧ (v2 = 0 ↔ ¬ tK t i = 266) ∧ ∃ (j f : Nat) (ρ : pm_T) (n d : Int), RMs X j μ h1 ∧ RSm ρ h1 ∧ sz ρ = sz π ∧ ρ 0 3 < ρ 0 2 ∧ h1.2.1 202 (sz π) = n ∧ h1.2.1 209 (sz π) = d ∧ (1 ≤ n ∧ n ≤ 64) ∧ (0 ≤ d ∧ d ≤ 3) ∧ (f : Int) = 3 - d ∧ sp_event t i π = bnd (sp_dots t (f + 1) j d) (fun d => sp_tie t i ρ n d))) := by
        intro n4 nlow
        rw [if_neg n4, if_neg nlow] at es
        unfold B_MD_soundPart_185
        rw [← ez]
        refine con_mono (t_MD_pitchOf (π := ρ) hb1 hA H1 R1 (by rw [et]; exact kp) (by omega) (by rw [ez]; omega)) ?_
        rw [et]
        rintro r h2 ⟨z3, rfl, hb2, f2, q⟩
        rcases q with ⟨c3, rfl, H2, R2⟩ | ⟨c3, rfl, w1, w2⟩
        · rw [sp_adm_a c3] at es
          simp only [bnd] at es
          have a5 : adm ρ 5 (sz (adm ρ)) = ρ 5 (sz ρ) := by rw [sz_adm, adm_o (by omega)]
          have b5 : pch t j (sgt t j) (adm ρ) 5 (sz (pch t j (sgt t j) (adm ρ))) = ρ 5 (sz ρ) + 1 := by rw [sz_pch, pch_5, a5]
          have bz : sz (pch t j (sgt t j) (adm ρ)) = sz π := by rw [sz_pch, sz_adm, ez]
          obtain ⟨e, ee⟩ : ∃ e : Nat, ρ 5 (sz ρ) = (e : Int) := ⟨(ρ 5 (sz ρ)).toNat, by omega⟩
          have b32 : pch t j (sgt t j) (adm ρ) 0 3 < pch t j (sgt t j) (adm ρ) 0 2 := by
            rw [pch_o (a5.trans ee) (by omega) (by omega), pch_o (a5.trans ee) (by omega) (by omega), adm_2, adm_o (by omega)]; omega
          refine ⟨1, rfl, hb2, fun d => absurd d (by decide), fun _ => ?_⟩
          refine con_mono (t_MD_isSign hb2 hA H2 (k := 62) (by unfold isSg; omega)) ?_
          rintro r h4 ⟨z6, rfl, hb4, rfl, -, z02⟩
          rw [et] at z02
          refine ⟨z6, rfl, hb4, fun c6 => ?_, fun c6 => ?_⟩
          · rw [if_neg (z02.mp c6)] at es
            obtain ⟨f', rfl⟩ : ∃ f', f = f' + 1 := ⟨f - 1, by omega⟩
            have bz' := bz.trans ez.symm
            refine ⟨⟨fr_t f1 f2 (fun _ _ w => w), rfl, rfl, hk60, j + 1, f', pch t j (sgt t j) (adm ρ), H2, R2, bz', by rw [b5]; omega, fun _ => b32, es⟩, ?_⟩
            have m1 := R2.2.2.2.2.2.1
            have m0 := R1.2.2.2.2.2.1
            rw [b5, bz'] at m1
            show (5 - h4.2.1 204 (sz ρ)).toNat < (5 - h1.2.1 204 (sz ρ)).toNat
            rw [m1, m0]
            omega
          · have y62 : tK t (j + 1) = 62 := Classical.not_not.mp (fun w => c6 (z02.mpr w))
            rw [if_pos y62] at es
            refine con_mono (t_MD_step hb4 hA H2 (by rw [et, y62]; exact ⟨by decide, by decide⟩)) ?_
            rintro r h7 ⟨z9, rfl, hb7, f7, H7, rfl⟩
            refine ⟨1, rfl, hb7, ?_⟩
            rw [ez]
            exact k209 0 h7 (j + 1 + 1) _ hb7 (fr_t (fr_t f1 f2 (fun _ _ w => w)) f7 WM_S) ⟨fun _ w => by omega, fun _ => rfl⟩ H7 (RSm_t R2 f7 (fun a k w => by omega)) bz b32 es
        · rw [sp_adm_n c3] at es
          refine ⟨0, rfl, hb2, fun _ => ⟨0, rfl, hb2, fr_t f1 f2 (fun _ _ w => w), Or.inl rfl, ?_⟩, fun d => absurd rfl d⟩
          rw [es]; exact ⟨rfl, w1, w2⟩
      refine ⟨fun c4 x17 e17 _ _ => ?_, fun c4 => ⟨fun c0 => k185 (by omega) (by omega), fun c0 x7 e7 _ _ => ⟨⟨by omega, by omega⟩, ⟨by omega, by omega⟩, ⟨by omega, by omega⟩, ⟨by omega, by omega⟩, ?_⟩⟩⟩
      · rw [if_pos (by omega)] at es
        exact a2 (a := 3) (b := x17) hb1 H1.2.2 f1 (by rw [es, e17, H1.1.2.2.1, et]; rfl)
      · obtain ⟨e, ee⟩ : ∃ e : Nat, x3 = (e : Int) + 1 := ⟨(x3 - 1).toNat, by omega⟩
        have ek : (4 * (sz π : Int) + x3 - 1).toNat = 4 * sz π + e := by omega
        rw [ek]
        intro x14 e14 _ _
        have ex14 : x14 = ρ (6 + e) (sz ρ) := by rw [e14, ← ez]; exact (R1.2.2.2.2.2.2.2 e (by omega)).1
        have ex7 : x7 = tV' t j := by rw [e7]; have := H1.1.2.2.2.2.2.2.2.1; rw [et] at this; exact (this kp).1
        have e5 : 5 + (ρ 5 (sz ρ)).toNat = 6 + e := by omega
        refine ⟨fun c7 => k185 (by omega) (by rw [e5]; omega), fun c7 x16 e16 _ _ => ?_⟩
        rw [if_neg (by omega), if_pos (by rw [e5]; omega)] at es
        have ex16 : x16 = ρ 0 2 := e16.trans R1.2.1.1.2
        unfold B_MD_soundPart_177
        refine ⟨fun c8 y ey _ _ => ?_, fun c8 y ey _ _ => ?_⟩
        · rw [if_neg (by omega)] at es
          exact a2 (a := 3) (b := y) hb1 H1.2.2 f1 (by rw [es, ey, H1.1.2.2.1, et]; rfl)
        · rw [if_pos (by omega)] at es
          exact a2 (a := 4) (b := y) hb1 H1.2.2 f1 (by rw [es, ey, H1.1.2.2.1, et]; rfl)
    · rw [sp_chord, if_neg (fun w => c (k1.mpr w))] at es
      exact a3 (j := j) hb1 H1 f1 (by rw [es]; rfl)
  · unfold B_MD_soundPart_0
    intro x1 e1 _ _
    have ex1 : x1 = (sz π : Int) := by rw [e1, R.1, hz]
    subst ex1
    refine con_mono (t_MD_put (p := sz π) hb0 (by rw [R.1, hz]) (by omega)) ?_
    rintro r h2 ⟨rfl, hb2, f2, m1, m2⟩
    refine ⟨rfl, hb2, ⟨by omega, by omega⟩, ?_⟩
    rw [tn_c]
    intro h7 e7 h10 e10
    have f10 : fr (fun a k => ((a = 201 ∨ a = 204 ∨ a = 207) ∧ k = sz π) ∨ (a = 170 ∧ k = 43)) h h10 := fr_i (fr_i (fr_w f2 (fun a k w => by omega)) e7 (by omega)) e10 (by omega)
    have hb10 := hb_i (hb_i hb2 e7) e10
    have H10 := RMs_V H f10 (fun a k w => by omega)
    have R10 : RSm (snd0 π) h10 := by
      refine ⟨?_, RPx_s R.2 P f10 (fun a k w => by omega) (fun a k q => e0 a k (by omega)) ⟨e0 _ _ (by omega), e0 _ _ (by omega)⟩ ?_, q1, q2, ?_, ?_⟩
      · rw [e0 _ _ (by omega), mm_i e10 (by omega), mm_i e7 (by omega), m2, hz]
      · rw [fr_g f10 (by omega), e0 _ _ (by omega)]; exact R.2.1.2
      · rw [q3, mm_i e10 (by omega), mm_i e7 (by omega), m1]
      · rw [q3]
        refine ⟨by rw [mm_i e10 (by omega), mv_i e7, v5], by rw [mv_i e10, v17], fun p hp => by rw [v5] at hp; omega⟩
    have ff : fr WSm h h10 := fr_w f10 (fun a k w => by omega)
    have s2 : snd0 π 0 2 = π 0 2 := e0 _ _ (by omega)
    have s3 : snd0 π 0 3 = π 0 3 := e0 _ _ (by omega)
    rw [ev_e] at *
    refine con_mono (t_MD_isWord hb10 H10 (k := 5) (by omega)) ?_
    rintro r h12 ⟨z14, rfl, hb12, rfl, z01, z02⟩
    rw [et] at z02
    refine ⟨z14, rfl, hb12, fun c => ?_, fun c => ?_⟩
    · have nr : ¬ tK t i = 266 := by have := z02.mp c; omega
      intro x15 e15 _ _
      have k1 : x15 = 1 ↔ tK t i = 258 := by rw [e15, H10.1.2.2.2.1, et]; exact ek_1
      refine ⟨fun c1 => ?_, fun c1 => ?_⟩
      · have kp := k1.mp c1
        have es : sp_sound t i π = bnd (sp_adm t i (snd0 π)) fun π1 => .inr (i + 1, pch t i (sgt t i) π1) := by unfold sp_sound; rw [if_neg nr, if_pos kp]
        have := t_MD_pitchOf (G := G) (π := snd0 π) hb12 hA H10 R10 (by rw [et]; exact kp) (by rw [q3, v5]; decide) (by rw [q3]; omega)
        rw [q3, et] at this
        refine con_mono this ?_
        rintro r h19 ⟨z, rfl, hb19, f19, q⟩
        rcases q with ⟨c3, rfl, H19, R19⟩ | ⟨c3, rfl, w1, w2⟩
        · have a5 : adm (snd0 π) 5 (sz (adm (snd0 π))) = ((0 : Nat) : Int) := by rw [sz_adm, adm_o (by omega), q3, v5]; rfl
          refine ⟨1, rfl, hb19, fun d => absurd d (by decide), fun _ => k209 z14 h19 (i + 1) _ hb19 (fr_t ff f19 (fun _ _ w => w)) ⟨fun _ => nr, fun _ => c⟩ H19 R19 (by rw [sz_pch, sz_adm, q3]) ?_ ?_⟩
          · rw [pch_o a5 (by omega) (by omega), pch_o a5 (by omega) (by omega), adm_2, adm_o (by omega), s2, s3]; omega
          · rw [es, sp_adm_a c3]; rfl
        · refine ⟨0, rfl, hb19, fun _ => ⟨0, rfl, hb19, fr_t ff f19 (fun _ _ w => w), Or.inl rfl, ?_⟩, fun d => absurd rfl d⟩
          rw [es, sp_adm_n c3]; exact ⟨rfl, w1, w2⟩
      · have k60 : tK t i = 60 := by
          rcases hk with w | w | w
          · exact absurd (k1.mpr w) c1
          · exact absurd w nr
          · exact w
        refine con_mono (t_MD_step hb12 hA H10 (by rw [et, k60]; exact ⟨by decide, by decide⟩)) ?_
        rintro r h16 ⟨z, rfl, hb16, f16, H16, rfl⟩
        refine ⟨1, rfl, hb16, fr_t ff f16 WM_S, rfl, c, k60, i + 1, 4, snd0 π, H16, RSm_t R10 f16 (fun a k w => by omega), q3, by rw [q3, v5]; rfl, fun w => by rw [q3, v5] at w; omega, ?_⟩
        have es : sp_sound t i π = sp_chord t 5 (i + 1) (snd0 π) := by unfold sp_sound; rw [if_neg nr, if_neg (by omega)]
        rw [es]
    · have yr : tK t i = 266 := by
        have := Classical.not_not.mp (fun w => c (z02.mpr w)); omega
      have es : sp_sound t i π = bnd (sp_adm t i (snd0 π)) fun π1 => .inr (i + 1, π1) := by unfold sp_sound; rw [if_pos yr]
      intro x22 e22 _ _
      have ex22 : x22 = π 0 2 := by rw [e22, R10.2.1.1.2, s2]
      refine ⟨fun c3 x30 e30 _ _ => ?_, fun c3 => ⟨⟨by omega, by omega⟩, fun h25 e25 => ?_⟩⟩
      · exact a2 (a := 3) (b := x30) hb12 H10.2.2 ff (by rw [es, sp_adm_n (by omega), e30, H10.1.2.2.1, et]; rfl)
      · have c32 : snd0 π 0 2 < 300 := by rw [s2]; omega
        obtain ⟨t1, t2⟩ := PW_adm q1 q2 c32
        have f25 : fr (fun a k => a = 170 ∧ k = 64) h12 h25 := fr_i fr_0 e25 ⟨rfl, rfl⟩
        have H25 := RMs_V H10 f25 (fun a k w => by omega)
        have R25 : RSm (adm (snd0 π)) h25 := by
          obtain ⟨u1, u2, u3, u4, u5, u6⟩ := R10
          refine ⟨by rw [fr_g f25 (by omega), adm_o (by omega)]; exact u1, RPx_s u2 u3 f25 (fun a k w => by omega) (fun a k q => adm_o (by omega)) ⟨adm_o (by omega), adm_o (by omega)⟩ (by rw [mv_i e25, adm_2, s2, ex22]), t1, t2, by rw [sz_adm, fr_g f25 (by omega)]; exact u5, ?_⟩
          rw [sz_adm]
          exact ESm_c u6 u4.1.1.2 (fun a q => adm_o (by omega)) ⟨fr_g f25 (by omega), fr_g f25 (by omega)⟩ (fun k _ _ => ⟨fr_g f25 (by omega), fr_g f25 (by omega)⟩)
        refine con_mono (t_MD_step (hb_i hb12 e25) hA H25 (by rw [et, yr]; exact ⟨by decide, by decide⟩)) ?_
        rintro r h27 ⟨z, rfl, hb27, f27, H27, rfl⟩
        refine ⟨1, rfl, hb27, k209 z14 h27 (i + 1) _ hb27 (fr_t (fr_t (W := WSm) ff f25 (fun a k w => by omega)) f27 WM_S) ⟨fun w => absurd w c, fun w => absurd yr w⟩ H27 (RSm_t R25 f27 (fun a k w => by omega)) (by rw [sz_adm, q3]) ?_ ?_⟩
        · rw [adm_2, adm_o (by omega), s2, s3]; omega
        · rw [es, sp_adm_a c32]; rfl
