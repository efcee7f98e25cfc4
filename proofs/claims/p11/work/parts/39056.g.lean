/-! ===== the reference: a part of a voice, 2 ===== -/
theorem QSm_E {s : Nat} {X : tx_T} {i : Nat} {μ π : pm_T} {h h' : ah_T} {z : Int} (H : VEm X i μ π h) (f : fr WSm h h') (p : PVm X μ (sp_event X.2.2.1 i π) z h') : PEm X μ (sp_event X.2.2.1 i π) z h' := by
  obtain ⟨-, R, P, W, M, hpi⟩ := H
  have p0 := P.1.1
  rcases e : sp_event X.2.2.1 i π with q | q
  · rw [e] at p; exact p
  · rw [e] at p
    obtain ⟨rfl, H', R', P'⟩ := p
    rw [sp_event_e] at e
    obtain ⟨a, ea, e⟩ := bnd_r e
    obtain ⟨n, -, e⟩ := bnd_r e
    obtain ⟨d, ed, e⟩ := bnd_r e
    have s1 := sp_sound_s ea
    have s0 := sp_sound_ok ea
    have hd := sp_dots_i _ _ _ _ ed
    have key : ∀ w : Int, WC (addE a.2 n d.2 w) ∧ MKm (addE a.2 n d.2 w) h' ∧ addE a.2 n d.2 w 0 0 = π 0 0 + 1 := by
      intro w
      have ez : sz a.2 = sz π := by unfold sz; rw [s0.2]
      obtain ⟨v1, -⟩ := addE_v (π := a.2) (n := n) (d := d.2) (w := w)
      rw [ez] at v1
      have k0 := (addE_0 (π := a.2) (n := n) (d := d.2) (w := w)).1
      have o : ∀ c k, (c = 0 ∧ k = 1) ∨ ((c = 1 ∨ c = 14) ∧ k ≠ sz π) ∨ c = 15 ∨ c = 16 → addE a.2 n d.2 w c k = π c k := fun c k q => by
        rw [addE_o (by omega) (by rw [ez]; omega)]; exact s1 _ _ (by omega)
      refine ⟨WC_addE W s1, MKm_add M W.2.2 (by unfold sz; omega) (fun c j hc hj => o c j (by omega)) (fun c j h1 h2 _ => fr_g f (by omega)) (by unfold dp; rw [o 0 1 (by omega)]; exact Nat.le_refl _) (fun e he => ⟨o 15 e (by omega), o 16 e (by omega)⟩) (Or.inl ⟨by unfold dp; rw [o 0 1 (by omega)], by rw [v1]; decide, by rw [v1]; decide⟩), by rw [k0, s0.2]⟩
    unfold sp_tie at e
    split at e
    · split at e
      · cases e
      · cases e
        obtain ⟨k1, k2, k3⟩ := key 1
        exact ⟨rfl, H', R', P', k1, k2, by show addE a.2 n d.2 1 0 0 + 1 ≤ ((d.1 + 1 : Nat) : Int); rw [k3]; omega⟩
    · cases e
      obtain ⟨k1, k2, k3⟩ := key 0
      exact ⟨rfl, H', R', P', k1, k2, by show addE a.2 n d.2 0 0 0 + 1 ≤ ((d.1 : Nat) : Int); rw [k3]; omega⟩
theorem t_MD_voicePart {G : cx_T} {s : Nat} {h : ah_T} {X : tx_T} {i : Nat} {μ π : pm_T} (hb0 : hb s h) (hA : XA X) (H : VEm X i μ π h) :
    con G 5 0 0 m_MD_voicePart [av_R (some 170)] h (QEm s X μ (sp_part X.2.2.1 i π) h) := by
  have HH := H
  obtain ⟨H, R, P, W, M, hpi⟩ := H
  have hi2 := RMs_i hA H
  obtain ⟨p0, p1, -⟩ := P.1
  have hz : (sz π : Int) = π 0 0 := by unfold sz; omega
  have hdp : (dp π : Int) = π 0 1 := by unfold dp; omega
  generalize et : X.2.2.1 = t at *
  have a2 : ∀ {a b : Int} {R : F_T ⊕ (Nat × pm_T)}, R = .inl (a, b) → con G 0 0 0 m_MD_wrong [av_R (some 170), av_I a, av_I b] h (fun r h2 => ∃ z : Int, r = some (av_I z) ∧ hb s h2 ∧ (z = 0 ∨ z = 1) ∧ QEm s X μ R h (some (av_I z)) h2) := by
    intro a b R e
    refine con_mono (t_MD_wrongk hb0 H.2.2) ?_
    rintro r h' ⟨z, rfl, hb2, f2, rfl, w1, w2⟩
    exact ⟨0, rfl, hb2, Or.inl rfl, 0, rfl, hb2, fr_w f2 WK_V, Or.inl rfl, by rw [e]; exact ⟨rfl, w1, w2⟩⟩
  have isS : ∀ {k : Int}, isSg k → con G 0 0 0 m_MD_isSign [av_R (some 170), av_I k] h (fun r h' => ∃ z, r = some (av_I z) ∧ hb s h' ∧ h' = h ∧ (z = 0 ∨ z = 1) ∧ (z = 0 ↔ ¬ tK t i = k)) := by
    intro k hk
    have := t_MD_isSign (G := G) hb0 hA H hk
    rw [et] at this; exact this
  have e1' : h.2.1 170 5 = tP t i := by rw [H.1.2.2.1, et]
  -- no mark
  have k207 : ¬ mkb π (tK t i) = true → B_MD_voicePart_207 G s h (QEm s X μ (sp_part t i π) h) := by
    intro nm
    have es : sp_part t i π = if tK t i = 258 ∨ tK t i = 266 ∨ tK t i = 60 then (if π 0 1 ≤ 6 then sp_event t i π else .inl (3, tP t i)) else if tK t i = 124 then (if π 0 1 ≤ 6 then .inr (i + 1, addP π 124 0 0) else .inl (3, tP t i)) else if tK t i = 91 then (if π 0 1 ≤ 6 then .inr (i + 1, addP (opn π) 91 0 0) else .inl (3, tP t i)) else if tK t i = 123 then (if π 0 1 ≤ 6 then sp_times t i π else .inl (3, tP t i)) else .inl (cn t i) := by
      unfold sp_part; rw [if_neg nm]
    generalize sp_part t i π = RR at es ⊢
    have k264 : (tK t i = 258 ∨ tK t i = 266 ∨ tK t i = 60 ∨ tK t i = 124 ∨ tK t i = 91 ∨ tK t i = 123) → B_MD_voicePart_264 G s 1 h (QEm s X μ RR h) := by
      intro hbg
      unfold B_MD_voicePart_264
      refine ⟨fun d => absurd d (by decide), fun _ x1 y1 _ _ => ⟨fun c6 => ?_, fun c6 x49 e49 _ _ => ?_⟩⟩
      · have d6 : π 0 1 ≤ 6 := by have := y1.trans R.2.1.1; omega
        refine con_mono (isS (k := 124) (by unfold isSg; omega)) ?_
        rintro r h2 ⟨z4, rfl, hb2, rfl, -, z02⟩
        refine ⟨z4, rfl, hb2, fun c => ?_, fun c => ?_⟩
        · have n124 := z02.mp c
          refine con_mono (isS (k := 91) (by unfold isSg; omega)) ?_
          rintro r h5 ⟨z7, rfl, hb5, rfl, -, z03⟩
          refine ⟨z7, rfl, hb5, fun c2 => ?_, fun c2 => ?_⟩
          · have n91 := z03.mp c2
            refine con_mono (isS (k := 123) (by unfold isSg; omega)) ?_
            rintro r h8 ⟨z10, rfl, hb8, rfl, -, z04⟩
            refine ⟨z10, rfl, hb8, fun c3 => ?_, fun c3 => ?_⟩
            · have n123 := z04.mp c3
              have hk3 : tK t i = 258 ∨ tK t i = 266 ∨ tK t i = 60 := by omega
              rw [if_pos hk3, if_pos d6] at es
              refine con_mono (t_MD_soundPart hb8 hA H R P (by omega) (by rw [et]; exact hk3)) ?_
              rintro r h11 ⟨z, rfl, hb11, f11, z01, p⟩
              refine ⟨z, rfl, hb11, z01, z, rfl, hb11, fr_w f11 (fun a k w => by omega), z01, ?_⟩
              have q := QSm_E (s := s) HH f11 p
              rw [et, ← es] at q; exact q
            · have y123 : tK t i = 123 := Classical.not_not.mp (fun w => c3 (z04.mpr w))
              rw [if_neg (by omega), if_neg n124, if_neg n91, if_pos y123, if_pos d6] at es
              refine con_mono (t_MD_timesPart hb8 hA HH (by rw [et]; exact y123) d6) ?_
              rintro r h14 ⟨z, rfl, hb14, f14, z01, p⟩
              rw [et, ← es] at p
              exact ⟨z, rfl, hb14, z01, z, rfl, hb14, f14, z01, p⟩
          · have y91 : tK t i = 91 := Classical.not_not.mp (fun w => c2 (z03.mpr w))
            rw [if_neg (by omega), if_neg n124, if_pos y91, if_pos d6] at es
            intro x18 e18 _ _ x19 e19 _ _
            have ex18 : x18 = (dp π : Int) := by rw [e18, R.2.1.1, hdp]
            have ex19 : x19 = (sz π : Int) := by rw [e19, R.1, hz]
            subst ex18 ex19
            refine ⟨⟨by omega, by omega⟩, ?_⟩
            rw [tn_c]
            intro h21 e21
            refine ⟨⟨by omega, by omega⟩, ?_⟩
            rw [tn_c]
            intro h26 e26
            have f26 : fr (fun a k => (a = 215 ∧ k = dp π) ∨ (a = 214 ∧ k = sz π)) h5 h26 := fr_i (fr_i fr_0 e21 (by omega)) e26 (by omega)
            refine con_mono (t_MD_put (p := sz π) (hb_i (hb_i hb5 e21) e26) (by rw [fr_g f26 (by omega), R.1, hz]) (by omega)) ?_
            rintro r h28 ⟨rfl, hb28, f28, m1, m2⟩
            refine ⟨rfl, hb28, fun x32 e32 _ _ => ?_⟩
            have ex32 : x32 = (dp π : Int) := by rw [e32, fr_g f28 (by omega), fr_g f26 (by omega), R.2.1.1, hdp]
            subst ex32
            refine ⟨⟨by omega, by omega⟩, ?_⟩
            rw [tn_c]
            intro h34 e34
            refine ⟨⟨by omega, by omega⟩, fun h38 e38 => ?_⟩
            have f38 : fr (fun a k => (a = 170 ∧ (k = 43 ∨ k = 63)) ∨ ((a = 201 ∨ a = 214) ∧ k = sz π) ∨ ((a = 215 ∨ a = 216) ∧ k = dp π)) h5 h38 := fr_i (fr_i (fr_t (fr_w f26 (fun a k w => by omega)) f28 (fun a k w => by omega)) e34 (by omega)) e38 (by omega)
            have hb38 := hb_i (hb_i hb28 e34) e38
            have H38 := RMs_V H f38 (fun a k w => by omega)
            refine con_mono (t_MD_step hb38 hA H38 (by rw [et, y91]; exact ⟨by decide, by decide⟩)) ?_
            rintro r h40 ⟨z, rfl, hb40, f40, H40, rfl⟩
            have ff : fr (fun a k => (a = 170 ∧ k ≠ 64) ∨ ((a = 201 ∨ a = 202 ∨ a = 203 ∨ a = 214) ∧ k = sz π) ∨ ((a = 215 ∨ a = 216) ∧ k = dp π)) h5 h40 := fr_t (fr_w f38 (fun a k w => by omega)) f40 (fun a k w => by omega)
            have gV : fr WVm h5 h40 := fr_t (fr_w f38 (fun a k w => by omega)) f40 (fun a k w => by omega)
            refine ⟨1, rfl, hb40, Or.inr rfl, 1, rfl, hb40, gV, Or.inr rfl, ?_⟩
            rw [es]
            have WW' := WC_addO (x := 0) (y := 0) W d6 (Or.inl rfl)
            have k0 := addO_0 (π := π) (c := 91) (x := 0) (y := 0)
            have MM : MKm (addP (opn π) 91 0 0) h40 := MKm_addO M W (fun a j h1 h2 hj => fr_g ff (by omega)) (fun _ => by rw [fr_g f40 (by omega), mm_i e38 (by omega), mm_i e34 (by omega), fr_g f28 (by omega), mv_i e26])
            refine ⟨rfl, H40, RPm_addO R P (Or.inl rfl) ff (fun _ _ w => w) ⟨?_, ?_, ?_, fun w => absurd w (by decide), ?_, ?_⟩, PW_addO P d6 (Or.inl rfl), WW', MM, by show addP (opn π) 91 0 0 0 0 + 1 ≤ ((i + 1 : Nat) : Int); rw [k0]; omega⟩
            · rw [fr_g f40 (by omega), mm_i e38 (by omega), mm_i e34 (by omega), m2, hz]
            · rw [fr_g f40 (by omega), mv_i e38, hdp]
            · rw [fr_g f40 (by omega), mm_i e38 (by omega), mm_i e34 (by omega), m1]; rfl
            · rw [fr_g f40 (by omega), mm_i e38 (by omega), mm_i e34 (by omega), fr_g f28 (by omega), mm_i e26 (by omega), mv_i e21, hz]
            · rw [fr_g f40 (by omega), mm_i e38 (by omega), mv_i e34]; rfl
        · have y124 : tK t i = 124 := Classical.not_not.mp (fun w => c (z02.mpr w))
          rw [if_neg (by omega), if_pos y124, if_pos d6] at es
          refine con_mono (t_MD_put (p := sz π) hb2 (by rw [R.1, hz]) (by omega)) ?_
          rintro r h43 ⟨rfl, hb43, f43, m1, m2⟩
          refine ⟨rfl, hb43, ?_⟩
          have H43 := RMs_V H f43 (fun a k w => by omega)
          refine con_mono (t_MD_step hb43 hA H43 (by rw [et, y124]; exact ⟨by decide, by decide⟩)) ?_
          rintro r h46 ⟨z, rfl, hb46, f46, H46, rfl⟩
          have ff : fr (fun a k => (a = 170 ∧ k ≠ 63 ∧ k ≠ 64) ∨ (a = 201 ∧ k = sz π)) h2 h46 := fr_t (fr_w f43 (fun a k w => by omega)) f46 (fun a k w => by omega)
          have gV : fr WVm h2 h46 := fr_t (fr_w f43 (fun a k w => by omega)) f46 (fun a k w => by omega)
          refine ⟨1, rfl, hb46, Or.inr rfl, 1, rfl, hb46, gV, Or.inr rfl, ?_⟩
          rw [es]
          have k0 := (addP_v (π := π) (c := 124) (x := 0) (y := 0)).1
          have MM : MKm (addP π 124 0 0) h46 := MKm_addP M W ⟨by decide, by decide⟩ (fun a j h1 h2 hj => fr_g ff (by omega))
          refine ⟨rfl, H46, RPm_addP R P ⟨by decide, by decide⟩ ff (fun _ _ w => w) ⟨?_, ?_⟩, PW_addP P ⟨by decide, by decide⟩, WC_addL W, MM, by show addP π 124 0 0 0 0 + 1 ≤ ((i + 1 : Nat) : Int); rw [k0]; omega⟩
          · rw [fr_g f46 (by omega), m2, hz]
          · rw [fr_g f46 (by omega), m1]; rfl
      · have d6 : ¬ π 0 1 ≤ 6 := by have := y1.trans R.2.1.1; omega
        rw [if_neg d6, if_neg d6, if_neg d6, if_neg d6] at es
        refine a2 (a := 3) (b := x49) ?_
        rw [es, e49, e1']
        rcases hbg with w | w | w | w | w | w
        · rw [if_pos (Or.inl w)]
        · rw [if_pos (Or.inr (Or.inl w))]
        · rw [if_pos (Or.inr (Or.inr w))]
        · rw [if_neg (by omega), if_pos w]
        · rw [if_neg (by omega), if_neg (by omega), if_pos w]
        · rw [if_neg (by omega), if_neg (by omega), if_neg (by omega), if_pos w]
    unfold B_MD_voicePart_207 B_MD_voicePart_259
    intro x1 y1 _ _
    have k1 : x1 = 1 ↔ tK t i = 258 := by rw [y1, H.1.2.2.2.1, et]; exact ek_1
    refine ⟨fun c => k264 (Or.inl (k1.mp c)), fun c => ?_⟩
    have n258 : ¬ tK t i = 258 := fun w => c (k1.mpr w)
    refine con_mono (t_MD_isWord hb0 H (k := 5) (by omega)) ?_
    rintro r h2 ⟨z4, rfl, hb2, rfl, -, z02⟩
    rw [et] at z02
    refine ⟨z4, rfl, hb2, fun c => ?_, fun c => k264 (Or.inr (Or.inl (by have := Classical.not_not.mp (fun w => c (z02.mpr w)); omega)))⟩
    have n266 : ¬ tK t i = 266 := by have := z02.mp c; omega
    refine con_mono (isS (k := 60) (by unfold isSg; omega)) ?_
    rintro r h5 ⟨z7, rfl, hb5, rfl, -, z03⟩
    refine ⟨z7, rfl, hb5, fun c => ?_, fun c => k264 (Or.inr (Or.inr (Or.inl (Classical.not_not.mp (fun w => c (z03.mpr w))))))⟩
    have n60 := z03.mp c
    refine con_mono (isS (k := 124) (by unfold isSg; omega)) ?_
    rintro r h8 ⟨z10, rfl, hb8, rfl, -, z04⟩
    refine ⟨z10, rfl, hb8, fun c => ?_, fun c => k264 (Or.inr (Or.inr (Or.inr (Or.inl (Classical.not_not.mp (fun w => c (z04.mpr w)))))))⟩
    have n124 := z04.mp c
    refine con_mono (isS (k := 91) (by unfold isSg; omega)) ?_
    rintro r h11 ⟨z13, rfl, hb11, rfl, -, z05⟩
    refine ⟨z13, rfl, hb11, fun c => ?_, fun c => k264 (Or.inr (Or.inr (Or.inr (Or.inr (Or.inl (Classical.not_not.mp (fun w => c (z05.mpr w))))))))⟩
    have n91 := z05.mp c
    refine con_mono (isS (k := 123) (by unfold isSg; omega)) ?_
    rintro r h14 ⟨z16, rfl, hb14, rfl, -, z06⟩
    refine ⟨z16, rfl, hb14, fun c => ?_, fun c => k264 (Or.inr (Or.inr (Or.inr (Or.inr (Or.inr (Classical.not_not.mp (fun w => c (z06.mpr w))))))))⟩
    have n123 := z06.mp c
    rw [if_neg (by omega), if_neg n124, if_neg n91, if_neg n123] at es
    unfold B_MD_voicePart_264
    refine ⟨fun _ => ?_, fun d => absurd rfl d⟩
    refine con_mono (t_MD_cantk hb14 H) ?_
    rintro r h' ⟨z, rfl, hb3, f3, rfl, q1, q2⟩
    rw [et] at q1 q2
    exact ⟨0, rfl, hb3, Or.inl rfl, 0, rfl, hb3, fr_w f3 WK_V, Or.inl rfl, by rw [es]; exact ⟨rfl, q1, q2⟩⟩
  refine c_MD_voicePart hb0 ?_
  unfold B_MD_voicePart_0
  intro x1 y1 _ _
  have ex1 : x1 = π 0 1 := y1.trans R.2.1.1
  refine ⟨fun c => k207 (fun w => by
    unfold mkb at w
    simp only [Bool.and_eq_true, decide_eq_true_eq] at w
    omega), fun c => ⟨⟨by omega, by omega⟩, ⟨by omega, by omega⟩, ?_⟩⟩
  obtain ⟨D, eD⟩ : ∃ D : Nat, π 0 1 = (D : Int) + 1 := ⟨(π 0 1 - 1).toNat, by omega⟩
  have eDp : dp π = D + 1 := by unfold dp; omega
  have eDt : (x1 - 1).toNat = D := by omega
  rw [eDt]
  intro x5 e5 _ _
  obtain ⟨r15, r16⟩ := R.2.2.1 D (by omega)
  have WD := W.2.2.1 D (by omega)
  have pdl := P.2.1 D (by omega)
  unfold PD at pdl
  have eoo : oo π D = (π 15 D).toNat := rfl
  have etop : top π = oo π D := by unfold top oo; rw [eDp]; rfl
  have hoz : (π 15 D).toNat < sz π := by omega
  have l1 : ll π (dp π - 1) = ll π D := by rw [eDp]; rfl
  have hlz : ll π D < sz π := WD.1.2
  have hK5 : (x5 = 2 ↔ π 1 (oo π D) = 91) := by
    rw [e5, r16, ← eoo]
    split
    · rename_i q; exact ⟨fun _ => q, fun _ => rfl⟩
    · rename_i q; exact ⟨fun w => absurd w (by decide), fun w => absurd w q⟩
  have kd : π 1 (oo π D) = 91 ∨ π 1 (oo π D) = 123 := by rcases WD.2.2.2 with w | w; exact Or.inl w.1; exact Or.inr w.1
  -- the memory with a mark more
  have mfacts : ∀ K : Int, mkb π K = true → (K = 58 ∨ K = 93 ∨ K = 125) → sp_part t i π = .inr (i + 1, addM π (tK t i)) ∨ K ≠ tK t i := by
    intro K hm hK
    by_cases q : K = tK t i
    · left; unfold sp_part; rw [if_pos (by rw [← q]; exact hm)]
    · exact Or.inr q
  -- a mark but :
  have k132 : ∀ (v t1 : Int), ((v = 1 ∧ π 1 (oo π D) = 91 ∧ t1 = 93) ∨ (v = 0 ∧ π 1 (oo π D) = 123 ∧ t1 = 125)) → (π 1 (oo π D) = 91 → tK t i ≠ 58) → B_MD_voicePart_132 G s v t1 h (QEm s X μ (sp_part t i π) h) := by
    intro v t1 hv n58
    unfold B_MD_voicePart_132
    refine con_mono (isS (k := t1) (by unfold isSg; omega)) ?_
    rintro r h1 ⟨z3, rfl, hb1, rfl, -, z02⟩
    refine ⟨z3, rfl, hb1, fun c3 => ?_, fun c3 => ?_⟩
    · refine k207 (fun w => ?_)
      have nt := z02.mp c3
      by_cases hK : tK t i = 58 ∨ tK t i = 93 ∨ tK t i = 125
      · have := (mkb_t hK).mp w
        rw [etop] at this
        rcases hv with ⟨-, u2, u3⟩ | ⟨-, u2, u3⟩
        · have := n58 u2
          rcases hK with k | k | k
          · exact this k
          · omega
          · rw [if_pos k] at *; omega
        · rcases hK with k | k | k
          · rw [if_neg (by omega)] at this; omega
          · rw [if_neg (by omega)] at this; omega
          · omega
      · exact mkb_f hK w
    · have yt : tK t i = t1 := Classical.not_not.mp (fun w => c3 (z02.mpr w))
      have hK : tK t i = 58 ∨ tK t i = 93 ∨ tK t i = 125 := by omega
      have hm : mkb π (tK t i) = true := by
        rw [mkb_t hK, etop]
        refine ⟨by omega, ?_⟩
        split <;> omega
      have nK58 : ¬ tK t i = 58 := by omega
      have es : sp_part t i π = .inr (i + 1, addM π (tK t i)) := by unfold sp_part; rw [if_pos hm]
      intro x5' e5' _ _ x7 e7 _ _
      have ex5 : x5' = (sz π : Int) := by rw [e5', R.1, hz]
      have ex7 : x7 = π 0 1 := e7.trans R.2.1.1
      subst ex5
      refine ⟨⟨by omega, by omega⟩, ⟨by omega, by omega⟩, ?_⟩
      have : (x7 - 1).toNat = D := by omega
      rw [this]
      intro x9 e9 _ _
      have ex9 : x9 = ((oo π D : Nat) : Int) := by rw [e9, r15, eoo]; omega
      subst ex9
      refine ⟨⟨by omega, by omega⟩, ?_⟩
      rw [tn_c]
      intro h12 e12
      refine ⟨⟨by omega, by omega⟩, ?_⟩
      rw [tn_c]
      intro h20 e20
      have f20 : fr (fun a k => a = 210 ∧ (k = sz π ∨ k = oo π D)) h1 h20 := fr_i (fr_i fr_0 e12 (by omega)) e20 (by omega)
      have hb20 := hb_i (hb_i hb1 e12) e20
      have fin : ∀ t2 : Int, t2 = mkd (tK t i) → B_MD_voicePart_189 G s t2 h20 (QEm s X μ (sp_part t i π) h1) := by
        intro t2 et2
        unfold B_MD_voicePart_189
        refine con_mono (t_MD_put (p := sz π) hb20 (by rw [fr_g f20 (by omega), R.1, hz]) (by omega)) ?_
        rintro r h2 ⟨rfl, hb2, f2, m1, m2⟩
        refine ⟨rfl, hb2, fun x4 e4 _ _ => ?_⟩
        have ex4 : x4 = π 0 1 := by rw [e4, fr_g f2 (by omega), fr_g f20 (by omega)]; exact R.2.1.1
        refine ⟨⟨by omega, by omega⟩, fun h6 e6 => ?_⟩
        have f6 : fr (fun a k => (a = 210 ∧ (k = sz π ∨ k = oo π D)) ∨ (a = 201 ∧ k = sz π) ∨ (a = 170 ∧ (k = 43 ∨ k = 63))) h1 h6 := fr_i (fr_t (fr_w f20 (fun a k w => by omega)) f2 (fun a k w => by omega)) e6 (by omega)
        have H6 := RMs_V H f6 (fun a k w => by omega)
        refine con_mono (t_MD_step (hb_i hb2 e6) hA H6 (by rw [et]; unfold gk; omega)) ?_
        rintro r h8 ⟨z, rfl, hb8, f8, H8, rfl⟩
        have ff : fr (fun a k => (a = 170 ∧ k ≠ 64) ∨ (a = 201 ∧ k = sz π) ∨ (a = 210 ∧ (k = sz π ∨ k = oo π D))) h1 h8 := fr_t (fr_w f6 (fun a k w => by omega)) f8 (fun a k w => by omega)
        have gV : fr WVm h1 h8 := fr_t (fr_w f6 (fun a k w => by omega)) f8 (fun a k w => by omega)
        refine ⟨1, rfl, hb8, Or.inr rfl, 1, rfl, hb8, gV, Or.inr rfl, ?_⟩
        rw [es]
        obtain ⟨z0, z1, v1, v14, l14, l16⟩ := addM_v (π := π) (K := tK t i) (by rw [eDp]; show (π 16 D).toNat ≠ sz π; omega)
        rw [if_neg nK58] at z1
        rw [eDp] at l14 l16
        have l14' : addM π (tK t i) 14 (ll π D) = π 0 0 := l14
        have MM : MKm (addM π (tK t i)) h8 := by
          refine MKm_end (π' := addM π (tK t i)) (D := D) M W.2.2 eDp (by unfold sz; omega) (by unfold dp; omega) (fun j hj => addM_o (by omega) (by omega) (by omega) (by omega)) (fun j hj hj2 => addM_o (by omega) (by omega) (by rw [eDp]; show ¬ (14 = 14 ∧ j = ll π D); omega) (by omega)) (by unfold lk; rw [l14']; rfl) (fun d hd => addM_o (by omega) (by omega) (by omega) (by omega)) (fun d hd => addM_o (by omega) (by omega) (by omega) (by rw [eDp]; omega)) ?_ ⟨?_, ?_⟩ (fun j h1 h2 => fr_g ff (by omega)) (fun a j h1 h2 => fr_g ff (by omega))
          · rw [v1]; rcases hv with ⟨-, u2, u3⟩ | ⟨-, u2, u3⟩
            · exact Or.inl ⟨yt.trans u3, u2⟩
            · exact Or.inr ⟨yt.trans u3, u2⟩
          · rw [fr_g f8 (by omega), mm_i e6 (by omega), fr_g f2 (by omega), mm_i e20 (by omega), mv_i e12]
          · rw [fr_g f8 (by omega), mm_i e6 (by omega), fr_g f2 (by omega), mv_i e20]
        refine ⟨rfl, H8, RPm_addM R P (by omega) hK ff (fun a k w => by omega) ⟨?_, ?_, ?_⟩, PW_addM P (by omega) hK, WC_addM W hm, MM, by show addM π (tK t i) 0 0 + 1 ≤ ((i + 1 : Nat) : Int); rw [z0]; omega⟩
        · rw [fr_g f8 (by omega), mm_i e6 (by omega), m2, hz]
        · rw [if_neg nK58, fr_g f8 (by omega), mv_i e6, ex4]
        · rw [fr_g f8 (by omega), mm_i e6 (by omega), m1, et2]
      refine ⟨fun c0 => fin 6 ?_, fun c0 => fin 4 ?_⟩
      · rcases hv with ⟨u, -, -⟩ | ⟨-, -, u⟩
        · omega
        · rw [yt, u]; rfl
      · rcases hv with ⟨-, -, u⟩ | ⟨u, -, -⟩
        · rw [yt, u]; rfl
        · exact absurd u c0
  unfold B_MD_voicePart_27 B_MD_voicePart_120
  refine ⟨fun c2 => ⟨fun d => absurd d (by decide), fun _ => ?_⟩, fun c2 => ⟨fun _ => ⟨fun _ => ?_, fun d => absurd rfl d⟩, fun d => absurd rfl d⟩⟩
  · have k91 := hK5.mp c2
    refine con_mono (isS (k := 58) (by unfold isSg; omega)) ?_
    rintro r h1 ⟨z3, rfl, hb1, rfl, -, z02⟩
    refine ⟨z3, rfl, hb1, fun c3 => ⟨fun d => absurd d (by decide), fun _ => k132 1 93 (Or.inl ⟨rfl, k91, rfl⟩) (fun _ => z02.mp c3)⟩, fun c3 => ?_⟩
    have y58 : tK t i = 58 := Classical.not_not.mp (fun w => c3 (z02.mpr w))
    have hm : mkb π (tK t i) = true := by
      rw [mkb_t (Or.inl y58), etop, if_neg (by omega)]
      exact ⟨by omega, k91⟩
    have es : sp_part t i π = .inr (i + 1, addM π (tK t i)) := by unfold sp_part; rw [if_pos hm]
    rw [y58] at es
    obtain ⟨ow, M1, M2⟩ := id M
    obtain ⟨C, Hc, hC⟩ := M1 D (by omega) k91
    have hCn := MKc_n Hc C (Nat.le_refl _)
    intro x5' e5' _ _
    have ex5 : x5' = π 0 1 := e5'.trans R.2.1.1
    refine ⟨⟨by omega, by omega⟩, ⟨by omega, by omega⟩, ?_⟩
    have : (x5' - 1).toNat = D := by omega
    rw [this]
    intro x7 e7 _ _
    have ex7 : x7 = ((oo π D : Nat) : Int) := by rw [e7, r15, eoo]; omega
    subst ex7
    refine ⟨⟨by omega, by omega⟩, ?_⟩
    rw [tn_c]
    intro x10 e10 _ _
    have ex10 : x10 = (C : Int) := e10.trans Hc.1
    subst ex10
    have fin : ∀ h2 : ah_T, hb s h2 → fr (fun a k => 211 ≤ a ∧ a ≤ 212) h1 h2 → (h1.2.1 214 (oo π D) = 0 → h2.2.1 211 (oo π D) = (sz π : Int) ∧ ∀ j, h2.2.1 212 j = h1.2.1 212 j) → (h1.2.1 214 (oo π D) ≠ 0 → h2.2.1 211 (oo π D) = h1.2.1 211 (oo π D) ∧ h2.2.1 212 (h1.2.1 213 (oo π D)).toNat = (sz π : Int) ∧ ∀ j, j ≠ (h1.2.1 213 (oo π D)).toNat → h2.2.1 212 j = h1.2.1 212 j) → (∀ j, j ≠ oo π D → h2.2.1 211 j = h1.2.1 211 j) → B_MD_voicePart_90 G s ((oo π D : Nat) : Int) h2 (QEm s X μ (sp_part t i π) h1) := by
      intro h2 hb2 f2 g2 g3 g4
      unfold B_MD_voicePart_90
      intro x2 e2 _ _
      have ex2 : x2 = (sz π : Int) := by rw [e2, fr_g f2 (by omega), R.1, hz]
      subst ex2
      refine ⟨⟨by omega, by omega⟩, ?_⟩
      rw [tn_c]
      intro h4 e4 x7 e7 _ _
      have ex7 : x7 = (C : Int) := by rw [e7, mm_i e4 (by omega), fr_g f2 (by omega)]; exact Hc.1
      refine ⟨⟨by omega, by omega⟩, fun h9 e9 => ?_⟩
      have f9 : fr (fun a k => (211 ≤ a ∧ a ≤ 212) ∨ ((a = 213 ∨ a = 214) ∧ k = oo π D)) h1 h9 := fr_i (fr_i (fr_w f2 (fun a k w => by omega)) e4 (by omega)) e9 (by omega)
      have hb9 := hb_i (hb_i hb2 e4) e9
      refine con_mono (t_MD_put (p := sz π) hb9 (by rw [fr_g f9 (by omega), R.1, hz]) (by omega)) ?_
      rintro r h11 ⟨rfl, hb11, f11, m1, m2⟩
      refine ⟨rfl, hb11, ?_⟩
      have f11' : fr (fun a k => (211 ≤ a ∧ a ≤ 212) ∨ ((a = 213 ∨ a = 214) ∧ k = oo π D) ∨ (a = 201 ∧ k = sz π) ∨ (a = 170 ∧ k = 43)) h1 h11 := fr_t (fr_w f9 (fun a k w => by omega)) f11 (fun a k w => by omega)
      have H11 := RMs_V H f11' (fun a k w => by omega)
      refine con_mono (t_MD_step hb11 hA H11 (by rw [et, y58]; exact ⟨by decide, by decide⟩)) ?_
      rintro r h14 ⟨z, rfl, hb14, f14, H14, rfl⟩
      have ff : fr (fun a k => (a = 170 ∧ k ≠ 63 ∧ k ≠ 64) ∨ (a = 201 ∧ k = sz π) ∨ (211 ≤ a ∧ a ≤ 212) ∨ ((a = 213 ∨ a = 214) ∧ k = oo π D)) h1 h14 := fr_t (fr_w f11' (fun a k w => by omega)) f14 (fun a k w => by omega)
      have gV : fr WVm h1 h14 := fr_t (fr_w f11' (fun a k w => by omega)) f14 (fun a k w => by omega)
      have same : ∀ a j, (a = 211 ∨ a = 212) → h14.2.1 a j = h2.2.1 a j := fun a j w => by rw [fr_g f14 (by omega), fr_g f11 (by omega), mm_i e9 (by omega), mm_i e4 (by omega)]
      refine ⟨1, rfl, hb14, Or.inr rfl, 1, rfl, hb14, gV, Or.inr rfl, ?_⟩
      rw [es]
      obtain ⟨z0, z1, v1, v14, l14, l16⟩ := addM_v (π := π) (K := 58) (by rw [eDp]; show (π 16 D).toNat ≠ sz π; omega)
      rw [if_pos rfl] at z1
      rw [eDp] at l14 l16
      have l14' : addM π 58 14 (ll π D) = π 0 0 := l14
      have l16' : addM π 58 16 D = π 0 0 := l16
      have MM : MKm (addM π 58) h14 := by
        refine MKm_col (π' := addM π 58) (D := D) M W.2.2 eDp (by unfold sz; omega) (by unfold dp; omega) (fun j hj => addM_o (by omega) (by omega) (by omega) (by omega)) (fun j hj hj2 => addM_o (by omega) (by omega) (by rw [eDp]; show ¬ (14 = 14 ∧ j = ll π D); omega) (by omega)) (by unfold lk; rw [l14']; rfl) (fun d hd => addM_o (by omega) (by omega) (by omega) (by omega)) (fun d hd => addM_o (by omega) (by omega) (by omega) (by rw [eDp]; omega)) (by unfold ll; rw [l16']; rfl) v1 k91 (fun j hj => fr_g ff (by omega)) ⟨?_, ?_⟩ (fun w => ?_) (fun w => ?_) (fun a j h1 h2 h3 h4 => ?_)
        · rw [fr_g f14 (by omega), fr_g f11 (by omega), mv_i e9, ex7, Hc.1]
        · rw [fr_g f14 (by omega), fr_g f11 (by omega), mm_i e9 (by omega), mv_i e4]
        · obtain ⟨u1, u2⟩ := g2 w
          exact ⟨by rw [same _ _ (Or.inl rfl)]; exact u1, fun j => by rw [same _ _ (Or.inr rfl)]; exact u2 j⟩
        · obtain ⟨u1, u2, u3⟩ := g3 w
          exact ⟨by rw [same _ _ (Or.inl rfl)]; exact u1, by rw [same _ _ (Or.inr rfl)]; exact u2, fun j hj => by rw [same _ _ (Or.inr rfl)]; exact u3 j hj⟩
        · by_cases c211 : a = 211
          · rw [c211, same _ _ (Or.inl rfl)]; exact g4 j h4
          · exact fr_g ff (by omega)
      refine ⟨rfl, H14, RPm_addM R P (by omega) (Or.inl rfl) ff (fun a k w => by omega) ⟨?_, ?_, ?_⟩, PW_addM P (by omega) (Or.inl rfl), WC_addM W (by rw [y58] at hm; exact hm), MM, by show addM π 58 0 0 + 1 ≤ ((i + 1 : Nat) : Int); rw [z0]; omega⟩
      · rw [fr_g f14 (by omega), m2, hz]
      · rw [if_pos rfl, fr_g ff (by omega)]; exact R.2.1.1
      · rw [fr_g f14 (by omega), m1]; rfl
    refine ⟨fun c0 x20 e20 _ _ h21 e21 => ?_, fun c0 x14 e14 _ _ x15 e15 _ _ => ?_⟩
    · have ex20 : x20 = (sz π : Int) := by rw [e20, R.1, hz]
      subst ex20
      exact fin h21 (hb_i hb1 e21) (fr_i fr_0 e21 (by omega)) (fun _ => ⟨mv_i e21, fun j => mm_i e21 (by omega)⟩) (fun w => by rw [Hc.1] at w; omega) (fun j hj => mm_i e21 (by omega))
    · have hC1 := (Hc.2.2.1 (by omega)).2
      have ex14 : x14 = ((mkn π (oo π D) C : Nat) : Int) := e14.trans hC1
      have ex15 : x15 = (sz π : Int) := by rw [e15, R.1, hz]
      subst ex14 ex15
      have hlt : mkn π (oo π D) C < sz π := by rw [← hC]; exact hlz
      refine ⟨⟨by omega, by omega⟩, ?_⟩
      rw [tn_c]
      intro h17 e17
      refine fin h17 (hb_i hb1 e17) (fr_i fr_0 e17 (by omega)) (fun w => by rw [Hc.1] at w; omega) (fun _ => ⟨mm_i e17 (by omega), ?_, fun j hj => ?_⟩) (fun j hj => mm_i e17 (by omega))
      · rw [hC1, tn_c]; exact mv_i e17
      · rw [hC1, tn_c] at hj; exact mm_i e17 (by omega)
  · have n91 : ¬ π 1 (oo π D) = 91 := fun w => c2 (hK5.mpr w)
    exact k132 0 125 (Or.inr ⟨rfl, by omega, rfl⟩) (fun w => absurd w n91)
