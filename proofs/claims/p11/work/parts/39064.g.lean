/-! ===== the WALK, reference, whole ===== -/
theorem t_MD_wrongn {G : cx_T} {s : Nat} {h : ah_T} {a1 a2 : Int} (hb0 : hb s h) (h0 : h.2.1 170 11 = 0) : con G 0 0 0 m_MD_wrong [av_R (some 170), av_I a1, av_I a2] h (fun r h' => ∃ z, r = some (av_I z) ∧ hb s h' ∧ fr (fun a k => a = 170 ∧ (k = 11 ∨ k = 12)) h h' ∧ z = 0 ∧ h'.2.1 170 11 = a1 ∧ h'.2.1 170 12 = a2) := by
  refine c_MD_wrong hb0 (fun _ _ => ?_)
  unfold B_MD_wrong_0 B_MD_wrong_17
  intro x1 e1 _ _
  exact ⟨fun _ h2 e2 h4 e4 => ⟨0, rfl, hb_i (hb_i hb0 e2) e4, fr_i (fr_i fr_0 e2 ⟨rfl, by decide⟩) e4 ⟨rfl, by decide⟩, rfl, by rw [mm_i e4 (by omega), mv_i e2], mv_i e4⟩, fun c => absurd (e1.trans h0) c⟩
/-- a voice's walk told by the reference's cells -/
def WTm (π : pm_T) (v : Nat) (h : ah_T) : Prop := (h.2.1 185 v = walk π 0 1 ∧ h.2.1 186 v = walk π 0 2 + 1) ∧ (0 ≤ walk π 0 1 ∧ walk π 0 1 ≤ 300 ∧ 0 ≤ walk π 0 2 ∧ walk π 0 2 ≤ 100) ∧ WMe π (walk π) v h ∧ h.2.2.1 199 (102 * v + ((walk π 0 2).toNat + 1)) = walk π 0 4 ∧ h.2.2.1 200 (102 * v + ((walk π 0 2).toNat + 1)) = walk π 0 5
abbrev WWf (v : Nat) : Nat → Nat → Prop := fun a k => WWm v a k ∨ (a = 170 ∧ (k = 11 ∨ k = 12)) ∨ ((a = 185 ∨ a = 186) ∧ k = v)
theorem t_MD_walk {G : cx_T} {s n v : Nat} {h : ah_T} {π : pm_T} {a1 : Int} (hb0 : hb s h) (hn : h.2.1 172 1 = (n : Int)) (hn3 : n ≤ 3) (ev : v = n + 4) (P : PW π) (hz : π 0 0 ≤ 2000) (R : RPm π h) (hG : RG π true 7 0 (sz π)) (M : MKm π h) (hd : dp π = 0) (h11 : h.2.1 170 11 = 0) :
    con G 4 0 0 m_MD_walk [av_R (some 170), av_I a1] h (fun r h' => ∃ z, r = some (av_I z) ∧ hb s h' ∧ fr (WWf v) h h' ∧ ((wkF π = 0 ∧ z = 1 ∧ h'.2.1 170 11 = 0 ∧ WTm π v h') ∨ (wkF π ≠ 0 ∧ z = 0 ∧ h'.2.1 170 11 = wkF π ∧ h'.2.1 170 12 = a1))) := by
  have hv : 4 ≤ v ∧ v ≤ 7 := by omega
  have MA := MKa_of M hd
  have p0 := P.1.1
  have hz2 : sz π ≤ 2000 := by unfold sz; omega
  have hszi : (sz π : Int) = π 0 0 := by unfold sz; omega
  -- the cells before the loop
  have start : ∀ h28 : ah_T, fr (WWm v) h h28 → h28.2.1 170 70 = 0 → h28.2.1 170 71 = 0 → h28.2.1 170 72 = 0 → h28.2.1 170 73 = 0 → h28.2.1 170 74 = 0 → (h28.2.2.1 170 75 = 0 ∧ h28.2.2.1 170 76 = 1) → (h28.2.2.1 170 77 = 1 ∧ h28.2.2.1 170 78 = 1) → (h28.2.2.1 199 (102 * v) = 0 ∧ h28.2.2.1 200 (102 * v) = 1) → IVt π h v (v : Int) 0 0 h28 := by
    intro h28 f c70 c71 c72 c73 c74 c75 c77 cb
    refine ⟨rfl, 0, rfl, ⟨[], sz π, 7, 1, 1, wk0, ⟨f, hG, ⟨rfl, rfl, rfl, rfl⟩, trivial, c70, c77, ⟨⟨c71, c72, c73, c74, Or.inl rfl⟩, ⟨by decide, by decide, by decide, by decide⟩, fun _ => ⟨c75, ⟨by decide, by decide, by decide, by decide⟩, fun e he => absurd he (by show ¬ (e : Int) < 0; omega), fun _ b hb => ?_⟩⟩⟩, walk_wt, by decide, by decide, by decide⟩, Or.inl ⟨rfl, by omega, by omega, by omega⟩⟩
    have hb' : (b : Int) ≤ 0 := hb
    have : b = 0 := by omega
    subst this
    exact ⟨⟨by decide, by decide⟩, cb.1, cb.2⟩
  -- behind the loop
  have fin530 : ∀ (v4 : Int) (hh : ah_T) (k : Nat), hb s hh → WIv π h v k hh → ((v4 = 0 ∧ sz π ≤ k ∧ hh.2.1 170 71 ≤ 2000 ∧ hh.2.1 170 72 ≤ 300 ∧ hh.2.1 170 73 ≤ 100) ∨ (v4 = 1 ∧ (2000 < hh.2.1 170 71 ∨ 300 < hh.2.1 170 72 ∨ 100 < hh.2.1 170 73))) → B_MD_walk_530 G s a1 (v : Int) v4 hh (fun r h' => ∃ z, r = some (av_I z) ∧ hb s h' ∧ fr (WWf v) h h' ∧ ((wkF π = 0 ∧ z = 1 ∧ h'.2.1 170 11 = 0 ∧ WTm π v h') ∨ (wkF π ≠ 0 ∧ z = 0 ∧ h'.2.1 170 11 = wkF π ∧ h'.2.1 170 12 = a1))) := by
    rintro v4 hh k hb1 ⟨L, Y, d, sT, sB, α, ⟨f, r, W, C, c70, cS, WM⟩, E, -⟩ hc
    obtain ⟨⟨c1, c2, c3, c4, c5⟩, bb, hW⟩ := WM
    have h11' : hh.2.1 170 11 = 0 := (fr_g f (by omega)).trans h11
    have fw : fr (WWf v) h hh := fr_w f (fun a k w => Or.inl w)
    unfold B_MD_walk_530
    rw [tn_c]
    rcases hc with ⟨rfl, hk, q1, q2, q3⟩ | ⟨rfl, q⟩
    · -- the end is come to
      have wl := FWp_le _ _ _ _ _ W
      have hkY := (RG_le r).1
      have hL : L = [] := Classical.byContradiction fun w => by have := wl.2.1 w; omega
      subst hL
      obtain ⟨eY, -⟩ := W
      have ek : k = Y := by omega
      subst ek
      rw [wt_nil] at E
      have Eα : walk π = α := E.trans (by rw [fin])
      have ewk : wkF π = if α 0 3 = 0 then 0 else 6 := by unfold wkF; rw [Eα, if_neg (by omega)]
      refine ⟨fun _ x1 e1 _ => ⟨fun c0 x3 e3 _ _ => ⟨⟨by omega, by omega⟩, fun h5 e5 x8 e8 _ _ => ⟨⟨?_, ?_⟩, fun h10 e10 => ⟨⟨by omega, by omega⟩, ⟨?_, ?_⟩, ⟨?_, ?_⟩, fun x17 e17 _ _ => ?_⟩⟩⟩, fun c0 => ?_⟩, fun w => absurd rfl w⟩
      all_goals try (have ex8 : x8 = α 0 2 := by rw [e8, mm_i e5 (by omega)]; exact c3)
      · omega
      · omega
      · omega
      · omega
      · omega
      · omega
      · obtain ⟨l, hl⟩ : ∃ l : Nat, α 0 2 = (l : Int) := ⟨(α 0 2).toNat, by omega⟩
        have ek : (102 * (v : Int) + x8 + 1).toNat = 102 * v + (l + 1) := by omega
        rw [ek]
        have f3 : α 0 3 = 0 := by rw [← c4, ← e1]; exact c0
        have w0 := hW ⟨f3, by omega⟩
        refine ⟨⟨by omega, by omega⟩, fun h19 e19 x23 e23 _ _ h24 e24 => ?_⟩
        have fh : fr (fun a j => ((a = 185 ∨ a = 186) ∧ j = v) ∨ ((a = 199 ∨ a = 200) ∧ j = 102 * v + (l + 1))) hh h24 := fr_l (fr_l (fr_i (fr_i fr_0 e5 (Or.inl ⟨Or.inl rfl, rfl⟩)) e10 (Or.inl ⟨Or.inr rfl, rfl⟩)) e19 (Or.inr ⟨Or.inl rfl, rfl⟩)) e24 (Or.inr ⟨Or.inr rfl, rfl⟩)
        refine ⟨1, rfl, hb_l (hb_l (hb_i (hb_i hb1 e5) e10) e19) e24, fr_t fw fh (fun a j w => ?_), Or.inl ⟨by rw [ewk, if_pos f3], rfl, by rw [fr_g fh (by omega)]; exact h11', ⟨⟨?_, ?_⟩, ?_, ?_, ?_, ?_⟩⟩⟩
        · rcases w with w | ⟨w1, w2⟩
          · exact Or.inr (Or.inr w)
          · exact Or.inl (Or.inr (Or.inr (Or.inr (Or.inr ⟨w1, by omega, by omega⟩))))
        · rw [Eα, mm_lo e24, mm_lo e19, mm_i e10 (by omega), mv_i e5, e3, c2]
        · rw [Eα, mm_lo e24, mm_lo e19, mv_i e10, ex8]
        · rw [Eα]; omega
        · rw [Eα]
          exact WMe_c w0 (fun _ _ _ => rfl) (fun a j h1 h2 => ⟨fr_g fh (by omega), fr_gl fh (by omega)⟩) (fun b hb => ⟨fr_gl fh (by omega), fr_gl fh (by omega)⟩) ⟨fr_gl fh (by omega), fr_gl fh (by omega)⟩
        · have : (α 0 2).toNat + 1 = l + 1 := by omega
          rw [Eα, this, mm_l e24 (by omega), mv_l e19, e17, mm_io e10, mm_io e5]; exact w0.1.1
        · have : (α 0 2).toNat + 1 = l + 1 := by omega
          rw [Eα, this, mv_l e24, e23, mm_l e19 (by omega), mm_io e10, mm_io e5]; exact w0.1.2
      · have f3 : ¬ α 0 3 = 0 := by rw [← c4, ← e1]; exact c0
        refine con_mono (t_MD_wrongn hb1 h11') ?_
        rintro r' h' ⟨z, rfl, hb2, f2, rfl, w1, w2⟩
        have e6 : wkF π = 6 := by rw [ewk, if_neg f3]
        exact ⟨0, rfl, hb2, Or.inl rfl, 0, rfl, hb2, fr_t fw f2 (fun a j w => Or.inr (Or.inl w)), Or.inr ⟨by rw [e6]; decide, rfl, by rw [w1, e6], w2⟩⟩
    · -- too much
      have m : ∀ c, (c = 0 ∨ c = 1 ∨ c = 2) → α 0 c ≤ walk π 0 c := fun c hc => by
        rw [E]
        refine Int.le_trans ?_ (fin_m hc L _)
        unfold wt
        exact wk_m hc 5000 true _ _ _ _ _
      have m0 := m 0 (Or.inl rfl)
      have m1 := m 1 (Or.inr (Or.inl rfl))
      have m2 := m 2 (Or.inr (Or.inr rfl))
      have e3 : wkF π = 3 := by unfold wkF; rw [if_pos (by omega)]
      refine ⟨fun w => absurd w (by decide), fun _ => ?_⟩
      refine con_mono (t_MD_wrongn hb1 h11') ?_
      rintro r' h' ⟨z, rfl, hb2, f2, rfl, w1, w2⟩
      exact ⟨0, rfl, hb2, Or.inl rfl, 0, rfl, hb2, fr_t fw f2 (fun a j w => Or.inr (Or.inl w)), Or.inr ⟨by rw [e3]; decide, rfl, by rw [w1, e3], w2⟩⟩
  refine c_MD_walk (X79 := IVt π h v) ?_ hb0 (fun _ => ?_)
  · refine lp_MD_walk_79 (a1 := a1) (IVt π h v) (fun _ v3 _ hh => mea v3 hh) ?_
    rintro v2 v3 v4 hh hb1 ⟨rfl, k, rfl, I, hc⟩
    obtain ⟨L, Y, d, sT, sB, α, B, E, b⟩ := id I
    have f := B.1
    have c43 : hh.2.1 170 43 = (sz π : Int) := by rw [fr_g f (by omega), R.1, hszi]
    have WM := B.2.2.2.2.2.2
    have hM := WM.1
    have hbb := WM.2.1
    unfold B_MD_walk_79
    intro x1 e1 _ _
    have ex1 : x1 = (sz π : Int) := e1.trans c43
    subst ex1
    refine ⟨fun c => fin530 v4 hh k hb1 I ?_, fun c => ⟨fun c4 => ⟨⟨by omega, by omega⟩, ?_⟩, fun c4 => fin530 v4 hh k hb1 I ?_⟩⟩
    · rcases hc with ⟨q, q1, q2, q3⟩ | q
      · exact Or.inl ⟨q, by omega, q1, q2, q3⟩
      · exact Or.inr q
    case refine_3 =>
      rcases hc with ⟨q, -⟩ | q
      · exact absurd q c4
      · exact Or.inr q
    have hc0 : α 0 0 ≤ 2000 ∧ α 0 1 ≤ 300 ∧ α 0 2 ≤ 100 := by
      rcases hc with ⟨-, q⟩ | ⟨q, -⟩
      · omega
      · omega
    have hb' : α 0 0 ≤ 2000 ∧ α 0 1 ≤ 300 ∧ α 0 2 ≤ 100 ∧ α 0 1 ≤ α 0 0 ∧ α 0 2 ≤ α 0 0 := by omega
    have hkz : k < sz π := by omega
    have hkz' : (k : Int) < π 0 0 := by omega
    have hmea : (2010 - α 0 0).toNat * 3000 + (2001 - k) ≤ mea (k : Int) hh := by
      unfold mea; rw [hM.1]
      have : (2001 - (k : Int)).toNat = 2001 - k := by omega
      rw [this]; exact Nat.le_refl _
    rw [tn_c]
    intro x3 e3 _ _
    have ex3 : x3 = mkd (π 1 k) := by rw [e3, fr_g f (by omega)]; exact (R.2.2.2 k hkz').1
    -- a step, then the part
    have k123 : ∀ x : Int, (∀ h3 : ah_T, hb s h3 → WBw π h v L Y d sT sB (wk_st α) k h3 → B_MD_walk_133 G s a1 (v : Int) (k : Int) x h3 (fun r h' => ∃ z, r = some (av_I z) ∧ hb s h' ∧ fr (WWf v) h h' ∧ ((wkF π = 0 ∧ z = 1 ∧ h'.2.1 170 11 = 0 ∧ WTm π v h') ∨ (wkF π ≠ 0 ∧ z = 0 ∧ h'.2.1 170 11 = wkF π ∧ h'.2.1 170 12 = a1))) (fun v2' v3' v4' h' => IVt π h v v2' v3' v4' h' ∧ mea v3' h' < mea (k : Int) hh)) → B_MD_walk_123 G s a1 (v : Int) (k : Int) x hh (fun r h' => ∃ z, r = some (av_I z) ∧ hb s h' ∧ fr (WWf v) h h' ∧ ((wkF π = 0 ∧ z = 1 ∧ h'.2.1 170 11 = 0 ∧ WTm π v h') ∨ (wkF π ≠ 0 ∧ z = 0 ∧ h'.2.1 170 11 = wkF π ∧ h'.2.1 170 12 = a1))) (fun v2' v3' v4' h' => IVt π h v v2' v3' v4' h' ∧ mea v3' h' < mea (k : Int) hh) := by
      intro x hx
      unfold B_MD_walk_123
      intro y1 ey _ _
      refine ⟨⟨by omega, by omega⟩, fun h3 e3 => hx h3 (hb_i hb1 e3) ?_⟩
      obtain ⟨-, r, W, C, c70, cS, -⟩ := B
      have f3 : fr (fun a j => a = 170 ∧ j = 71) hh h3 := fr_i fr_0 e3 ⟨rfl, rfl⟩
      exact ⟨fr_i f e3 (Or.inl ⟨rfl, by decide, by decide⟩), r, W, CFh_c L C (fun a j _ _ _ => fr_g f3 (by omega)) (fun j => fr_g f3 (by omega)), by rw [fr_g f3 (by omega)]; exact c70, by rw [fr_gl f3 (by omega), fr_gl f3 (by omega)]; exact cS, WMh_st WM ey e3⟩
    have hkY := (RG_le B.2.1).1
    rcases Nat.lt_or_ge k Y with hlt | hge
    · rcases RG_t B.2.1 hlt with ⟨hk, r⟩ | ⟨hk, r⟩ | ⟨d', ed, hk, hl, r1, r2⟩ | ⟨d', cc, ed, hk, r1, r2⟩
      · have y0 : x3 = 0 := by rw [ex3, hk]; rfl
        subst y0
        exact ⟨fun _ => k123 0 (fun h3 hb3 B3 => W_ev hb3 hv P hz R hlt B3 r hk E hb' hmea), fun w => absurd rfl w⟩
      · have y0 : x3 = 1 := by rw [ex3, hk]; rfl
        subst y0
        exact ⟨fun w => absurd w (by decide), fun _ => ⟨fun _ => k123 1 (fun h3 hb3 B3 => W_ln hb3 hv P hz hlt B3 r hk E hb' hmea), fun w => absurd rfl w⟩⟩
      · have y0 : x3 = 5 := by rw [ex3, hk]; rfl
        subst y0
        obtain ⟨ow, HA⟩ := MA
        have kc := ((HA k hkz).2 hk).2.2.1
        exact ⟨fun w => absurd w (by decide), fun _ => ⟨fun w => absurd w (by decide), fun _ => ⟨fun w => absurd w (by decide), fun _ => ⟨fun _ => k123 5 (fun h3 hb3 B3 => W_st hb3 hv P hz R hlt B3 hk ed hl kc r1 r2 E hb' hmea), fun w => absurd rfl w⟩⟩⟩⟩
      · have y0 : x3 = 2 := by rw [ex3, hk]; rfl
        subst y0
        exact ⟨fun w => absurd w (by decide), fun _ => ⟨fun w => absurd w (by decide), fun _ => ⟨fun _ => k123 2 (fun h3 hb3 B3 => W_rp hb3 hv P hz MA hlt B3 hk ed r1 r2 E hb' hmea), fun w => absurd rfl w⟩⟩⟩
    · have ek : k = Y := by omega
      subst ek
      cases L with
      | nil => have := B.2.2.1.1; omega
      | cons fr0 L' =>
        obtain ⟨p, i, e, y, uT, uB⟩ := fr0
        obtain ⟨q, q2⟩ := W_end (G := G) (a1 := a1) (m0 := mea (k : Int) hh) (Q := fun r h' => ∃ z, r = some (av_I z) ∧ hb s h' ∧ fr (WWf v) h h' ∧ ((wkF π = 0 ∧ z = 1 ∧ h'.2.1 170 11 = 0 ∧ WTm π v h') ∨ (wkF π ≠ 0 ∧ z = 0 ∧ h'.2.1 170 11 = wkF π ∧ h'.2.1 170 12 = a1))) hb1 P hz R MA B ex3 E hc0 hmea
        exact ⟨fun w => by omega, fun _ => ⟨fun w => by omega, fun _ => ⟨fun w => by omega, fun _ => ⟨fun w => by omega, fun _ => q2⟩⟩⟩⟩
  · unfold B_MD_walk_0
    intro x2 e2 _ _
    have ex2 : x2 = (n : Int) := e2.trans hn
    subst ex2
    refine ⟨⟨by omega, by omega⟩, fun h4 e4 h6 e6 h8 e8 h10 e10 h12 e12 h14 e14 h16 e16 h18 e18 h20 e20 => ⟨⟨by omega, by omega⟩, ⟨by omega, by omega⟩, ?_⟩⟩
    have ek : (102 * (n : Int) + 408).toNat = 102 * v := by omega
    rw [ek]
    intro h25 e25 h28 e28
    have evi : (n : Int) + 4 = (v : Int) := by omega
    rw [evi]
    have l20 : ∀ j, h20.2.1 170 j = h12.2.1 170 j := fun j => by rw [mm_lo e20, mm_lo e18, mm_lo e16, mm_lo e14]
    have l28 : ∀ j, h28.2.1 170 j = h12.2.1 170 j := fun j => by rw [mm_lo e28, mm_lo e25]; exact l20 j
    refine start h28 ?_ ?_ ?_ ?_ ?_ ?_ ⟨?_, ?_⟩ ⟨?_, ?_⟩ ⟨?_, ?_⟩
    · have w70 : ∀ j, 65 ≤ j → j ≤ 78 → WWm v 170 j := fun j a b => Or.inl ⟨rfl, a, b⟩
      have w19 : ∀ a, a = 199 ∨ a = 200 → WWm v a (102 * v) := fun a w => Or.inr (Or.inr (Or.inr (Or.inr ⟨w, Nat.le_refl _, by omega⟩)))
      exact fr_l (fr_l (fr_l (fr_l (fr_l (fr_l (fr_i (fr_i (fr_i (fr_i (fr_i fr_0 e4 (w70 _ (by decide) (by decide))) e6 (w70 _ (by decide) (by decide))) e8 (w70 _ (by decide) (by decide))) e10 (w70 _ (by decide) (by decide))) e12 (w70 _ (by decide) (by decide))) e14 (w70 _ (by decide) (by decide))) e16 (w70 _ (by decide) (by decide))) e18 (w70 _ (by decide) (by decide))) e20 (w70 _ (by decide) (by decide))) e25 (w19 _ (Or.inl rfl))) e28 (w19 _ (Or.inr rfl))
    · rw [l28, mm_i e12 (by omega), mm_i e10 (by omega), mm_i e8 (by omega), mm_i e6 (by omega), mv_i e4]
    · rw [l28, mm_i e12 (by omega), mm_i e10 (by omega), mm_i e8 (by omega), mv_i e6]
    · rw [l28, mm_i e12 (by omega), mm_i e10 (by omega), mv_i e8]
    · rw [l28, mm_i e12 (by omega), mv_i e10]
    · rw [l28, mv_i e12]
    · rw [mm_l e28 (by omega), mm_l e25 (by omega), mm_l e20 (by omega), mm_l e18 (by omega), mm_l e16 (by omega), mv_l e14]
    · rw [mm_l e28 (by omega), mm_l e25 (by omega), mm_l e20 (by omega), mm_l e18 (by omega), mv_l e16]
    · rw [mm_l e28 (by omega), mm_l e25 (by omega), mm_l e20 (by omega), mv_l e18]
    · rw [mm_l e28 (by omega), mm_l e25 (by omega), mv_l e20]
    · rw [mm_l e28 (by omega), mv_l e25]
    · exact mv_l e28

/-! ===== the reference: a voice, whole ===== -/
def RVd (μ : pm_T) (R q e : Nat) (h : ah_T) : Prop := (h.2.1 191 q = μ (R + 4) e ∧ h.2.1 195 q = μ (R + 5) e ∧ h.2.1 196 q = μ (R + 6) e ∧ h.2.1 197 q = μ (R + 7) e ∧ h.2.1 198 q = μ (R + 8) e ∧ h.2.1 194 q = μ (R + 9) e) ∧ (h.2.2.1 187 q = μ (R + 0) e ∧ h.2.2.1 188 q = μ (R + 1) e ∧ h.2.2.1 189 q = μ (R + 2) e ∧ h.2.2.1 190 q = μ (R + 3) e) ∧ (0 ≤ μ (R + 4) e ∧ μ (R + 4) e ≤ 4) ∧
  ∀ p : Nat, (p : Int) < μ (R + 4) e → h.2.1 192 (4 * q + p) = μ (R + (10 + p)) e ∧ h.2.1 193 (4 * q + p) = μ (R + (20 + p)) e
/-- the START of an event, or the end of the voice -/
def smT (μ : pm_T) (n e : Nat) : Int := if (e : Int) < μ (10 + n) 0 then μ (100 + 40 * n + 0) e else μ (100 + 40 * n + 31) 0
def smB (μ : pm_T) (n e : Nat) : Int := if (e : Int) < μ (10 + n) 0 then μ (100 + 40 * n + 1) e else μ (100 + 40 * n + 31) 1
/-- voice n of the score's memory in the reference's voice w -/
def RVm (μ : pm_T) (n w : Nat) (h : ah_T) : Prop := (h.2.1 185 w = μ (10 + n) 0 ∧ h.2.1 186 w = μ (10 + n) 1) ∧ ((0 ≤ μ (10 + n) 0 ∧ μ (10 + n) 0 ≤ 300) ∧ 1 ≤ μ (10 + n) 1 ∧ μ (10 + n) 1 ≤ 101) ∧ (∀ e : Nat, (e : Int) < μ (10 + n) 0 → RVd μ (100 + 40 * n) (300 * w + e) e h) ∧
  (∀ b : Nat, (b : Int) < μ (10 + n) 1 → h.2.2.1 199 (102 * w + b) = smT μ n (μ (100 + 40 * n + 30) b).toNat ∧ h.2.2.1 200 (102 * w + b) = smB μ n (μ (100 + 40 * n + 30) b).toNat) ∧ h.2.2.1 199 (102 * w + (μ (10 + n) 1).toNat) = μ (100 + 40 * n + 31) 0 ∧ h.2.2.1 200 (102 * w + (μ (10 + n) 1).toNat) = μ (100 + 40 * n + 31) 1
theorem RVm_w {μ π : pm_T} {n v : Nat} {h : ah_T} (hn : n = (μ 0 7).toNat) (T : WTm π v h) (P : PW π) : RVm (addV μ π (walk π)) n v h := by
  obtain ⟨⟨c1, c2⟩, b, ⟨w1, w2, w3, w4⟩, e1, e2⟩ := T
  generalize walk π = α at *
  obtain ⟨n0, n1⟩ := addV_n (π := π) (α := α) hn
  have r : ∀ {w k : Nat}, w < 40 → addV μ π α (100 + 40 * n + w) k = _ := fun {w k} hw => addV_i (π := π) (α := α) (k := k) hn hw
  have r31 : ∀ k, addV μ π α (100 + 40 * n + 31) k = α 0 (4 + k) := fun k => (r (by decide)).trans rfl
  have r30 : ∀ k, addV μ π α (100 + 40 * n + 30) k = α 7 k := fun k => (r (by decide)).trans rfl
  have r0 : ∀ k, addV μ π α (100 + 40 * n + 0) k = α 3 k := fun k => (r (by decide)).trans rfl
  have r1 : ∀ k, addV μ π α (100 + 40 * n + 1) k = α 4 k := fun k => (r (by decide)).trans rfl
  have r2 : ∀ k, addV μ π α (100 + 40 * n + 2) k = α 5 k := fun k => (r (by decide)).trans rfl
  have r3 : ∀ k, addV μ π α (100 + 40 * n + 3) k = α 6 k := fun k => (r (by decide)).trans rfl
  have r4 : ∀ k, addV μ π α (100 + 40 * n + 4) k = π 5 (α 1 k).toNat := fun k => (r (by decide)).trans rfl
  have r5 : ∀ k, addV μ π α (100 + 40 * n + 5) k = π 4 (α 1 k).toNat := fun k => (r (by decide)).trans rfl
  have r6 : ∀ k, addV μ π α (100 + 40 * n + 6) k = α 2 k := fun k => (r (by decide)).trans rfl
  have r7 : ∀ k, addV μ π α (100 + 40 * n + 7) k = π 2 (α 1 k).toNat := fun k => (r (by decide)).trans rfl
  have r8 : ∀ k, addV μ π α (100 + 40 * n + 8) k = π 3 (α 1 k).toNat := fun k => (r (by decide)).trans rfl
  have r9 : ∀ k, addV μ π α (100 + 40 * n + 9) k = π 17 (α 1 k).toNat := fun k => (r (by decide)).trans rfl
  have rk : ∀ p k, p < 4 → addV μ π α (100 + 40 * n + (10 + p)) k = π (6 + p) (α 1 k).toNat ∧ addV μ π α (100 + 40 * n + (20 + p)) k = π (10 + p) (α 1 k).toNat := by
    intro p k hp
    have : p = 0 ∨ p = 1 ∨ p = 2 ∨ p = 3 := by omega
    rcases this with rfl | rfl | rfl | rfl <;> exact ⟨(r (by decide)).trans rfl, (r (by decide)).trans rfl⟩
  refine ⟨⟨by rw [n0]; exact c1, by rw [n1]; exact c2⟩, ⟨by rw [n0]; omega, by rw [n1]; omega⟩, fun e he => ?_, fun x hx => ?_, ?_, ?_⟩
  · rw [n0] at he
    obtain ⟨y1, y2, y3, y4⟩ := w3 e he
    have V := (P.2.2 _ (by omega)).2.1 y1.2.2
    have V5 := V.2.2.2.1
    unfold RVd
    rw [r0, r1, r2, r3, r4, r5, r6, r7, r8, r9]
    refine ⟨⟨y2.1, y2.2.2.1, y2.2.2.2.1, y2.2.2.2.2.1, y2.2.2.2.2.2, y2.2.1⟩, y4, V5, fun p hp => ?_⟩
    rw [(rk p e (by omega)).1, (rk p e (by omega)).2]
    exact y3 p hp
  · rw [n1] at hx
    obtain ⟨-, z1, z2⟩ := w4 b.2.2.2 x (by omega)
    unfold smT smB
    rw [r30, n0, r0, r1, r31, r31]
    exact ⟨z1, z2⟩
  · rw [n1, r31]
    have : (α 0 2 + 1).toNat = (α 0 2).toNat + 1 := by omega
    rw [this]; exact e1
  · rw [n1, r31]
    have : (α 0 2 + 1).toNat = (α 0 2).toNat + 1 := by omega
    rw [this]; exact e2
/-- rows of voice w in the reference's cells -/
def vcel (w a k : Nat) : Prop := ((a = 185 ∨ a = 186) ∧ k = w) ∨ (((187 ≤ a ∧ a ≤ 191) ∨ (194 ≤ a ∧ a ≤ 198)) ∧ 300 * w ≤ k ∧ k < 300 * w + 300) ∨ ((a = 192 ∨ a = 193) ∧ 1200 * w ≤ k ∧ k < 1200 * w + 1200) ∨ ((a = 199 ∨ a = 200) ∧ 102 * w ≤ k ∧ k < 102 * w + 102)
theorem RVm_g {μ : pm_T} {n w : Nat} {h h' : ah_T} (H : RVm μ n w h) (g : ∀ a k, vcel w a k → h'.2.1 a k = h.2.1 a k ∧ h'.2.2.1 a k = h.2.2.1 a k) : RVm μ n w h' := by
  obtain ⟨h1, h2, h3, h4, h5⟩ := H
  have gc : ∀ a, a = 185 ∨ a = 186 → h'.2.1 a w = h.2.1 a w := fun a q => (g a w (Or.inl ⟨q, rfl⟩)).1
  have ge : ∀ a e, e < 300 → ((187 ≤ a ∧ a ≤ 191) ∨ (194 ≤ a ∧ a ≤ 198)) → h'.2.1 a (300 * w + e) = h.2.1 a (300 * w + e) ∧ h'.2.2.1 a (300 * w + e) = h.2.2.1 a (300 * w + e) := fun a e he q => g a _ (Or.inr (Or.inl ⟨q, by omega, by omega⟩))
  have gk : ∀ a e p, e < 300 → p < 4 → (a = 192 ∨ a = 193) → h'.2.1 a (4 * (300 * w + e) + p) = h.2.1 a (4 * (300 * w + e) + p) := fun a e p he hp q => (g a _ (Or.inr (Or.inr (Or.inl ⟨q, by omega, by omega⟩)))).1
  have gb : ∀ a b, b < 102 → (a = 199 ∨ a = 200) → h'.2.2.1 a (102 * w + b) = h.2.2.1 a (102 * w + b) := fun a b hb q => (g a _ (Or.inr (Or.inr (Or.inr ⟨q, by omega, by omega⟩)))).2
  refine ⟨by rw [gc _ (Or.inl rfl), gc _ (Or.inr rfl)]; exact h1, h2, fun e he => ?_, fun b hb => ?_, ?_, ?_⟩
  · obtain ⟨y1, y2, y3, y4⟩ := h3 e he
    have he3 : e < 300 := by omega
    unfold RVd
    rw [(ge 191 e he3 (by omega)).1, (ge 195 e he3 (by omega)).1, (ge 196 e he3 (by omega)).1, (ge 197 e he3 (by omega)).1, (ge 198 e he3 (by omega)).1, (ge 194 e he3 (by omega)).1, (ge 187 e he3 (by omega)).2, (ge 188 e he3 (by omega)).2, (ge 189 e he3 (by omega)).2, (ge 190 e he3 (by omega)).2]
    refine ⟨y1, y2, y3, fun p hp => ?_⟩
    rw [gk 192 e p he3 (by omega) (Or.inl rfl), gk 193 e p he3 (by omega) (Or.inr rfl)]
    exact y4 p hp
  · rw [gb _ b (by omega) (Or.inl rfl), gb _ b (by omega) (Or.inr rfl)]; exact h4 b hb
  · rw [gb _ _ (by omega) (Or.inl rfl)]; exact h5.1
  · rw [gb _ _ (by omega) (Or.inr rfl)]; exact h5.2
theorem RVm_m {μ μ' : pm_T} {n w : Nat} {h : ah_T} (H : RVm μ n w h) (e : ∀ a k, vrow n a → μ' a k = μ a k) : RVm μ' n w h := by
  have e1 : ∀ k, μ' (10 + n) k = μ (10 + n) k := fun k => e _ k (Or.inl rfl)
  have e2 : ∀ w k, w < 40 → μ' (100 + 40 * n + w) k = μ (100 + 40 * n + w) k := fun w k hw => e _ k (Or.inr ⟨by omega, by omega⟩)
  obtain ⟨h1, h2, h3, h4, h5⟩ := H
  unfold RVm smT smB
  rw [e1, e1, e2 31 _ (by decide), e2 31 _ (by decide)]
  refine ⟨h1, h2, fun k hk => ?_, fun b hb => ?_, h5⟩
  · obtain ⟨y1, y2, y3, y4⟩ := h3 k hk
    unfold RVd
    rw [e2 0 _ (by decide), e2 1 _ (by decide), e2 2 _ (by decide), e2 3 _ (by decide), e2 4 _ (by decide), e2 5 _ (by decide), e2 6 _ (by decide), e2 7 _ (by decide), e2 8 _ (by decide), e2 9 _ (by decide)]
    exact ⟨y1, y2, y3, fun p hp => by rw [e2 _ _ (by omega), e2 _ _ (by omega)]; exact y4 p hp⟩
  · rw [e2 30 _ (by decide), e2 0 _ (by decide), e2 1 _ (by decide)]
    exact h4 b hb
/-- the voices that are read -/
def RVw (μ : pm_T) (h : ah_T) : Prop := ∀ n : Nat, (n : Int) < μ 0 7 → RVm μ n (4 + n) h
theorem WWf_c {v w a k : Nat} (hvw : v ≠ w) (H : WWf v a k) : ¬ vcel w a k := by
  intro q
  rcases H with (⟨h1, h2, h3⟩ | ⟨h1, h2⟩ | ⟨h1, h2, h3⟩ | ⟨h1, h2, h3⟩ | ⟨h1, h2, h3⟩) | ⟨h1, h2⟩ | ⟨h1, h2⟩ <;> (rcases q with ⟨q1, q2⟩ | ⟨q1, q2, q3⟩ | ⟨q1, q2, q3⟩ | ⟨q1, q2, q3⟩ <;> omega)
theorem WWf_J {v : Nat} (hv : 4 ≤ v) : ∀ a k, WWf v a k → WJb a k := by
  intro a k H
  rcases H with (⟨h1, h2, h3⟩ | ⟨h1, h2⟩ | ⟨h1, h2, h3⟩ | ⟨h1, h2, h3⟩ | ⟨h1, h2, h3⟩) | ⟨h1, h2⟩ | ⟨h1, h2⟩
  · exact Or.inl (Or.inl ⟨h1, Or.inr ⟨by omega, by omega, by omega⟩⟩)
  · exact Or.inr (Or.inr (Or.inr (Or.inr (Or.inr ⟨by omega, by omega⟩))))
  · exact Or.inr (Or.inr (Or.inl ⟨by omega, by omega⟩))
  · exact Or.inr (Or.inr (Or.inr (Or.inl ⟨by omega, by omega⟩)))
  · exact Or.inr (Or.inr (Or.inr (Or.inr (Or.inl ⟨by omega, by omega⟩))))
  · exact Or.inl (Or.inl ⟨h1, Or.inl ⟨by omega, by omega⟩⟩)
  · exact Or.inr (Or.inl ⟨by omega, by omega⟩)
theorem RSn_v {μ π α : pm_T} {h : ah_T} (H : RSn (up2 μ 0 7 (μ 0 7 + 1)) h) : RSn (addV μ π α) h := by
  have e : ∀ a k, a ≤ 9 → addV μ π α a k = up2 μ 0 7 (μ 0 7 + 1) a k := fun a k ha => by
    by_cases c : a = 0 ∧ k = 7
    · obtain ⟨rfl, rfl⟩ := c; rw [addV_7, up2_at]
    · rw [addV_o ha c, up2_o c]
  unfold RSn
  simp only [e _ _ (show (0:Nat) ≤ 9 by decide), e _ _ (show (1:Nat) ≤ 9 by decide), e _ _ (show (2:Nat) ≤ 9 by decide), e _ _ (show (3:Nat) ≤ 9 by decide), e _ _ (show (4:Nat) ≤ 9 by decide), e _ _ (show (5:Nat) ≤ 9 by decide), e _ _ (show (6:Nat) ≤ 9 by decide)]
  exact H
theorem sp_part_0 {t : tk_T} {i : Nat} {π : pm_T} {q : Nat × pm_T} (P : PW π) (e : sp_part t i π = .inr q) : q.2 0 0 = π 0 0 + 1 := by
  have p0 := P.1.1
  unfold sp_part at e
  split at e
  · rename_i hm
    cases e
    have h1 : 0 < π 0 1 := by unfold mkb at hm; simp only [Bool.and_eq_true, decide_eq_true_eq] at hm; exact hm.1
    have hd := P.2.1 (dp π - 1) (by unfold dp; have := P.1.2.1; omega)
    unfold PD at hd
    exact (addM_v (π := π) (K := tK t i) (by unfold sz; omega)).1
  split at e
  · split at e
    · rw [sp_event_e] at e
      obtain ⟨a, ea, e⟩ := bnd_r e
      obtain ⟨n, -, e⟩ := bnd_r e
      obtain ⟨d, ed, e⟩ := bnd_r e
      have s0 := (sp_sound_ok ea).2
      unfold sp_tie at e
      split at e
      · split at e
        · cases e
        · cases e; show addE a.2 n d.2 1 0 0 = _; rw [addE_0.1, s0]
      · cases e; show addE a.2 n d.2 0 0 0 = _; rw [addE_0.1, s0]
    · cases e
  split at e
  · split at e
    · cases e; exact (addP_v (π := π) (c := 124) (x := 0) (y := 0)).1
    · cases e
  split at e
  · split at e
    · cases e; exact addO_0 (c := 91) (x := 0) (y := 0)
    · cases e
  split at e
  · split at e
    · unfold sp_times at e
      obtain ⟨a, -, e⟩ := bnd_r e
      obtain ⟨b, -, e⟩ := bnd_r e
      obtain ⟨c, -, e⟩ := bnd_r e
      obtain ⟨d, -, e⟩ := bnd_r e
      cases e; exact addO_0 (c := 123) (x := a) (y := c)
    · cases e
  · cases e
def PIm (X : tx_T) (R : F_T ⊕ (Nat × pm_T)) (z : Int) (h' : ah_T) : Prop := match R with
  | .inl q => z = 0 ∧ h'.2.1 170 11 = q.1 ∧ h'.2.1 170 12 = q.2
  | .inr q => z = 1 ∧ RMs X q.1 q.2 h' ∧ RH q.2 h' ∧ RVw q.2 h'
abbrev QIm (s : Nat) (X : tx_T) (R : F_T ⊕ (Nat × pm_T)) (h : ah_T) : Option av_T → ah_T → Prop := fun r h' => ∃ z, r = some (av_I z) ∧ hb s h' ∧ fr WJb h h' ∧ (z = 0 ∨ z = 1) ∧ PIm X R z h'
theorem RVw_V {μ : pm_T} {h h' : ah_T} {W : Nat → Nat → Prop} (H : RVw μ h) (f : fr W h h') (hW : ∀ a k, W a k → a ≤ 184 ∨ 201 ≤ a) : RVw μ h' := fun n hn =>
  RVm_g (H n hn) (fun a k q => by
    have : ¬ W a k := fun w => by have := hW a k w; unfold vcel at q; omega
    exact ⟨fr_g f this, fr_gl f this⟩)
