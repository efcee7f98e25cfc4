/-! ===== the WALK, reference: where a stretch ends ===== -/
theorem W_end {G : cx_T} {s v p i y Y d m0 : Nat} {e : Bool} {a1 x3 : Int} {π α : pm_T} {h0 h : ah_T} {L : List fm_T} {sT sB uT uB : Int} {Q : Option av_T → ah_T → Prop} (hb1 : hb s h) (P : PW π) (hz : π 0 0 ≤ 2000) (R : RPm π h0) (MA : MKa π h0) (B : WBw π h0 v ((p, i, e, y, uT, uB) :: L) Y d sT sB α Y h) (hx : x3 = mkd (π 1 Y)) (E : walk π = fin π ((p, i, e, y, uT, uB) :: L) (wt π Y Y sT sB α)) (b : α 0 0 ≤ 2000 ∧ α 0 1 ≤ 300 ∧ α 0 2 ≤ 100) (hm : (2010 - α 0 0).toNat * 3000 + (2001 - Y) ≤ m0) :
    (x3 = 3 ∨ x3 = 4 ∨ x3 = 6) ∧ B_MD_walk_133 G s a1 (v : Int) (Y : Int) x3 h Q (fun v2 v3 v4 h => IVt π h0 v v2 v3 v4 h ∧ mea v3 h < m0) := by
  obtain ⟨f0, -, W, C, c70, cS, M⟩ := B
  have wl := FWp_le _ _ _ _ _ W
  have ws := FWp_s P _ _ _ _ _ W
  obtain ⟨⟨hpY, hYy⟩, W0, W1, W2⟩ := W
  have wl2 := FWp_le _ _ _ _ _ W2
  have ws2 := FWp_s P _ _ _ _ _ W2
  have bu := bq_u d (by omega)
  have bu2 := bq_u (d + 1) (by simp at wl; omega)
  have hz2 : sz π ≤ 2000 := by unfold sz; omega
  have hYz : Y < sz π := wl.2.1 (by simp)
  have hpz : p < sz π := by omega
  have hpz' : (p : Int) < π 0 0 := by unfold sz at hpz; have := P.1.1; omega
  have gP : ∀ a j, 201 ≤ a → a ≤ 216 → h.2.1 a j = h0.2.1 a j := fun a j q1 q2 => fr_g f0 (by omega)
  obtain ⟨ow, HA⟩ := MKa_f MA (h' := h) (fun a j q1 q2 => gP a j (by omega) (by omega))
  have hnt := nTw_l L
  have hlen : L.length ≤ 6 := by simp at wl; omega
  rw [wt_nil] at E
  by_cases ci : i = 0
  · -- a {
    subst ci
    obtain ⟨k123, eY, k125, eT, eB, r2⟩ := W0 rfl
    have x6 : x3 = 6 := by rw [hx, k125]; rfl
    subst x6
    refine ⟨Or.inr (Or.inr rfl), ?_⟩
    obtain ⟨q1, q2, q3, q4⟩ := (HA p hpz).2 k123
    obtain ⟨m2, m3⟩ := (R.2.2.2 p hpz').2.2 k123
    obtain ⟨v2, v3⟩ := (P.2.2 p hpz').2.2 k123
    obtain ⟨t1, t2⟩ := rdT_b (a := sT) (b := sB) ws.1.1 ws.2.1
    obtain ⟨u1, u2⟩ := rdB_b (a := sT) (b := sB) ws.1.1 ws.2.1
    unfold B_MD_walk_133
    refine ⟨fun w => absurd w (by decide), fun _ => ⟨fun w => absurd w (by decide), fun _ => ⟨fun w => absurd w (by decide), fun _ => ⟨fun w => absurd w (by decide), fun _ => ⟨fun _ => ?_, fun w => absurd rfl w⟩⟩⟩⟩⟩
    refine con_mono (t_MD_opening (x := (p : Int)) hb1 (by omega) (by rw [eY]; exact q4)) ?_
    rintro r' h33 ⟨hb33, rfl, rfl⟩
    refine ⟨_, rfl, hb33, ⟨by omega, by omega⟩, ?_⟩
    rw [tn_c]
    intro x37 e37 _ _ x40 e40 _ _
    have ex37 : x37 = π 2 p := by rw [e37, gP _ _ (by decide) (by decide)]; exact m2
    have ex40 : x40 = π 3 p := by rw [e40, gP _ _ (by decide) (by decide)]; exact m3
    subst ex37 ex40
    refine con_mono (t_MD_scale hb33 v2 v3 (by rw [cS.1]; omega) (by rw [cS.2]; omega)) ?_
    rintro r' h41 ⟨rfl, hb41, f41, g1, g2, g3⟩
    refine ⟨rfl, hb41, ⟨by omega, by omega⟩, ?_⟩
    rw [cS.1, cS.2, eT, eB] at g1 g2
    have rr := rd_back (x := uT) (y := uB) (a := π 3 p) (b := π 2 p) ws2.1.1 v3.1 v2.1
    have i41 : ∀ a j, h41.2.1 a j = h33.2.1 a j := fun a j => by rw [g3]
    refine wk_next (k := Y + 1) (L := L) (Y := y) (d := d + 1) (sT := uT) (sB := uB) (α := α) ⟨fr_t f0 f41 (fun a j w => Or.inl ⟨w.1, by omega, by omega⟩), r2, W2, CFh_c L C.2 (fun a j _ _ _ => i41 a j) (fun j => i41 _ j), by rw [i41]; exact c70, ⟨by rw [g1, rr.1], by rw [g2, rr.2]⟩, WMh_f M f41 (fun a j w => by omega)⟩ ?_ ⟨by omega, by omega, by omega⟩ (by omega)
    rw [E, fin_0, eY]
  obtain ⟨j, rfl⟩ : ∃ j, i = j + 1 := ⟨i - 1, by omega⟩
  obtain ⟨k91, eT, eB, ⟨c, r1, r2, hch⟩, he0, he1, hi2⟩ := W1 (by omega)
  obtain ⟨⟨c217, c218, c219, c220, cile⟩, C2⟩ : (_ ∧ _) := ⟨C.1 (by omega), C.2⟩
  obtain ⟨o1, o2, R1, oc⟩ := RG_1 r1
  have l1 := (RG_le r1).2 rfl
  have l2 := (RG_le r2).1
  have hcl : cl π p = c := cls_ok r1 rfl 5000 (by omega)
  obtain ⟨Cn, Hc, y1, y2, y3, y4⟩ := (HA p hpz).1 k91
  have hCn := MKc_n Hc Cn (Nat.le_refl _)
  have hC0 : Cn = 0 ↔ ¬ π 1 (lk π p) = 58 := by
    constructor
    · intro w w2; subst w
      have : π 1 (lk π p) = 93 := y3
      omega
    · intro w
      refine Classical.byContradiction fun q => ?_
      exact w (Hc.2.1 0 (by omega)).2.2.1
  have ht70 : h.2.1 170 70 = (nTw L : Int) + 1 := by
    rw [c70]
    show ((if j + 1 = 0 then nTw L else nTw L + 1 : Nat) : Int) = _
    rw [if_neg (by omega)]; omega
  have hM := M.1.1
  rw [fin_s, hcl] at E
  -- the [ ends
  have pop : ∀ h' : ah_T, hb s h' → fr (fun a k => (a = 220 ∧ k = nTw L) ∨ (a = 170 ∧ k = 70)) h h' → h'.2.1 170 70 = (nTw L : Int) → rst π p (j + 1) e uT uB α = α → B_MD_walk_491 G s a1 (v : Int) ((c : Int) + 1) h' Q (fun v2 v3 v4 h => IVt π h0 v v2 v3 v4 h ∧ mea v3 h < m0) := by
    intro h' _ f' g70 er
    rw [er] at E
    refine wk_next (k := c + 1) (L := L) (Y := y) (d := d + 1) (sT := uT) (sB := uB) (α := α) ⟨?_, r2, W2, CFh_c L C2 (fun a k q1 q2 q3 => fr_g f' (by omega)) (fun k => fr_g f' (by omega)), g70, ?_, WMh_f M f' (fun a k w => by omega)⟩ E ⟨by omega, by omega, by omega⟩ (by
      have : Y ≤ c := by
        rcases he : e with _ | _
        · have := he0 he; omega
        · obtain ⟨w58, w2⟩ := he1 he
          have := (RG_1 (hch w58).1).2.1
          have e2 : mkn π p (j + 1 + 1) = lk π (mkn π p (j + 1)) := rfl
          omega
      omega)
    · refine fr_t f0 f' (fun a k w => ?_)
      rcases w with ⟨w1, w2⟩ | ⟨w1, w2⟩
      · exact Or.inr (Or.inl ⟨by omega, by omega⟩)
      · exact Or.inl ⟨w1, by omega, by omega⟩
    · rw [fr_gl f' (by omega), fr_gl f' (by omega), ← eT, ← eB]; exact cS
  -- the next turn
  have trn : ∀ h' h1 : ah_T, hb s h' → fr (fun a k => (a = 218 ∨ a = 220) ∧ k = nTw L) h h1 → h' = st_i h1 170 71 (α 0 0 + 1) → h'.2.1 220 (nTw L) = 0 → h'.2.1 218 (nTw L) = ((j + 1 : Nat) : Int) + 1 → (π 1 (lk π p) = 58 → RG π false d (mkn π p (j + 1 + 1)) c ∧ π 1 (mkn π p (j + 1 + 1)) = 58 ∧ j + 1 + 1 ≤ Cn) → (¬ π 1 (lk π p) = 58 → j = 0) → rst π p (j + 1) e uT uB α = rst π p (j + 1 + 1) false uT uB (wt π (p + 1) (lk π p) uT uB (wk_st α)) → B_MD_walk_491 G s a1 (v : Int) ((p : Int) + 1) h' Q (fun v2 v3 v4 h => IVt π h0 v v2 v3 v4 h ∧ mea v3 h < m0) := by
    intro h' h1 _ f1 e' g220 g218 w58 w93 er
    rw [er] at E
    have f' : fr (fun a k => ((a = 218 ∨ a = 220) ∧ k = nTw L) ∨ (a = 170 ∧ k = 71)) h h' := fr_i (fr_w f1 (fun a k w => Or.inl w)) e' (Or.inr ⟨rfl, rfl⟩)
    have M1 : WMh π α v h1 := WMh_f M f1 (fun a k w => by omega)
    have M2 : WMh π (wk_st α) v h' := WMh_st M1 (by rw [fr_g f1 (by omega), hM]) e'
    have s0 := wk_st_0 (α := α)
    have s1 : wk_st α 0 1 = α 0 1 := wk_st_o (by omega)
    have s2 : wk_st α 0 2 = α 0 2 := wk_st_o (by omega)
    refine wk_next (k := p + 1) (L := (p, j + 1 + 1, false, y, uT, uB) :: L) (Y := lk π p) (d := d) (sT := sT) (sB := sB) (α := wk_st α) ⟨?_, R1, ⟨⟨o1, by omega⟩, fun w => absurd w (by omega), fun _ => ⟨k91, eT, eB, ⟨c, r1, r2, fun w => ⟨(w58 w).1, (w58 w).2.1⟩⟩, fun _ => rfl, fun w => absurd w (by decide), fun w => by have := w93 w; omega⟩, W2⟩, ⟨fun _ => ⟨?_, ?_, ?_, ?_, fun w => ?_⟩, CFh_c L C2 (fun a k q1 q2 q3 => fr_g f' (by omega)) (fun k => fr_g f' (by omega))⟩, ?_, ?_, M2⟩ ?_ ⟨by omega, by omega, by omega⟩ (by omega)
    · refine fr_t f0 f' (fun a k w => ?_)
      rcases w with ⟨w1, w2⟩ | ⟨w1, w2⟩
      · exact Or.inr (Or.inl ⟨by omega, by omega⟩)
      · exact Or.inl ⟨w1, by omega, by omega⟩
    · rw [fr_g f' (by omega)]; exact c217
    · rw [g218]; rfl
    · rw [fr_g f' (by omega), c219, fr_g f' (by omega)]
    · rw [g220]; rfl
    · rw [fr_g f' (by omega), Hc.1]; have := (w58 w).2.2; omega
    · rw [fr_g f' (by omega), ht70]
      show _ = ((if j + 1 + 1 = 0 then nTw L else nTw L + 1 : Nat) : Int)
      rw [if_neg (by omega)]; omega
    · rw [fr_gl f' (by omega), fr_gl f' (by omega)]; exact cS
    · rw [E, fin_s, hcl, eT, eB]
  have hp210 : h.2.1 210 p = (mkn π p (Cn + 1) : Int) := y4
  have turnC : con G 1 0 0 m_MD_turned [av_R (some 170), av_I (p : Int)] h _ := t_MD_turned (t := nTw L) (i := ((j + 1 : Nat) : Int)) (n := if π 1 (lk π p) = 58 then h.2.1 214 p else 2) (c := (mkn π p (Cn + 1) : Int)) (x := α 0 0) hb1 (by omega) ht70 (by omega) c218 c219 hp210 ⟨by omega, by omega⟩ hM ⟨by have := M.2.1; omega, by omega⟩ ⟨by omega, by
    by_cases w : π 1 (lk π p) = 58
    · have := cile w; rw [Hc.1] at this; omega
    · have := hi2 w; omega⟩
  have ex217 : ∀ x10 : Int, x10 = h.2.1 170 70 → (x10 - 1).toNat = nTw L ∧ x10 = (nTw L : Int) + 1 := fun x10 ex => by rw [ex, ht70]; exact ⟨by omega, rfl⟩
  -- without a mark : at Y
  by_cases k58 : π 1 (lk π p) = 58
  · have hCp : ¬ Cn = 0 := fun w => hC0.mp w k58
    obtain ⟨r5, k5⟩ := hch k58
    obtain ⟨o3, o4, R5, oc5⟩ := RG_1 r5
    have emk : mkn π p (j + 1 + 1) = lk π (mkn π p (j + 1)) := rfl
    have hjC : j + 1 ≤ Cn := by have := cile k58; rw [Hc.1] at this; omega
    have hpm : p < mkn π p (j + 1) := MKc_m Hc (j + 1) hjC 0 (by omega)
    have er0 : e = false → rst π p (j + 1) e uT uB α = wf π p (mkn π p (j + 1 + 1)) uT uB (wt π (mkn π p (j + 1) + 1) (mkn π p (j + 1 + 1)) uT uB α) := fun w => by unfold rst; rw [if_pos k58, w, if_neg (by decide)]
    have er1 : ∀ β, rst π p (j + 1) true uT uB β = wf π p (mkn π p (j + 1 + 1)) uT uB β := fun β => by unfold rst; rw [if_pos k58, if_pos rfl]
    rcases he : e with _ | _
    · -- behind the first stretch
      have eY := he0 he
      have x33 : x3 = 3 := by rw [hx, eY, k58]; rfl
      subst x33
      refine ⟨Or.inl rfl, ?_⟩
      rw [he] at c220
      unfold B_MD_walk_133 B_MD_walk_465 B_MD_walk_472
      refine ⟨fun w => absurd w (by decide), fun _ => ⟨fun w => absurd w (by decide), fun _ => ⟨fun w => absurd w (by decide), fun _ => ⟨fun w => absurd w (by decide), fun _ => ⟨fun w => absurd w (by decide), fun _ => ⟨fun _ x10 e10 _ _ => ?_, fun w => absurd rfl w⟩⟩⟩⟩⟩⟩
      obtain ⟨t1, t2⟩ := ex217 x10 e10
      rw [t1]
      refine ⟨⟨by omega, by omega⟩, ⟨by omega, by omega⟩, fun x12 e12 _ _ => ?_⟩
      have ex12 : x12 = (p : Int) := e12.trans c217
      subst ex12
      refine ⟨⟨by omega, by omega⟩, ?_⟩
      refine con_mono (t_MD_behindColon (i := 1) hb1 Hc hz2 hpz ⟨Nat.le_refl _, by omega⟩) ?_
      rintro r' h15 ⟨hb15, rfl, rfl⟩
      refine ⟨_, rfl, hb15, fun _ => ?_, fun w => absurd (by rw [eY]; rfl) w⟩
      refine con_mono (t_MD_isIn (t := nTw L) (x := 0) hb15 ht70 (by omega) c220 (Or.inl rfl)) ?_
      rintro r' h18 ⟨hb18, rfl, rfl⟩
      refine ⟨0, rfl, hb18, fun _ x22 e22 _ _ => ?_, fun w => absurd rfl w⟩
      obtain ⟨t3, t4⟩ := ex217 x22 e22
      rw [t3]
      refine ⟨⟨by omega, by omega⟩, ⟨by omega, by omega⟩, fun h25 e25 x29 e29 _ _ => ?_⟩
      have ex29 : x29 = ((j + 1 : Nat) : Int) := by rw [e29, mm_i e25 (by omega)]; exact c218
      subst ex29
      have f25 : fr (fun a k => a = 220 ∧ k = nTw L) h18 h25 := fr_i fr_0 e25 ⟨rfl, rfl⟩
      have Hc' : MKc π h25 ow p Cn := MKc_c Hc hpz (Nat.le_refl _) (fun _ _ => rfl) (fun _ _ => rfl) (fun _ _ => rfl) ⟨fr_g f25 (by omega), fr_g f25 (by omega), fr_g f25 (by omega)⟩ (fun i _ _ => fr_g f25 (by omega))
      refine con_mono (t_MD_behindColon (i := j + 1) (hb_i hb18 e25) Hc' hz2 hpz ⟨by omega, hjC⟩) ?_
      rintro r' h30 ⟨hb30, rfl, rfl⟩
      refine ⟨_, rfl, hb30, ?_⟩
      rw [er0 he] at E
      refine wk_next (k := mkn π p (j + 1) + 1) (L := (p, j + 1, true, y, uT, uB) :: L) (Y := mkn π p (j + 1 + 1)) (d := d) (sT := sT) (sB := sB) (α := α) ⟨?_, R5, ⟨⟨by omega, by omega⟩, fun w => absurd w (by omega), fun _ => ⟨k91, eT, eB, ⟨c, r1, r2, hch⟩, fun w => absurd w (by decide), fun _ => ⟨k58, rfl⟩, hi2⟩, W2⟩, ⟨fun _ => ⟨?_, ?_, ?_, ?_, fun w => ?_⟩, CFh_c L C2 (fun a k q1 q2 q3 => fr_g f25 (by omega)) (fun k => fr_g f25 (by omega))⟩, ?_, ?_, WMh_f M f25 (fun a k w => by omega)⟩ ?_ ⟨by omega, by omega, by omega⟩ (by
        have hm1 : lk π p ≤ mkn π p (j + 1) := by
          have e1 : mkn π p 1 = lk π p := rfl
          rcases Nat.eq_zero_or_pos j with w | w
          · subst w; exact Nat.le_of_eq e1.symm
          · have := MKc_m Hc (j + 1) hjC 1 (by omega); omega
        omega)
      · exact fr_t f0 f25 (fun a k w => Or.inr (Or.inl ⟨by omega, by omega⟩))
      · rw [fr_g f25 (by omega)]; exact c217
      · rw [fr_g f25 (by omega)]; exact c218
      · rw [fr_g f25 (by omega), c219, fr_g f25 (by omega)]
      · rw [mv_i e25]; rfl
      · rw [fr_g f25 (by omega)]; exact cile w
      · rw [fr_g f25 (by omega), c70]; rfl
      · rw [fr_gl f25 (by omega), fr_gl f25 (by omega)]; exact cS
      · rw [E, fin_s, hcl, er1, eT, eB]
    · -- behind a mark's stretch
      obtain ⟨-, eY⟩ := he1 he
      rw [he] at c220
      rw [he] at pop trn
      rcases oc5 with ⟨k93, ec⟩ | ⟨k58', r6⟩
      · -- the last one
        have x34 : x3 = 4 := by rw [hx, eY, emk, k93]; rfl
        subst x34
        have hCe : j + 1 = Cn := by
          rcases Nat.lt_or_ge (j + 1) Cn with w | w
          · have := (Hc.2.1 (j + 1) w).2.2.1
            rw [emk, k93] at this; cases this
          · omega
        refine ⟨Or.inr (Or.inl rfl), ?_⟩
        unfold B_MD_walk_133
        refine ⟨fun w => absurd w (by decide), fun _ => ⟨fun w => absurd w (by decide), fun _ => ⟨fun w => absurd w (by decide), fun _ => ⟨fun w => absurd w (by decide), fun _ => ⟨fun w => absurd w (by decide), fun _ => ⟨fun w => absurd w (by decide), fun _ x2 e2 _ _ => ?_⟩⟩⟩⟩⟩⟩
        obtain ⟨t1, t2⟩ := ex217 x2 e2
        rw [t1]
        refine ⟨⟨by omega, by omega⟩, ⟨by omega, by omega⟩, fun x4 e4 _ _ => ?_⟩
        have ex4 : x4 = (p : Int) := e4.trans c217
        subst ex4
        refine con_mono turnC ?_
        rintro r' h6 ⟨hb6, ⟨w1, rfl, f6, g70⟩ | ⟨w1, -⟩⟩
        · refine ⟨_, rfl, hb6, ?_⟩
          have : ((mkn π p (Cn + 1) : Nat) : Int) + 1 = (c : Int) + 1 := by rw [← hCe, emk, ec]
          rw [this]
          exact pop h6 hb6 f6 g70 (by rw [er1]; exact wf_e (by rw [emk, k93]; decide))
        · rw [if_pos k58, Hc.1] at w1; omega
      · have x33 : x3 = 3 := by rw [hx, eY, emk, k58']; rfl
        subst x33
        have hjC2 : j + 1 + 1 ≤ Cn := by
          rcases Nat.lt_or_ge (j + 1) Cn with w | w
          · omega
          · have : j + 1 = Cn := by omega
            rw [← this, emk, k58'] at y3; cases y3
        have hne : ¬ ((Y : Int) + 1 = (mkn π p 1 : Int) + 1) := by
          have := MKc_m Hc (j + 1 + 1) hjC2 1 (by omega)
          rw [eY]; omega
        refine ⟨Or.inl rfl, ?_⟩
        unfold B_MD_walk_133 B_MD_walk_465 B_MD_walk_472
        refine ⟨fun w => absurd w (by decide), fun _ => ⟨fun w => absurd w (by decide), fun _ => ⟨fun w => absurd w (by decide), fun _ => ⟨fun w => absurd w (by decide), fun _ => ⟨fun w => absurd w (by decide), fun _ => ⟨fun _ x10 e10 _ _ => ?_, fun w => absurd rfl w⟩⟩⟩⟩⟩⟩
        obtain ⟨t1, t2⟩ := ex217 x10 e10
        rw [t1]
        refine ⟨⟨by omega, by omega⟩, ⟨by omega, by omega⟩, fun x12 e12 _ _ => ?_⟩
        have ex12 : x12 = (p : Int) := e12.trans c217
        subst ex12
        refine ⟨⟨by omega, by omega⟩, ?_⟩
        refine con_mono (t_MD_behindColon (i := 1) hb1 Hc hz2 hpz ⟨Nat.le_refl _, by omega⟩) ?_
        rintro r' h15 ⟨hb15, rfl, rfl⟩
        refine ⟨_, rfl, hb15, fun w => absurd w hne, fun _ => ?_⟩
        refine con_mono turnC ?_
        rintro r' h6 ⟨hb6, ⟨w1, -⟩ | ⟨w1, rfl, f6, g220, g218, g71, h1, f1, e1⟩⟩
        · rw [if_pos k58, Hc.1] at w1; omega
        · refine ⟨_, rfl, hb6, trn h6 h1 hb6 f1 e1 g220 g218 (fun _ => ⟨by rw [emk]; exact r6, by rw [emk]; exact k58', hjC2⟩) (fun w => absurd k58 w) ?_⟩
          rw [er1, emk, wf_c o1 R1 k58' r6 (by omega) (by
            have e1 : mkn π p 1 = lk π p := rfl
            have := MKc_m Hc (j + 1 + 1) hjC2 1 (by omega)
            rw [emk] at this; omega)]
          unfold rst
          rw [if_pos k58, if_neg (by decide)]
          rfl
  · have hCz : Cn = 0 := hC0.mpr k58
    subst hCz
    have k93 : π 1 (lk π p) = 93 := y3
    have ec : c = lk π p := by rcases oc with ⟨-, q⟩ | ⟨q, -⟩; exact q; exact absurd q k58
    have ef : e = false := by
      rcases he : e with _ | _
      · rfl
      · exact absurd (he1 he).1 k58
    have eY := he0 ef
    have x34 : x3 = 4 := by rw [hx, eY, k93]; rfl
    subst x34
    refine ⟨Or.inr (Or.inl rfl), ?_⟩
    unfold B_MD_walk_133
    refine ⟨fun w => absurd w (by decide), fun _ => ⟨fun w => absurd w (by decide), fun _ => ⟨fun w => absurd w (by decide), fun _ => ⟨fun w => absurd w (by decide), fun _ => ⟨fun w => absurd w (by decide), fun _ => ⟨fun w => absurd w (by decide), fun _ x2 e2 _ _ => ?_⟩⟩⟩⟩⟩⟩
    obtain ⟨t1, t2⟩ := ex217 x2 e2
    rw [t1]
    refine ⟨⟨by omega, by omega⟩, ⟨by omega, by omega⟩, fun x4 e4 _ _ => ?_⟩
    have ex4 : x4 = (p : Int) := e4.trans c217
    subst ex4
    have hj2 := hi2 k58
    refine con_mono turnC ?_
    rintro r' h6 ⟨hb6, ⟨w1, rfl, f6, g70⟩ | ⟨w1, rfl, f6, g220, g218, g71, h1, f1, e1⟩⟩
    · rw [if_neg k58] at w1
      refine ⟨_, rfl, hb6, ?_⟩
      have : ((mkn π p (0 + 1) : Nat) : Int) + 1 = (c : Int) + 1 := by rw [ec]; rfl
      rw [this]
      exact pop h6 hb6 f6 g70 (by unfold rst; rw [if_neg k58, if_neg (by omega)])
    · rw [if_neg k58] at w1
      have hj0 : j = 0 := by omega
      subst hj0
      refine ⟨_, rfl, hb6, trn h6 h1 hb6 f1 e1 g220 g218 (fun w => absurd w k58) (fun _ => rfl) ?_⟩
      unfold rst
      rw [if_neg k58, if_neg k58, if_pos rfl, if_neg (by decide)]
