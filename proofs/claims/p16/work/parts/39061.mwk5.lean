/-! ===== the WALK, reference: its loop ===== -/
abbrev WWm (v : Nat) : Nat → Nat → Prop := fun a k => (a = 170 ∧ 65 ≤ k ∧ k ≤ 78) ∨ (217 ≤ a ∧ a ≤ 220) ∨ (((187 ≤ a ∧ a ≤ 191) ∨ (194 ≤ a ∧ a ≤ 198)) ∧ 300 * v ≤ k ∧ k < 300 * v + 300) ∨ ((a = 192 ∨ a = 193) ∧ 1200 * v ≤ k ∧ k < 1200 * v + 1200) ∨ ((a = 199 ∨ a = 200) ∧ 102 * v ≤ k ∧ k < 102 * v + 102)
/-- the state between two turns -/
def WBw (π : pm_T) (h0 : ah_T) (v : Nat) (L : List fm_T) (Y d : Nat) (sT sB : Int) (α : pm_T) (k : Nat) (h : ah_T) : Prop := fr (WWm v) h0 h ∧ RG π true d k Y ∧ FWp π L Y d sT sB ∧ CFh π h L ∧ h.2.1 170 70 = (nTw L : Int) ∧ (h.2.2.1 170 77 = rdT sT sB ∧ h.2.2.1 170 78 = rdB sT sB) ∧ WMh π α v h
def WIv (π : pm_T) (h0 : ah_T) (v k : Nat) (h : ah_T) : Prop := ∃ (L : List fm_T) (Y d : Nat) (sT sB : Int) (α : pm_T), WBw π h0 v L Y d sT sB α k h ∧ walk π = fin π L (wt π k Y sT sB α) ∧ α 0 0 ≤ 2003 ∧ α 0 1 ≤ 301 ∧ α 0 2 ≤ 101
def IVt (π : pm_T) (h0 : ah_T) (v : Nat) (v2 v3 v4 : Int) (h : ah_T) : Prop := v2 = (v : Int) ∧ ∃ k : Nat, v3 = (k : Int) ∧ WIv π h0 v k h ∧ ((v4 = 0 ∧ h.2.1 170 71 ≤ 2000 ∧ h.2.1 170 72 ≤ 300 ∧ h.2.1 170 73 ≤ 100) ∨ (v4 = 1 ∧ (2000 < h.2.1 170 71 ∨ 300 < h.2.1 170 72 ∨ 100 < h.2.1 170 73)))
def mea (v3 : Int) (h : ah_T) : Nat := (2010 - h.2.1 170 71).toNat * 3000 + (2001 - v3).toNat
theorem wk_next {G : cx_T} {s v k Y d m0 : Nat} {a1 : Int} {π α : pm_T} {h0 h' : ah_T} {L : List fm_T} {sT sB : Int} {Q : Option av_T → ah_T → Prop} (B : WBw π h0 v L Y d sT sB α k h') (E : walk π = fin π L (wt π k Y sT sB α)) (b : α 0 0 ≤ 2003 ∧ α 0 1 ≤ 301 ∧ α 0 2 ≤ 101) (hm : (2010 - α 0 0).toNat * 3000 + (2001 - k) < m0) :
    B_MD_walk_491 G s a1 (v : Int) (k : Int) h' Q (fun v2 v3 v4 h => IVt π h0 v v2 v3 v4 h ∧ mea v3 h < m0) := by
  have M := B.2.2.2.2.2.2
  obtain ⟨c1, c2, c3, -, -⟩ := M.1
  have I : WIv π h0 v k h' := ⟨L, Y, d, sT, sB, α, B, E, b⟩
  have hmm : mea (k : Int) h' < m0 := by
    unfold mea; rw [c1]
    have : (2001 - (k : Int)).toNat = 2001 - k := by omega
    rw [this]; exact hm
  unfold B_MD_walk_491 B_MD_walk_520 B_MD_walk_525
  intro x1 e1 _ _
  refine ⟨fun c => ⟨⟨rfl, k, rfl, I, Or.inr ⟨rfl, Or.inr (Or.inl (by omega))⟩⟩, hmm⟩, fun c x2 e2 _ _ => ⟨fun d => ⟨⟨rfl, k, rfl, I, Or.inr ⟨rfl, Or.inr (Or.inr (by omega))⟩⟩, hmm⟩, fun d x3 e3 _ _ => ⟨fun f => ⟨⟨rfl, k, rfl, I, Or.inl ⟨rfl, by omega, by omega, by omega⟩⟩, hmm⟩, fun f => ⟨⟨rfl, k, rfl, I, Or.inr ⟨rfl, Or.inl (by omega)⟩⟩, hmm⟩⟩⟩⟩
/-- an event -/
theorem W_ev {G : cx_T} {s v k Y d m0 : Nat} {a1 : Int} {π α : pm_T} {h0 h : ah_T} {L : List fm_T} {sT sB : Int} {Q : Option av_T → ah_T → Prop} (hb1 : hb s h) (hv : 4 ≤ v ∧ v ≤ 7) (P : PW π) (hz : π 0 0 ≤ 2000) (R : RPm π h0) (hk : k < Y) (B : WBw π h0 v L Y d sT sB (wk_st α) k h) (r : RG π true d (k + 1) Y) (k256 : π 1 k = 256) (E : walk π = fin π L (wt π k Y sT sB α)) (b : α 0 0 ≤ 2000 ∧ α 0 1 ≤ 300 ∧ α 0 2 ≤ 100 ∧ α 0 1 ≤ α 0 0 ∧ α 0 2 ≤ α 0 0) (hm : (2010 - α 0 0).toNat * 3000 + (2001 - k) ≤ m0) :
    B_MD_walk_133 G s a1 (v : Int) (k : Int) 0 h Q (fun v2 v3 v4 h => IVt π h0 v v2 v3 v4 h ∧ mea v3 h < m0) := by
  obtain ⟨f0, -, W, C, c70, cS, M⟩ := B
  obtain ⟨wl, -, wd⟩ := FWp_le _ _ _ _ _ W
  have ws := FWp_s P _ _ _ _ _ W
  have bu := bq_u d (by omega)
  have hkz : (k : Int) < π 0 0 := by unfold sz at wl; have := P.1.1; omega
  have ev := wt_ev (sT := sT) (sB := sB) (α := α) k256 r (by unfold sz at wl; omega)
  rw [ev] at E
  have s0 := wk_st_0 (α := α)
  have s1 : wk_st α 0 1 = α 0 1 := wk_st_o (by omega)
  have s2 : wk_st α 0 2 = α 0 2 := wk_st_o (by omega)
  have e0 := wk_ev_0 (π := π) (j := k) (sT := sT) (sB := sB) (α := wk_st α)
  generalize wk_st α = α1 at *
  obtain ⟨⟨c1, c2, c3, c4, c5⟩, bb, hW⟩ := id M
  have e12 : wk_ev π k sT sB α1 0 1 = α1 0 1 + 1 ∧ wk_ev π k sT sB α1 0 2 = α1 0 2 := by
    by_cases c : α1 0 3 = 0 ∧ α1 0 1 < 300
    · by_cases w : isFr (lT_ π k sT sB) (lB_ π k sT sB) = true
      · exact (wk_ev_f c w).2
      · obtain ⟨yo, y1, -⟩ := wk_ev_y (sT := sT) (sB := sB) c (e := (α1 0 1).toNat) (by omega) w
        exact ⟨y1, yo 0 2 (by omega) (by omega)⟩
    · rw [wk_ev_n c]; exact ⟨up2_at, up2_o (by omega)⟩
  have fin' : ∀ h' : ah_T, hb s h' → fr (WWm v) h0 h' → CFh π h' L → h'.2.1 170 70 = (nTw L : Int) → (h'.2.2.1 170 77 = rdT sT sB ∧ h'.2.2.1 170 78 = rdB sT sB) → WMh π (wk_ev π k sT sB α1) v h' → B_MD_walk_491 G s a1 (v : Int) ((k : Int) + 1) h' Q (fun v2 v3 v4 h => IVt π h0 v v2 v3 v4 h ∧ mea v3 h < m0) := by
    intro h' _ f C' c70' cS' M'
    exact wk_next (k := k + 1) ⟨f, r, W, C', c70', cS', M'⟩ E ⟨by rw [e0]; omega, by rw [e12.1]; omega, by rw [e12.2]; omega⟩ (by rw [e0]; omega)
  unfold B_MD_walk_133 B_MD_walk_154
  refine ⟨fun _ x93 e93 _ _ => ?_, fun w => absurd rfl w⟩
  have ex93 : x93 = α1 0 1 := e93.trans c2
  refine ⟨fun c x1 e1 _ _ => ⟨⟨by omega, by omega⟩, fun h3 e3 => ⟨⟨by omega, by omega⟩, ?_⟩⟩, fun c => ?_⟩
  · have ex1 : x1 = α1 0 1 := e1.trans c2
    have f3 : fr (fun a k => a = 170 ∧ k = 72) h h3 := fr_i fr_0 e3 ⟨rfl, rfl⟩
    exact fin' h3 (hb_i hb1 e3) (fr_i f0 e3 (Or.inl ⟨rfl, by decide, by decide⟩)) (CFh_c L C (fun a k q1 q2 _ => fr_g f3 (by omega)) (fun k => fr_g f3 (by omega))) (by rw [fr_g f3 (by omega)]; exact c70) (by rw [fr_gl f3 (by omega), fr_gl f3 (by omega)]; exact cS) (WMh_evn (q := 0) M (by omega) (by omega) (fr_w f3 (fun a k w => by omega)) (by rw [mv_i e3, ex1]) (by rw [fr_g f3 (by omega)]; exact c4))
  · obtain ⟨e, he⟩ : ∃ e : Nat, α1 0 1 = (e : Int) := ⟨(α1 0 1).toNat, by omega⟩
    have gP : ∀ a j, 201 ≤ a → a ≤ 216 → h.2.1 a j = h0.2.1 a j := fun a j q1 q2 => fr_g f0 (by omega)
    have Ek := (R.2.2.2 k hkz).2.1 k256
    have Pk := (P.2.2 k hkz).2.1 k256
    have Ek' : EMj π k h := ⟨by rw [gP _ _ (by decide) (by decide), gP _ _ (by decide) (by decide), gP _ _ (by decide) (by decide)]; exact Ek.1, ESm_c Ek.2 Pk.2.2.2.1.2 (fun _ _ => rfl) ⟨gP _ _ (by decide) (by decide), gP _ _ (by decide) (by decide)⟩ (fun _ _ _ => ⟨gP _ _ (by decide) (by decide), gP _ _ (by decide) (by decide)⟩)⟩
    obtain ⟨t1, t2⟩ := rdT_b (a := sT) (b := sB) ws.1.1 ws.2.1
    obtain ⟨u1, u2⟩ := rdB_b (a := sT) (b := sB) ws.1.1 ws.2.1
    refine con_mono (t_MD_event (π := π) (cT := rdT sT sB) (cB := rdB sT sB) (nT := α1 0 4) (nB := α1 0 5) (l := α1 0 2) (f := α1 0 3) hb1 hv (e := e) (by rw [c2, he]) (by omega) (by omega) Ek' Pk c3 c4 c5 ⟨cS.1, t1, by omega⟩ ⟨cS.2, u1, by omega⟩ (fun w => ?_)) ?_
    · obtain ⟨⟨w1, w2⟩, w3, -⟩ := hW ⟨w, by omega⟩
      exact ⟨w1, w2, w3.1, w3.2.1, w3.2.2.1, w3.2.2.2⟩
    rintro r' h94 ⟨lT, lB, rfl, hb94, f94, eT, eB, hp, g1, g2⟩
    refine ⟨rfl, hb94, fun x1 e1 _ _ => ⟨⟨by have := f94; rw [e1, fr_g f94 (by omega), c2] ; omega, by rw [e1, fr_g f94 (by omega), c2]; omega⟩, fun h3 e3 => ⟨⟨by omega, by omega⟩, ?_⟩⟩⟩
    have ex1 : x1 = α1 0 1 := by rw [e1, fr_g f94 (by omega), c2]
    rw [ex1] at e3
    have f3 : fr (fun a k => WEm (300 * v + e) a k ∨ (a = 170 ∧ k = 72)) h h3 := fr_i (fr_w f94 (fun a k w => Or.inl w)) e3 (Or.inr ⟨rfl, rfl⟩)
    have fW : fr (WWm v) h0 h3 := by
      refine fr_t f0 f3 (fun a k w => ?_)
      rcases w with (⟨w1, w2⟩ | ⟨w1, w2, w3⟩ | ⟨w1, w2⟩) | ⟨w1, w2⟩
      · exact Or.inr (Or.inr (Or.inl ⟨w1, by omega, by omega⟩))
      · exact Or.inr (Or.inr (Or.inr (Or.inl ⟨w1, by omega, by omega⟩)))
      · exact Or.inl ⟨w1, by omega, by omega⟩
      · exact Or.inl ⟨w1, by omega, by omega⟩
    have C3 := CFh_c L C (h' := h3) (fun a k q1 q2 _ => fr_g f3 (by omega)) (fun k => fr_g f3 (by omega))
    have k70 : h3.2.1 170 70 = (nTw L : Int) := by rw [fr_g f3 (by omega)]; exact c70
    have kS : h3.2.2.1 170 77 = rdT sT sB ∧ h3.2.2.1 170 78 = rdB sT sB := by rw [fr_gl f3 (by omega), fr_gl f3 (by omega)]; exact cS
    refine fin' h3 (hb_i hb94 e3) fW C3 k70 kS ?_
    by_cases c0 : α1 0 3 = 0
    · have EL : lT = lT_ π k sT sB := by
        rw [eT]; unfold lT_ lnT lnB
        rw [Int.mul_assoc (rdB sT sB)]
        rw [(rd_rd (x := sT) (y := sB) (a := 2 ^ ((π 3 k).toNat + 1) - 1) (b := π 2 k * 2 ^ (π 3 k).toNat) ws.1.1).1, Int.mul_assoc sB]
      have EB : lB = lB_ π k sT sB := by
        rw [eB]; unfold lB_ lnT lnB
        rw [Int.mul_assoc (rdB sT sB)]
        rw [(rd_rd (x := sT) (y := sB) (a := 2 ^ ((π 3 k).toNat + 1) - 1) (b := π 2 k * 2 ^ (π 3 k).toNat) ws.1.1).2, Int.mul_assoc sB]
      exact WMh_evy P M (by omega) ⟨c0, by omega⟩ ⟨hkz, k256⟩ he f94 EL EB hp (fun w => g1 (Or.inr w)) (fun w => g2 c0 w) e3
    · have c1' : α1 0 3 = 1 := by rcases c5 with w | w; exact absurd w c0; exact w
      exact WMh_evn (q := 0) M (by omega) (fun w => c0 w.1) (fr_w f3 (fun a k w => by omega)) (mv_i e3) (by rw [mm_i e3 (by omega), g1 (Or.inl c1'), c1'])
/-- a | -/
theorem W_ln {G : cx_T} {s v k Y d m0 : Nat} {a1 : Int} {π α : pm_T} {h0 h : ah_T} {L : List fm_T} {sT sB : Int} {Q : Option av_T → ah_T → Prop} (hb1 : hb s h) (hv : 4 ≤ v ∧ v ≤ 7) (P : PW π) (hz : π 0 0 ≤ 2000) (hk : k < Y) (B : WBw π h0 v L Y d sT sB (wk_st α) k h) (r : RG π true d (k + 1) Y) (k124 : π 1 k = 124) (E : walk π = fin π L (wt π k Y sT sB α)) (b : α 0 0 ≤ 2000 ∧ α 0 1 ≤ 300 ∧ α 0 2 ≤ 100 ∧ α 0 1 ≤ α 0 0 ∧ α 0 2 ≤ α 0 0) (hm : (2010 - α 0 0).toNat * 3000 + (2001 - k) ≤ m0) :
    B_MD_walk_133 G s a1 (v : Int) (k : Int) 1 h Q (fun v2 v3 v4 h => IVt π h0 v v2 v3 v4 h ∧ mea v3 h < m0) := by
  obtain ⟨f0, -, W, C, c70, cS, M⟩ := B
  obtain ⟨wl, -, wd⟩ := FWp_le _ _ _ _ _ W
  have hkz : (k : Int) < π 0 0 := by unfold sz at wl; have := P.1.1; omega
  have ev := wt_ln (sT := sT) (sB := sB) (α := α) k124 r (by unfold sz at wl; omega)
  rw [ev] at E
  have s0 := wk_st_0 (α := α)
  have s1 : wk_st α 0 1 = α 0 1 := wk_st_o (by omega)
  have s2 : wk_st α 0 2 = α 0 2 := wk_st_o (by omega)
  have e0 := wk_ln_0 (α := wk_st α)
  generalize wk_st α = α1 at *
  obtain ⟨⟨c1, c2, c3, c4, c5⟩, bb, hW⟩ := id M
  have e1' : wk_ln α1 0 1 = α1 0 1 := by
    unfold wk_ln; rw [up2_o (by omega)]; split
    · rw [up2_o (by omega)]
    · rfl
  have e2' : wk_ln α1 0 2 = α1 0 2 + 1 := by unfold wk_ln; rw [up2_at]
  obtain ⟨l, hl⟩ : ∃ l : Nat, α1 0 2 = (l : Int) := ⟨(α1 0 2).toNat, by omega⟩
  have fin' : ∀ h' : ah_T, fr (WWm v) h0 h' → CFh π h' L → h'.2.1 170 70 = (nTw L : Int) → (h'.2.2.1 170 77 = rdT sT sB ∧ h'.2.2.1 170 78 = rdB sT sB) → WMh π (wk_ln α1) v h' → B_MD_walk_491 G s a1 (v : Int) ((k : Int) + 1) h' Q (fun v2 v3 v4 h => IVt π h0 v v2 v3 v4 h ∧ mea v3 h < m0) := by
    intro h' f C' c70' cS' M'
    exact wk_next (k := k + 1) ⟨f, r, W, C', c70', cS', M'⟩ E ⟨by rw [e0]; omega, by rw [e1']; omega, by rw [e2']; omega⟩ (by rw [e0]; omega)
  unfold B_MD_walk_133 B_MD_walk_231
  refine ⟨fun w => absurd w (by decide), fun _ => ⟨fun _ x75 e75 _ _ => ?_, fun w => absurd rfl w⟩⟩
  have ex75 : x75 = (l : Int) := by rw [e75, c3, hl]
  subst ex75
  refine ⟨⟨by omega, by omega⟩, fun h77 e77 => ⟨fun c => ⟨⟨by omega, by omega⟩, ?_⟩, fun c => ⟨⟨by omega, by omega⟩, ⟨by omega, by omega⟩, fun x84 e84 _ _ => ⟨⟨by omega, by omega⟩, ?_⟩⟩⟩⟩
  · have f3 : fr (fun a k => a = 170 ∧ k = 73) h h77 := fr_i fr_0 e77 ⟨rfl, rfl⟩
    exact fin' h77 (fr_i f0 e77 (Or.inl ⟨rfl, by decide, by decide⟩)) (CFh_c L C (fun a k q1 q2 _ => fr_g f3 (by omega)) (fun k => fr_g f3 (by omega))) (by rw [fr_g f3 (by omega)]; exact c70) (by rw [fr_gl f3 (by omega), fr_gl f3 (by omega)]; exact cS) (WMh_ln M (by omega) hl (fr_w f3 (fun a k w => Or.inl w)) (mv_i e77) (fun w => by omega))
  · have ek : (102 * (v : Int) + (l : Int) + 1).toNat = 102 * v + (l + 1) := by omega
    rw [ek]
    intro h86 e86 x90 e90 _ _ h91 e91
    have f3 : fr (fun a k => (a = 170 ∧ k = 73) ∨ ((a = 199 ∨ a = 200) ∧ k = 102 * v + (l + 1))) h h91 := fr_l (fr_l (fr_i fr_0 e77 (Or.inl ⟨rfl, rfl⟩)) e86 (Or.inr ⟨Or.inl rfl, rfl⟩)) e91 (Or.inr ⟨Or.inr rfl, rfl⟩)
    refine ⟨⟨by omega, by omega⟩, fin' h91 ?_ (CFh_c L C (fun a k q1 q2 _ => fr_g f3 (by omega)) (fun k => fr_g f3 (by omega))) (by rw [fr_g f3 (by omega)]; exact c70) (by rw [fr_gl f3 (by omega), fr_gl f3 (by omega)]; exact cS) (WMh_ln M (by omega) hl f3 ?_ (fun _ => ⟨?_, ?_⟩))⟩
    · refine fr_t f0 f3 (fun a k w => ?_)
      rcases w with ⟨w1, w2⟩ | ⟨w1, w2⟩
      · exact Or.inl ⟨w1, by omega, by omega⟩
      · exact Or.inr (Or.inr (Or.inr (Or.inr ⟨w1, by omega, by omega⟩)))
    · rw [mm_lo e91, mm_lo e86, mv_i e77]
    · rw [mm_l e91 (by omega), mv_l e86, e84, mm_io e77]
    · rw [mv_l e91, e90, mm_l e86 (by omega), mm_io e77]
