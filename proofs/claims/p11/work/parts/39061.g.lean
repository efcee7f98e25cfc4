/-! ===== the WALK, reference: its loop ===== -/
abbrev WWm (v : Nat) : Nat → Nat → Prop := fun a k => (a = 170 ∧ 65 ≤ k ∧ k ≤ 78) ∨ (217 ≤ a ∧ a ≤ 220) ∨ (((187 ≤ a ∧ a ≤ 191) ∨ (194 ≤ a ∧ a ≤ 198)) ∧ 300 * v ≤ k ∧ k < 300 * v + 300) ∨ ((a = 192 ∨ a = 193) ∧ 1200 * v ≤ k ∧ k < 1200 * v + 1200) ∨ ((a = 199 ∨ a = 200) ∧ 102 * v ≤ k ∧ k < 102 * v + 102)
/-- the state between two turns -/
def WBw (π : pm_T) (h0 : ah_T) (v : Nat) (L : List fm_T) (Y d : Nat) (sT sB : Int) (α : pm_T) (k : Nat) (h : ah_T) : Prop := fr (WWm v) h0 h ∧ RG π true d k Y ∧ FWp π L Y d sT sB ∧ CFh π h L ∧ h.2.1 170 70 = (nTw L : Int) ∧ (h.2.2.1 170 77 = rdT sT sB ∧ h.2.2.1 170 78 = rdB sT sB) ∧ WMh π α v h
def WIv (π : pm_T) (h0 : ah_T) (v k : Nat) (h : ah_T) : Prop := ∃ (L : List fm_T) (Y d : Nat) (sT sB : Int) (α : pm_T), WBw π h0 v L Y d sT sB α k h ∧ walk π = fin π L (wt π k Y sT sB α) ∧ α 0 0 ≤ 2003 ∧ α 0 1 ≤ 301 ∧ α 0 2 ≤ 101
def IVt (π : pm_T) (h0 : ah_T) (v : Nat) (v2 v3 v4 : Int) (h : ah_T) : Prop := v2 = (v : Int) ∧ ∃ k : Nat, v3 = (k : Int) ∧ WIv π h0 v k h ∧ ((v4 = 0 ∧ h.2.1 170 71 ≤ 2000 ∧ h.2.1 170 72 ≤ 300 ∧ h.2.1 170 73 ≤ 100) ∨ (v4 = 1 ∧ (2000 < h.2.1 170 71 ∨ 300 < h.2.1 170 72 ∨ 100 < h.2.1 170 73)))
def mea (v3 : Int) (h : ah_T) : Nat := (2010 - h.2.1 170 71).toNat * 3000 + (2001 - v3).toNat
theorem wk_next {G : cx_T} {s v k Y d m0 : Nat} {a1 : Int} {π α : pm_T} {h0 h' : ah_T} {L : List fm_T} {sT sB : Int} {Q : Option av_T → ah_T → Prop} (B : WBw π h0 v L Y d sT sB α k h') (E : walk π = fin π L (wt π k Y sT sB α)) (b : α 0 0 ≤ 2003 ∧ α 0 1 ≤ 301 ∧ α 0 2 ≤ 101) (hm : (2010 - α 0 0).toNat * 3000 + (2001 - k) < m0) :
    B_MD_walk_491 G s a1 (v : Int) (k : Int) h' Q (fun v2 v3 v4 h => IVt π h0 v v2 v3 v4 h ∧ mea v3 h < m0) := by
  have M := B.2.2.2.2.2.2
  obtain ⟨c1, c2, c3, -, -⟩ := M.1
  have I : WIv π h0 v k h' := ⟨L, Y, d, sT, sB, α, B, E, b⟩
  have hmm : mea (k : Int) h' < m0 := by
    unfold mea; rw [c1]
    have : (2001 - (k : Int)).toNat = 2001 - k := by omega
    rw [this]; exact hm
  unfold B_MD_walk_491 B_MD_walk_520 B_MD_walk_525
  intro x1 e1 _ _
  refine ⟨fun c => ⟨⟨rfl, k, rfl, I, Or.inr ⟨rfl, Or.inr (Or.inl (by omega))⟩⟩, hmm⟩, fun c x2 e2 _ _ => ⟨fun d => ⟨⟨rfl, k, rfl, I, Or.inr ⟨rfl, Or.inr (Or.inr (by omega))⟩⟩, hmm⟩, fun d x3 e3 _ _ => ⟨fun f => ⟨⟨rfl, k, rfl, I, Or.inl ⟨rfl, by omega, by omega, by omega⟩⟩, hmm⟩, fun f => ⟨⟨rfl, k, rfl, I, Or.inr ⟨rfl, Or.inl (by omega)⟩⟩, hmm⟩⟩⟩⟩
/-- an event -/
theorem W_ev {G : cx_T} {s v k Y d m0 : Nat} {a1 : Int} {π α : pm_T} {h0 h : ah_T} {L : List fm_T} {sT sB : Int} {Q : Option av_T → ah_T → Prop} (hb1 : hb s h) (hv : 4 ≤ v ∧ v ≤ 7) (P : PW π) (hz : π 0 0 ≤ 2000) (R : RPm π h0) (hk : k < Y) (B : WBw π h0 v L Y d sT sB (wk_st α) k h) (r : RG π true d (k + 1) Y) (k256 : π 1 k = 256) (E : walk π = fin π L (wt π k Y sT sB α)) (b : α 0 0 ≤ 2000 ∧ α 0 1 ≤ 300 ∧ α 0 2 ≤ 100 ∧ α 0 1 ≤ α 0 0 ∧ α 0 2 ≤ α 0 0) (hm : (2010 - α 0 0).toNat * 3000 + (2001 - k) ≤ m0) :
    B_MD_walk_133 G s a1 (v : Int) (k : Int) 0 h Q (fun v2 v3 v4 h => IVt π h0 v v2 v3 v4 h ∧ mea v3 h < m0) := by
  obtain ⟨f0, -, W, C, c70, cS, M⟩ := B
  obtain ⟨wl, -, wd⟩ := FWp_le _ _ _ _ _ W
  have ws := FWp_s P _ _ _ _ _ W
  have bu := bq_u d (by omega)
  have hkz : (k : Int) < π 0 0 := by unfold sz at wl; have := P.1.1; omega
  have ev := wt_ev (sT := sT) (sB := sB) (α := α) k256 r (by unfold sz at wl; omega)
  rw [ev] at E
  have s0 := wk_st_0 (α := α)
  have s1 : wk_st α 0 1 = α 0 1 := wk_st_o (by omega)
  have s2 : wk_st α 0 2 = α 0 2 := wk_st_o (by omega)
  have e0 := wk_ev_0 (π := π) (j := k) (sT := sT) (sB := sB) (α := wk_st α)
  generalize wk_st α = α1 at *
  obtain ⟨⟨c1, c2, c3, c4, c5⟩, bb, hW⟩ := id M
  have e12 : wk_ev π k sT sB α1 0 1 = α1 0 1 + 1 ∧ wk_ev π k sT sB α1 0 2 = α1 0 2 := by
    by_cases c : α1 0 3 = 0 ∧ α1 0 1 < 300
    · by_cases w : isFr (lT_ π k sT sB) (lB_ π k sT sB) = true
      · exact (wk_ev_f c w).2
      · obtain ⟨yo, y1, -⟩ := wk_ev_y (sT := sT) (sB := sB) c (e := (α1 0 1).toNat) (by omega) w
        exact ⟨y1, yo 0 2 (by omega) (by omega)⟩
    · rw [wk_ev_n c]; exact ⟨up2_at, up2_o (by omega)⟩
  have fin' : ∀ h' : ah_T, hb s h' → fr (WWm v) h0 h' → CFh π h' L → h'.2.1 170 70 = (nTw L : Int) → (h'.2.2.1 170 77 = rdT sT sB ∧ h'.2.2.1 170 78 = rdB sT sB) → WMh π (wk_ev π k sT sB α1) v h' → B_MD_walk_491 G s a1 (v : Int) ((k : Int) + 1) h' Q (fun v2 v3 v4 h => IVt π h0 v v2 v3 v4 h ∧ mea v3 h < m0) := by
    intro h' _ f C' c70' cS' M'
    exact wk_next (k := k + 1) ⟨f, r, W, C', c70', cS', M'⟩ E ⟨by rw [e0]; omega, by rw [e12.1]; omega, by rw [e12.2]; omega⟩ (by rw [e0]; omega)
  unfold B_MD_walk_133 B_MD_walk_154
  refine ⟨fun _ x93 e93 _ _ => ?_, fun w => absurd rfl w⟩
  have ex93 : x93 = α1 0 1 := e93.trans c2
  refine ⟨fun c x1 e1 _ _ => ⟨⟨by omega, by omega⟩, fun h3 e3 => ⟨⟨by omega, by omega⟩, ?_⟩⟩, fun c => ?_⟩
  · have ex1 : x1 = α1 0 1 := e1.trans c2
    have f3 : fr (fun a k => a = 170 ∧ k = 72) h h3 := fr_i fr_0 e3 ⟨rfl, rfl⟩
    exact fin' h3 (hb_i hb1 e3) (fr_i f0 e3 (Or.inl ⟨rfl, by decide, by decide⟩)) (CFh_c L C (fun a k q1 q2 _ => fr_g f3 (by omega)) (fun k => fr_g f3 (by omega))) (by rw [fr_g f3 (by omega)]; exact c70) (by rw [fr_gl f3 (by omega), fr_gl f3 (by omega)]; exact cS) (WMh_evn (q := 0) M (by omega) (by omega) (fr_w f3 (fun a k w => by omega)) (by rw [mv_i e3, ex1]) (by rw [fr_g f3 (by omega)]; exact c4))
  · obtain ⟨e, he⟩ : ∃ e : Nat, α1 0 1 = (e : Int) := ⟨(α1 0 1).toNat, by omega⟩
    have gP : ∀ a j, 201 ≤ a → a ≤ 216 → h.2.1 a j = h0.2.1 a j := fun a j q1 q2 => fr_g f0 (by omega)
    have Ek := (R.2.2.2 k hkz).2.1 k256
    have Pk := (P.2.2 k hkz).2.1 k256
    have Ek' : EMj π k h := ⟨by rw [gP _ _ (by decide) (by decide), gP _ _ (by decide) (by decide), gP _ _ (by decide) (by decide)]; exact Ek.1, ESm_c Ek.2 Pk.2.2.2.1.2 (fun _ _ => rfl) ⟨gP _ _ (by decide) (by decide), gP _ _ (by decide) (by decide)⟩ (fun _ _ _ => ⟨gP _ _ (by decide) (by decide), gP _ _ (by decide) (by decide)⟩)⟩
    obtain ⟨t1, t2⟩ := rdT_b (a := sT) (b := sB) ws.1.1 ws.2.1
    obtain ⟨u1, u2⟩ := rdB_b (a := sT) (b := sB) ws.1.1 ws.2.1
    refine con_mono (t_MD_event (π := π) (cT := rdT sT sB) (cB := rdB sT sB) (nT := α1 0 4) (nB := α1 0 5) (l := α1 0 2) (f := α1 0 3) hb1 hv (e := e) (by rw [c2, he]) (by omega) (by omega) Ek' Pk c3 c4 c5 ⟨cS.1, t1, by omega⟩ ⟨cS.2, u1, by omega⟩ (fun w => ?_)) ?_
    · obtain ⟨⟨w1, w2⟩, w3, -⟩ := hW ⟨w, by omega⟩
      exact ⟨w1, w2, w3.1, w3.2.1, w3.2.2.1, w3.2.2.2⟩
    rintro r' h94 ⟨lT, lB, rfl, hb94, f94, eT, eB, hp, g1, g2⟩
    refine ⟨rfl, hb94, fun x1 e1 _ _ => ⟨⟨by have := f94; rw [e1, fr_g f94 (by omega), c2] ; omega, by rw [e1, fr_g f94 (by omega), c2]; omega⟩, fun h3 e3 => ⟨⟨by omega, by omega⟩, ?_⟩⟩⟩
    have ex1 : x1 = α1 0 1 := by rw [e1, fr_g f94 (by omega), c2]
    rw [ex1] at e3
    have f3 : fr (fun a k => WEm (300 * v + e) a k ∨ (a = 170 ∧ k = 72)) h h3 := fr_i (fr_w f94 (fun a k w => Or.inl w)) e3 (Or.inr ⟨rfl, rfl⟩)
    have fW : fr (WWm v) h0 h3 := by
      refine fr_t f0 f3 (fun a k w => ?_)
      rcases w with (⟨w1, w2⟩ | ⟨w1, w2, w3⟩ | ⟨w1, w2⟩) | ⟨w1, w2⟩
      · exact Or.inr (Or.inr (Or.inl ⟨w1, by omega, by omega⟩))
      · exact Or.inr (Or.inr (Or.inr (Or.inl ⟨w1, by omega, by omega⟩)))
      · exact Or.inl ⟨w1, by omega, by omega⟩
      · exact Or.inl ⟨w1, by omega, by omega⟩
    have C3 := CFh_c L C (h' := h3) (fun a k q1 q2 _ => fr_g f3 (by omega)) (fun k => fr_g f3 (by omega))
    have k70 : h3.2.1 170 70 = (nTw L : Int) := by rw [fr_g f3 (by omega)]; exact c70
    have kS : h3.2.2.1 170 77 = rdT sT sB ∧ h3.2.2.1 170 78 = rdB sT sB := by rw [fr_gl f3 (by omega), fr_gl f3 (by omega)]; exact cS
    refine fin' h3 (hb_i hb94 e3) fW C3 k70 kS ?_
    by_cases c0 : α1 0 3 = 0
    · have EL : lT = lT_ π k sT sB := by
        rw [eT]; unfold lT_ lnT lnB
        rw [Int.mul_assoc (rdB sT sB)]
        rw [(rd_rd (x := sT) (y := sB) (a := 2 ^ ((π 3 k).toNat + 1) - 1) (b := π 2 k * 2 ^ (π 3 k).toNat) ws.1.1).1, Int.mul_assoc sB]
      have EB : lB = lB_ π k sT sB := by
        rw [eB]; unfold lB_ lnT lnB
        rw [Int.mul_assoc (rdB sT sB)]
        rw [(rd_rd (x := sT) (y := sB) (a := 2 ^ ((π 3 k).toNat + 1) - 1) (b := π 2 k * 2 ^ (π 3 k).toNat) ws.1.1).2, Int.mul_assoc sB]
      exact WMh_evy P M (by omega) ⟨c0, by omega⟩ ⟨hkz, k256⟩ he f94 EL EB hp (fun w => g1 (Or.inr w)) (fun w => g2 c0 w) e3
    · have c1' : α1 0 3 = 1 := by rcases c5 with w | w; exact absurd w c0; exact w
      exact WMh_evn (q := 0) M (by omega) (fun w => c0 w.1) (fr_w f3 (fun a k w => by omega)) (mv_i e3) (by rw [mm_i e3 (by omega), g1 (Or.inl c1'), c1'])
/-- a | -/
theorem W_ln {G : cx_T} {s v k Y d m0 : Nat} {a1 : Int} {π α : pm_T} {h0 h : ah_T} {L : List fm_T} {sT sB : Int} {Q : Option av_T → ah_T → Prop} (hb1 : hb s h) (hv : 4 ≤ v ∧ v ≤ 7) (P : PW π) (hz : π 0 0 ≤ 2000) (hk : k < Y) (B : WBw π h0 v L Y d sT sB (wk_st α) k h) (r : RG π true d (k + 1) Y) (k124 : π 1 k = 124) (E : walk π = fin π L (wt π k Y sT sB α)) (b : α 0 0 ≤ 2000 ∧ α 0 1 ≤ 300 ∧ α 0 2 ≤ 100 ∧ α 0 1 ≤ α 0 0 ∧ α 0 2 ≤ α 0 0) (hm : (2010 - α 0 0).toNat * 3000 + (2001 - k) ≤ m0) :
    B_MD_walk_133 G s a1 (v : Int) (k : Int) 1 h Q (fun v2 v3 v4 h => IVt π h0 v v2 v3 v4 h ∧ mea v3 h < m0) := by
  obtain ⟨f0, -, W, C, c70, cS, M⟩ := B
  obtain ⟨wl, -, wd⟩ := FWp_le _ _ _ _ _ W
  have hkz : (k : Int) < π 0 0 := by unfold sz at wl; have := P.1.1; omega
  have ev := wt_ln (sT := sT) (sB := sB) (α := α) k124 r (by unfold sz at wl; omega)
  rw [ev] at E
  have s0 := wk_st_0 (α := α)
  have s1 : wk_st α 0 1 = α 0 1 := wk_st_o (by omega)
  have s2 : wk_st α 0 2 = α 0 2 := wk_st_o (by omega)
  have e0 := wk_ln_0 (α := wk_st α)
  generalize wk_st α = α1 at *
  obtain ⟨⟨c1, c2, c3, c4, c5⟩, bb, hW⟩ := id M
  have e1' : wk_ln α1 0 1 = α1 0 1 := by
    unfold wk_ln; rw [up2_o (by omega)]; split
    · rw [up2_o (by omega)]
    · rfl
  have e2' : wk_ln α1 0 2 = α1 0 2 + 1 := by unfold wk_ln; rw [up2_at]
  obtain ⟨l, hl⟩ : ∃ l : Nat, α1 0 2 = (l : Int) := ⟨(α1 0 2).toNat, by omega⟩
  have fin' : ∀ h' : ah_T, fr (WWm v) h0 h' → CFh π h' L → h'.2.1 170 70 = (nTw L : Int) → (h'.2.2.1 170 77 = rdT sT sB ∧ h'.2.2.1 170 78 = rdB sT sB) → WMh π (wk_ln α1) v h' → B_MD_walk_491 G s a1 (v : Int) ((k : Int) + 1) h' Q (fun v2 v3 v4 h => IVt π h0 v v2 v3 v4 h ∧ mea v3 h < m0) := by
    intro h' f C' c70' cS' M'
    exact wk_next (k := k + 1) ⟨f, r, W, C', c70', cS', M'⟩ E ⟨by rw [e0]; omega, by rw [e1']; omega, by rw [e2']; omega⟩ (by rw [e0]; omega)
  unfold B_MD_walk_133 B_MD_walk_231
  refine ⟨fun w => absurd w (by decide), fun _ => ⟨fun _ x75 e75 _ _ => ?_, fun w => absurd rfl w⟩⟩
  have ex75 : x75 = (l : Int) := by rw [e75, c3, hl]
  subst ex75
  refine ⟨⟨by omega, by omega⟩, fun h77 e77 => ⟨fun c => ⟨⟨by omega, by omega⟩, ?_⟩, fun c => ⟨⟨by omega, by omega⟩, ⟨by omega, by omega⟩, fun x84 e84 _ _ => ⟨⟨by omega, by omega⟩, ?_⟩⟩⟩⟩
  · have f3 : fr (fun a k => a = 170 ∧ k = 73) h h77 := fr_i fr_0 e77 ⟨rfl, rfl⟩
    exact fin' h77 (fr_i f0 e77 (Or.inl ⟨rfl, by decide, by decide⟩)) (CFh_c L C (fun a k q1 q2 _ => fr_g f3 (by omega)) (fun k => fr_g f3 (by omega))) (by rw [fr_g f3 (by omega)]; exact c70) (by rw [fr_gl f3 (by omega), fr_gl f3 (by omega)]; exact cS) (WMh_ln M (by omega) hl (fr_w f3 (fun a k w => Or.inl w)) (mv_i e77) (fun w => by omega))
  · have ek : (102 * (v : Int) + (l : Int) + 1).toNat = 102 * v + (l + 1) := by omega
    rw [ek]
    intro h86 e86 x90 e90 _ _ h91 e91
    have f3 : fr (fun a k => (a = 170 ∧ k = 73) ∨ ((a = 199 ∨ a = 200) ∧ k = 102 * v + (l + 1))) h h91 := fr_l (fr_l (fr_i fr_0 e77 (Or.inl ⟨rfl, rfl⟩)) e86 (Or.inr ⟨Or.inl rfl, rfl⟩)) e91 (Or.inr ⟨Or.inr rfl, rfl⟩)
    refine ⟨⟨by omega, by omega⟩, fin' h91 ?_ (CFh_c L C (fun a k q1 q2 _ => fr_g f3 (by omega)) (fun k => fr_g f3 (by omega))) (by rw [fr_g f3 (by omega)]; exact c70) (by rw [fr_gl f3 (by omega), fr_gl f3 (by omega)]; exact cS) (WMh_ln M (by omega) hl f3 ?_ (fun _ => ⟨?_, ?_⟩))⟩
    · refine fr_t f0 f3 (fun a k w => ?_)
      rcases w with ⟨w1, w2⟩ | ⟨w1, w2⟩
      · exact Or.inl ⟨w1, by omega, by omega⟩
      · exact Or.inr (Or.inr (Or.inr (Or.inr ⟨w1, by omega, by omega⟩)))
    · rw [mm_lo e91, mm_lo e86, mv_i e77]
    · rw [mm_l e91 (by omega), mv_l e86, e84, mm_io e77]
    · rw [mv_l e91, e90, mm_l e86 (by omega), mm_io e77]

/-! ===== the WALK, reference: brackets met ===== -/
/-- the marks of the brackets that are all closed -/
def MKa (π : pm_T) (h : ah_T) : Prop := ∃ ow : Nat → Nat, ∀ p, p < sz π → (π 1 p = 91 → MKx π h ow p) ∧ (π 1 p = 123 → MKy π h p)
theorem MKa_of {π : pm_T} {h : ah_T} (M : MKm π h) (hd : dp π = 0) : MKa π h := by
  obtain ⟨ow, -, H⟩ := M
  refine ⟨ow, fun p hp => ⟨fun k => ?_, fun k => ?_⟩⟩
  · rcases (H p hp).1 k with ⟨d, q, -⟩ | q
    · omega
    · exact q
  · rcases (H p hp).2 k with ⟨d, q, -⟩ | q
    · omega
    · exact q
theorem MKa_f {π : pm_T} {h h' : ah_T} (M : MKa π h) (g : ∀ a j, 210 ≤ a → a ≤ 214 → h'.2.1 a j = h.2.1 a j) : MKa π h' := by
  obtain ⟨ow, H⟩ := M
  refine ⟨ow, fun p hp => ⟨fun k => ?_, fun k => ?_⟩⟩
  · exact MKx_c ((H p hp).1 k) hp (Nat.le_refl _) (fun _ _ _ _ => rfl) (fun _ _ => rfl) (fun _ _ => rfl) ⟨g _ _ (by decide) (by decide), g _ _ (by decide) (by decide), g _ _ (by decide) (by decide), g _ _ (by decide) (by decide)⟩ (fun _ _ _ _ _ => g _ _ (by decide) (by decide))
  · obtain ⟨r1, r2, r3, r4⟩ := (H p hp).2 k
    exact ⟨r1, r2, r3, by rw [g _ _ (by decide) (by decide)]; exact r4⟩
/-- a { -/
theorem W_st {G : cx_T} {s v k Y d d' m0 : Nat} {a1 : Int} {π α : pm_T} {h0 h : ah_T} {L : List fm_T} {sT sB : Int} {Q : Option av_T → ah_T → Prop} (hb1 : hb s h) (hv : 4 ≤ v ∧ v ≤ 7) (P : PW π) (hz : π 0 0 ≤ 2000) (R : RPm π h0) (hk : k < Y) (B : WBw π h0 v L Y d sT sB (wk_st α) k h) (k123 : π 1 k = 123) (ed : d = d' + 1) (hl : k < lk π k) (kc : π 1 (lk π k) = 125) (r1 : RG π true d' (k + 1) (lk π k)) (r2 : RG π true d (lk π k + 1) Y) (E : walk π = fin π L (wt π k Y sT sB α)) (b : α 0 0 ≤ 2000 ∧ α 0 1 ≤ 300 ∧ α 0 2 ≤ 100 ∧ α 0 1 ≤ α 0 0 ∧ α 0 2 ≤ α 0 0) (hm : (2010 - α 0 0).toNat * 3000 + (2001 - k) ≤ m0) :
    B_MD_walk_133 G s a1 (v : Int) (k : Int) 5 h Q (fun v2 v3 v4 h => IVt π h0 v v2 v3 v4 h ∧ mea v3 h < m0) := by
  obtain ⟨f0, -, W, C, c70, cS, M⟩ := B
  obtain ⟨wl, -, wd⟩ := FWp_le _ _ _ _ _ W
  have ws := FWp_s P _ _ _ _ _ W
  have bu := bq_u d (by omega)
  have hkz : (k : Int) < π 0 0 := by unfold sz at wl; have := P.1.1; omega
  have ev := wt_st (sT := sT) (sB := sB) (α := α) k123 hl r1 r2 (by unfold sz at wl; omega)
  have hl2 := (RG_le r2).1
  have s0 := wk_st_0 (α := α)
  have s1 : wk_st α 0 1 = α 0 1 := wk_st_o (by omega)
  have s2 : wk_st α 0 2 = α 0 2 := wk_st_o (by omega)
  have gP : ∀ a j, 201 ≤ a → a ≤ 216 → h.2.1 a j = h0.2.1 a j := fun a j q1 q2 => fr_g f0 (by omega)
  obtain ⟨m2, m3⟩ := (R.2.2.2 k hkz).2.2 k123
  obtain ⟨v2, v3⟩ := (P.2.2 k hkz).2.2 k123
  obtain ⟨t1, t2⟩ := rdT_b (a := sT) (b := sB) ws.1.1 ws.2.1
  obtain ⟨u1, u2⟩ := rdB_b (a := sT) (b := sB) ws.1.1 ws.2.1
  unfold B_MD_walk_133
  refine ⟨fun w => absurd w (by decide), fun _ => ⟨fun w => absurd w (by decide), fun _ => ⟨fun w => absurd w (by decide), fun _ => ⟨fun _ => ⟨⟨by omega, by omega⟩, ?_⟩, fun w => absurd rfl w⟩⟩⟩⟩
  rw [tn_c]
  intro x46 e46 _ _ x49 e49 _ _
  have ex46 : x46 = π 3 k := by rw [e46, gP _ _ (by decide) (by decide)]; exact m3
  have ex49 : x49 = π 2 k := by rw [e49, gP _ _ (by decide) (by decide)]; exact m2
  subst ex46 ex49
  refine con_mono (t_MD_scale hb1 v3 v2 (by rw [cS.1]; omega) (by rw [cS.2]; omega)) ?_
  rintro r' h50 ⟨rfl, hb50, f50, g1, g2, g3⟩
  refine ⟨rfl, hb50, ⟨by omega, by omega⟩, ?_⟩
  rw [cS.1, cS.2] at g1 g2
  have rr := rd_rd (x := sT) (y := sB) (a := π 3 k) (b := π 2 k) ws.1.1
  have i50 : ∀ a j, h50.2.1 a j = h.2.1 a j := fun a j => by rw [g3]
  refine wk_next (k := k + 1) (L := (k, 0, false, Y, sT, sB) :: L) (Y := lk π k) (d := d') (sT := sT * π 3 k) (sB := sB * π 2 k) (α := wk_st α) ⟨fr_t f0 f50 (fun a j w => Or.inl ⟨w.1, by omega, by omega⟩), r1, ?_, ⟨fun w => absurd w (by decide), CFh_c L C (fun a j _ _ _ => i50 a j) (fun j => i50 _ j)⟩, by rw [i50]; exact c70, ⟨by rw [g1, rr.1], by rw [g2, rr.2]⟩, WMh_f M f50 (fun a j w => by omega)⟩ ?_ ⟨by omega, by omega, by omega⟩ (by omega)
  · exact ⟨⟨hl, by omega⟩, fun _ => ⟨k123, rfl, kc, rfl, rfl, by rw [← ed]; exact r2⟩, fun w => absurd w (by decide), by rw [← ed]; exact W⟩
  · rw [E, ev, fin_0]
/-- a [ -/
theorem W_rp {G : cx_T} {s v k Y c d d' m0 : Nat} {a1 : Int} {π α : pm_T} {h0 h : ah_T} {L : List fm_T} {sT sB : Int} {Q : Option av_T → ah_T → Prop} (hb1 : hb s h) (hv : 4 ≤ v ∧ v ≤ 7) (P : PW π) (hz : π 0 0 ≤ 2000) (MA : MKa π h0) (hk : k < Y) (B : WBw π h0 v L Y d sT sB (wk_st α) k h) (k91 : π 1 k = 91) (ed : d = d' + 1) (r1 : RG π false d' k c) (r2 : RG π true d (c + 1) Y) (E : walk π = fin π L (wt π k Y sT sB α)) (b : α 0 0 ≤ 2000 ∧ α 0 1 ≤ 300 ∧ α 0 2 ≤ 100 ∧ α 0 1 ≤ α 0 0 ∧ α 0 2 ≤ α 0 0) (hm : (2010 - α 0 0).toNat * 3000 + (2001 - k) ≤ m0) :
    B_MD_walk_133 G s a1 (v : Int) (k : Int) 2 h Q (fun v2 v3 v4 h => IVt π h0 v v2 v3 v4 h ∧ mea v3 h < m0) := by
  obtain ⟨f0, -, W, C, c70, cS, M⟩ := B
  obtain ⟨wl, -, wd⟩ := FWp_le _ _ _ _ _ W
  have hkz : k < sz π := by omega
  have hz2 : sz π ≤ 2000 := by unfold sz; omega
  have ev := wt_rp (sT := sT) (sB := sB) (α := α) k91 r1 r2 (by omega)
  have l1 := (RG_le r1).2 rfl
  have l2 := (RG_le r2).1
  obtain ⟨o1, o2, R1, oc⟩ := RG_1 r1
  have s0 := wk_st_0 (α := α)
  have s1 : wk_st α 0 1 = α 0 1 := wk_st_o (by omega)
  have s2 : wk_st α 0 2 = α 0 2 := wk_st_o (by omega)
  have hcl : cl π k = c := cls_ok r1 rfl 5000 (by omega)
  obtain ⟨ow, HA⟩ := MKa_f MA (h' := h) (fun a j q1 q2 => fr_g f0 (by omega))
  obtain ⟨Cn, Hc, y1, y2, y3, y4⟩ := (HA k hkz).1 k91
  have hCn := MKc_n Hc Cn (Nat.le_refl _)
  have hC0 : Cn = 0 ↔ ¬ π 1 (lk π k) = 58 := by
    constructor
    · intro w w2; subst w
      have : π 1 (lk π k) = 93 := y3
      omega
    · intro w
      refine Classical.byContradiction fun q => ?_
      exact w (Hc.2.1 0 (by omega)).2.2.1
  have hnt := nTw_l L
  unfold B_MD_walk_133 B_MD_walk_298
  refine ⟨fun w => absurd w (by decide), fun _ => ⟨fun w => absurd w (by decide), fun _ => ⟨fun _ x55 e55 _ _ => ?_, fun w => absurd rfl w⟩⟩⟩
  have ex55 : x55 = (nTw L : Int) := e55.trans c70
  subst ex55
  refine ⟨⟨by omega, by omega⟩, ?_⟩
  rw [tn_c]
  intro h57 e57 h61 e61 h65 e65
  have f65 : fr (fun a j => (a = 217 ∨ a = 218 ∨ a = 220) ∧ j = nTw L) h h65 := fr_i (fr_i (fr_i fr_0 e57 ⟨Or.inl rfl, rfl⟩) e61 ⟨Or.inr (Or.inr rfl), rfl⟩) e65 ⟨Or.inr (Or.inl rfl), rfl⟩
  have hb65 := hb_i (hb_i (hb_i hb1 e57) e61) e65
  have q217 : h65.2.1 217 (nTw L) = (k : Int) := by rw [mm_i e65 (by omega), mm_i e61 (by omega), mv_i e57]
  have q218 : h65.2.1 218 (nTw L) = 1 := mv_i e65
  have q220 : h65.2.1 220 (nTw L) = 0 := by rw [mm_i e65 (by omega), mv_i e61]
  have q214 : h65.2.1 214 k = (Cn : Int) := by rw [fr_g f65 (by omega)]; exact Hc.1
  have q70 : h65.2.1 170 70 = (nTw L : Int) := by rw [fr_g f65 (by omega)]; exact c70
  have q71 : h65.2.1 170 71 = α 0 0 + 1 := by rw [fr_g f65 (by omega), M.1.1, s0]
  have k298 : ∀ t2 : Int, t2 = (if π 1 (lk π k) = 58 then h.2.1 214 k else 2) → ((0 : Int) ≤ (nTw L : Int) ∧ (nTw L : Int) < 10) ∧ ∀ h2 : ah_T, h2 = st_i h65 219 ((nTw L : Int)).toNat t2 → ∀ x4 : Int, x4 = h2.2.1 170 70 → -2147483648 ≤ x4 → x4 ≤ 2147483647 → (-2147483648 ≤ (x4 + 1) ∧ (x4 + 1) ≤ 2147483647) ∧ ∀ h6 : ah_T, h6 = st_i h2 170 70 (x4 + 1) → ∀ x8 : Int, x8 = h6.2.1 170 71 → -2147483648 ≤ x8 → x8 ≤ 2147483647 → (-2147483648 ≤ (x8 + 1) ∧ (x8 + 1) ≤ 2147483647) ∧ ∀ h10 : ah_T, h10 = st_i h6 170 71 (x8 + 1) → (-2147483648 ≤ ((k : Int) + 1) ∧ ((k : Int) + 1) ≤ 2147483647) ∧ B_MD_walk_491 G s a1 ((v : Int)) (((k : Int) + 1)) h10 Q (fun v2 v3 v4 h => IVt π h0 v v2 v3 v4 h ∧ mea v3 h < m0) := by
    intro t2 et2
    rw [tn_c]
    refine ⟨⟨by omega, by omega⟩, fun h2 e2 x4 e4 _ _ => ?_⟩
    have ex4 : x4 = (nTw L : Int) := by rw [e4, mm_i e2 (by omega)]; exact q70
    subst ex4
    refine ⟨⟨by omega, by omega⟩, fun h6 e6 x8 e8 _ _ => ?_⟩
    have ex8 : x8 = α 0 0 + 1 := by rw [e8, mm_i e6 (by omega), mm_i e2 (by omega)]; exact q71
    refine ⟨⟨by omega, by omega⟩, fun h10 e10 => ⟨⟨by omega, by omega⟩, ?_⟩⟩
    have f6 : fr (fun a j => ((a = 217 ∨ a = 218 ∨ a = 219 ∨ a = 220) ∧ j = nTw L) ∨ (a = 170 ∧ j = 70)) h h6 := fr_i (fr_i (fr_w f65 (fun a j w => by omega)) e2 (by omega)) e6 (by omega)
    have f10 : fr (fun a j => ((a = 217 ∨ a = 218 ∨ a = 219 ∨ a = 220) ∧ j = nTw L) ∨ (a = 170 ∧ (j = 70 ∨ j = 71))) h h10 := fr_i (fr_w f6 (fun a j w => by omega)) e10 (by omega)
    have M6 : WMh π (wk_st α) v h6 := WMh_f M f6 (fun a j w => by omega)
    have M10 : WMh π (wk_st (wk_st α)) v h10 := WMh_st M6 e8 e10
    have fW : fr (WWm v) h0 h10 := by
      refine fr_t f0 f10 (fun a j w => ?_)
      rcases w with ⟨w1, w2⟩ | ⟨w1, w2⟩
      · exact Or.inr (Or.inl ⟨by omega, by omega⟩)
      · exact Or.inl ⟨w1, by omega, by omega⟩
    have t0 := wk_st_0 (α := wk_st α)
    have t1 : wk_st (wk_st α) 0 1 = wk_st α 0 1 := wk_st_o (by omega)
    have t2' : wk_st (wk_st α) 0 2 = wk_st α 0 2 := wk_st_o (by omega)
    refine wk_next (k := k + 1) (L := (k, 1, false, Y, sT, sB) :: L) (Y := lk π k) (d := d') (sT := sT) (sB := sB) (α := wk_st (wk_st α)) ⟨fW, R1, ?_, ⟨fun _ => ⟨?_, ?_, ?_, ?_, fun w => ?_⟩, CFh_c L C (fun a j h1 h2 h3 => fr_g f10 (by omega)) (fun j => fr_g f10 (by omega))⟩, ?_, ⟨?_, ?_⟩, M10⟩ ?_ ⟨by omega, by omega, by omega⟩ (by omega)
    · refine ⟨⟨o1, by omega⟩, fun w => absurd w (by decide), fun _ => ⟨k91, rfl, rfl, ⟨c, r1, by rw [← ed]; exact r2, fun w => ?_⟩, fun _ => rfl, fun w => absurd w (by decide), fun _ => by decide⟩, by rw [← ed]; exact W⟩
      rcases oc with ⟨q, -⟩ | ⟨-, q⟩
      · omega
      · exact ⟨q, w⟩
    · rw [mm_i e10 (by omega), mm_i e6 (by omega), mm_i e2 (by omega)]; exact q217
    · rw [mm_i e10 (by omega), mm_i e6 (by omega), mm_i e2 (by omega)]; exact q218
    · rw [mm_i e10 (by omega), mm_i e6 (by omega), mv_i e2, et2, fr_g f10 (by omega)]
    · rw [mm_i e10 (by omega), mm_i e6 (by omega), mm_i e2 (by omega), q220]; rfl
    · rw [fr_g f10 (by omega), Hc.1]
      have : ¬ Cn = 0 := fun q => hC0.mp q w
      omega
    · rw [mm_i e10 (by omega), mv_i e6]; rfl
    · rw [fr_gl f10 (by omega)]; exact cS.1
    · rw [fr_gl f10 (by omega)]; exact cS.2
    · rw [E, ev, fin_s, hcl]
      have key : (if π 1 (lk π k) = 58 then wf π k (lk π k) sT sB (wk_st α) else wt π (k + 1) (lk π k) sT sB (wk_st (wt π (k + 1) (lk π k) sT sB (wk_st (wk_st α))))) = rst π k (0 + 1) false sT sB (wt π (k + 1) (lk π k) sT sB (wk_st (wk_st α))) := by
        unfold rst
        by_cases w : π 1 (lk π k) = 58
        · rw [if_pos w, if_pos w, if_neg (by decide)]
          rcases oc with ⟨q, -⟩ | ⟨-, q⟩
          · omega
          · exact wf_c o1 R1 w q (by omega) (Nat.le_refl _)
        · rw [if_neg w, if_neg w, if_pos rfl]
      rw [key]
  refine con_mono (t_MD_colons (x := (Cn : Int)) hb65 (by omega) q214) ?_
  rintro r' h69 ⟨hb69, rfl, rfl⟩
  refine ⟨_, rfl, hb69, fun w => ?_, fun w => ?_⟩
  · exact k298 2 (by rw [if_neg (hC0.mp (by omega))])
  · refine con_mono (t_MD_colons (x := (Cn : Int)) hb69 (by omega) q214) ?_
    rintro r' h72 ⟨hb72, rfl, rfl⟩
    have y58 : π 1 (lk π k) = 58 := Classical.byContradiction fun q => w (by have := hC0.mpr q; omega)
    exact ⟨_, rfl, hb72, k298 _ (by rw [if_pos y58, Hc.1])⟩
