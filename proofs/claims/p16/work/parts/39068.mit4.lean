/-! ===== the reference: what is read is kept ===== -/
abbrev WEk (q : Nat) : Nat → Nat → Prop := fun a k => (((187 ≤ a ∧ a ≤ 191) ∨ (194 ≤ a ∧ a ≤ 198)) ∧ k = q) ∨ ((a = 192 ∨ a = 193) ∧ 4 * q ≤ k ∧ k < 4 * q + 4)
theorem t_MD_keepEvent {G : cx_T} {s a b : Nat} {h : ah_T} (hb0 : hb s h) (ha : a < 1200) (eb : b = a + 1200) : con G 0 0 0 m_MD_keepEvent [av_R (some 170), av_I (a : Int), av_I (b : Int)] h (fun r h' => r = none ∧ hb s h' ∧ fr (WEk a) h h' ∧ (h'.2.2.1 187 a = h.2.2.1 187 b ∧ h'.2.2.1 188 a = h.2.2.1 188 b ∧ h'.2.2.1 189 a = h.2.2.1 189 b ∧ h'.2.2.1 190 a = h.2.2.1 190 b) ∧ (h'.2.1 191 a = h.2.1 191 b ∧ h'.2.1 194 a = h.2.1 194 b ∧ h'.2.1 195 a = h.2.1 195 b ∧ h'.2.1 196 a = h.2.1 196 b ∧ h'.2.1 197 a = h.2.1 197 b ∧ h'.2.1 198 a = h.2.1 198 b) ∧ ∀ p : Nat, p < 4 → h'.2.1 192 (4 * a + p) = h.2.1 192 (4 * b + p) ∧ h'.2.1 193 (4 * a + p) = h.2.1 193 (4 * b + p)) := by
  refine c_MD_keepEvent (X62 := fun v3 hh => ∃ p : Nat, v3 = (p : Int) ∧ p ≤ 4 ∧ fr (fun x k => ((187 ≤ x ∧ x ≤ 191) ∧ k = a) ∨ ((x = 192 ∨ x = 193) ∧ 4 * a ≤ k ∧ k < 4 * a + 4)) h hh ∧ (hh.2.2.1 187 a = h.2.2.1 187 b ∧ hh.2.2.1 188 a = h.2.2.1 188 b ∧ hh.2.2.1 189 a = h.2.2.1 189 b ∧ hh.2.2.1 190 a = h.2.2.1 190 b) ∧ hh.2.1 191 a = h.2.1 191 b ∧ ∀ j : Nat, j < p → hh.2.1 192 (4 * a + j) = h.2.1 192 (4 * b + j) ∧ hh.2.1 193 (4 * a + j) = h.2.1 193 (4 * b + j)) ?_ hb0 (fun _ _ => ?_)
  · refine lp_MD_keepEvent_62 (a1 := (a : Int)) (a2 := (b : Int)) _ (fun v3 _ => (4 - v3).toNat) ?_
    rintro v3 hh hb1 ⟨p, rfl, hp4, f, c1, c2, c3⟩
    unfold B_MD_keepEvent_62
    rw [tn_c, tn_c]
    have g : ∀ x k, (194 ≤ x ∧ x ≤ 198) → hh.2.1 x k = h.2.1 x k := fun x k q => fr_g f (by omega)
    refine ⟨fun c => ⟨⟨by omega, by omega⟩, fun x3 e3 _ _ => ⟨⟨by omega, by omega⟩, fun h6 e6 x10 e10 hx => ?_⟩⟩, fun c => ⟨⟨by omega, by omega⟩, ⟨by omega, by omega⟩, ⟨by omega, by omega⟩, ⟨by omega, by omega⟩, ⟨by omega, by omega⟩, ?_⟩⟩
    · have ep : p = 4 := by omega
      subst ep
      have E10 : x10 = h.2.1 195 b := by rw [e10, mm_i e6 (by omega), g _ _ (by omega)]
      refine ⟨hx, fun h11 e11 x15 e15 _ _ h16 e16 x20 e20 _ _ h21 e21 x25 e25 _ _ h26 e26 => ?_⟩
      have f26 : fr (fun x k => (194 ≤ x ∧ x ≤ 198) ∧ k = a) hh h26 := fr_i (fr_i (fr_i (fr_i (fr_i fr_0 e6 (by omega)) e11 (by omega)) e16 (by omega)) e21 (by omega)) e26 (by omega)
      refine ⟨rfl, hb_i (hb_i (hb_i (hb_i (hb_i hb1 e6) e11) e16) e21) e26, fr_t (fr_w f (fun x k w => by omega)) f26 (fun x k w => by omega), ?_, ⟨?_, ?_, ?_, ?_, ?_, ?_⟩, fun j hj => ?_⟩
      · rw [fr_gl f26 (by omega), fr_gl f26 (by omega), fr_gl f26 (by omega), fr_gl f26 (by omega)]; exact c1
      · rw [fr_g f26 (by omega)]; exact c2
      · rw [mm_i e26 (by omega), mm_i e21 (by omega), mm_i e16 (by omega), mm_i e11 (by omega), mv_i e6, e3, g _ _ (by omega)]
      · rw [mm_i e26 (by omega), mm_i e21 (by omega), mm_i e16 (by omega), mv_i e11, E10]
      · rw [mm_i e26 (by omega), mm_i e21 (by omega), mv_i e16, e15, mm_i e11 (by omega), mm_i e6 (by omega), g _ _ (by omega)]
      · rw [mm_i e26 (by omega), mv_i e21, e20, mm_i e16 (by omega), mm_i e11 (by omega), mm_i e6 (by omega), g _ _ (by omega)]
      · rw [mv_i e26, e25, mm_i e21 (by omega), mm_i e16 (by omega), mm_i e11 (by omega), mm_i e6 (by omega), g _ _ (by omega)]
      · rw [fr_g f26 (by omega), fr_g f26 (by omega)]; exact c3 j hj
    · have ek : (4 * (b : Int) + (p : Int)).toNat = 4 * b + p := by omega
      have ek2 : (4 * (a : Int) + (p : Int)).toNat = 4 * a + p := by omega
      rw [ek, ek2]
      intro x34 e34 _ _
      refine ⟨⟨by omega, by omega⟩, fun h37 e37 x41 e41 _ _ h42 e42 => ⟨⟨by omega, by omega⟩, ⟨p + 1, by omega, by omega, fr_i (fr_i f e37 (by omega)) e42 (by omega), ?_, ?_, fun j hj => ?_⟩, by omega⟩⟩
      · rw [show h42.2.2.1 = hh.2.2.1 by rw [e42, e37]; rfl]; exact c1
      · rw [mm_i e42 (by omega), mm_i e37 (by omega)]; exact c2
      · by_cases cj : j = p
        · subst cj
          rw [mm_i e42 (by omega), mv_i e37, mv_i e42, e34, e41, mm_i e37 (by omega), fr_g f (by omega), fr_g f (by omega)]
          exact ⟨rfl, rfl⟩
        · rw [mm_i e42 (by omega), mm_i e37 (by omega), mm_i e42 (by omega), mm_i e37 (by omega)]
          exact c3 j (by omega)
  · unfold B_MD_keepEvent_0
    rw [tn_c, tn_c]
    refine ⟨⟨by omega, by omega⟩, fun x3 e3 _ _ => ⟨⟨by omega, by omega⟩, fun h6 e6 x10 e10 _ _ h11 e11 x15 e15 _ _ h16 e16 x20 e20 _ _ h21 e21 x25 e25 _ _ h26 e26 => ⟨0, rfl, by decide, fr_i (fr_l (fr_l (fr_l (fr_l fr_0 e6 (by omega)) e11 (by omega)) e16 (by omega)) e21 (by omega)) e26 (by omega), ⟨?_, ?_, ?_, ?_⟩, ?_, fun j hj => absurd hj (Nat.not_lt_zero j)⟩⟩⟩
    · rw [mm_io e26, mm_l e21 (by omega), mm_l e16 (by omega), mm_l e11 (by omega), mv_l e6, e3]
    · rw [mm_io e26, mm_l e21 (by omega), mm_l e16 (by omega), mv_l e11, e10, mm_l e6 (by omega)]
    · rw [mm_io e26, mm_l e21 (by omega), mv_l e16, e15, mm_l e11 (by omega), mm_l e6 (by omega)]
    · rw [mm_io e26, mv_l e21, e20, mm_l e16 (by omega), mm_l e11 (by omega), mm_l e6 (by omega)]
    · rw [mv_i e26, e25, mm_lo e21, mm_lo e16, mm_lo e11, mm_lo e6]
/-- the score that is kept, in the first half of the rows -/
def KSn (μ : pm_T) (h : ah_T) : Prop := (h.2.1 172 0 = μ 0 7 ∧ h.2.1 175 0 = μ 0 3 ∧ h.2.1 177 0 = μ 0 4 ∧ h.2.1 181 0 = μ 0 5) ∧
  ((0 ≤ μ 0 3 ∧ μ 0 3 ≤ 8) ∧ (0 ≤ μ 0 4 ∧ μ 0 4 ≤ 24) ∧ (0 ≤ μ 0 5 ∧ μ 0 5 ≤ 12) ∧ (0 ≤ μ 0 7 ∧ μ 0 7 ≤ 4)) ∧
  (∀ j : Nat, (j : Int) < μ 0 3 → h.2.1 176 j = μ 1 j) ∧ (∀ j : Nat, (j : Int) < μ 0 4 → h.2.1 178 j = μ 2 j ∧ h.2.1 179 j = μ 3 j ∧ h.2.1 180 j = nz (μ 4 j)) ∧ (∀ j : Nat, (j : Int) < μ 0 5 → h.2.1 182 j = μ 5 j) ∧ ∀ n : Nat, (n : Int) < μ 0 7 → RVm μ n n h
abbrev WKk : Nat → Nat → Prop := fun a k => ((a = 172 ∨ a = 173 ∨ a = 174 ∨ a = 175 ∨ a = 177 ∨ a = 181 ∨ a = 183) ∧ k = 0) ∨ (a = 176 ∧ k < 8) ∨ ((178 ≤ a ∧ a ≤ 180) ∧ k < 24) ∨ (a = 182 ∧ k < 12) ∨ ((a = 185 ∨ a = 186) ∧ k < 4) ∨ (((187 ≤ a ∧ a ≤ 191) ∨ (194 ≤ a ∧ a ≤ 198)) ∧ k < 1200) ∨ ((a = 192 ∨ a = 193) ∧ k < 4800) ∨ ((a = 199 ∨ a = 200) ∧ k < 408)
/-- a voice, as far as it is copied: the counts, nb bars, ne events -/
def VCp (μ : pm_T) (w nb ne : Nat) (h : ah_T) : Prop := (h.2.1 185 w = μ (10 + w) 0 ∧ h.2.1 186 w = μ (10 + w) 1) ∧ (∀ e : Nat, e < ne → RVd μ (100 + 40 * w) (300 * w + e) e h) ∧
  (∀ b : Nat, (b : Int) < μ (10 + w) 1 → b < nb → h.2.2.1 199 (102 * w + b) = smT μ w (μ (100 + 40 * w + 30) b).toNat ∧ h.2.2.1 200 (102 * w + b) = smB μ w (μ (100 + 40 * w + 30) b).toNat) ∧ ((μ (10 + w) 1).toNat < nb → h.2.2.1 199 (102 * w + (μ (10 + w) 1).toNat) = μ (100 + 40 * w + 31) 0 ∧ h.2.2.1 200 (102 * w + (μ (10 + w) 1).toNat) = μ (100 + 40 * w + 31) 1)
theorem RVd_g {μ : pm_T} {R q e : Nat} {h h' : ah_T} (H : RVd μ R q e h) (g : ∀ a, 187 ≤ a → a ≤ 198 → h'.2.1 a q = h.2.1 a q ∧ h'.2.2.1 a q = h.2.2.1 a q) (g2 : ∀ a k, (a = 192 ∨ a = 193) → 4 * q ≤ k → k < 4 * q + 4 → h'.2.1 a k = h.2.1 a k) : RVd μ R q e h' := by
  obtain ⟨y1, y2, y3, y4⟩ := H
  unfold RVd
  rw [(g 191 (by decide) (by decide)).1, (g 195 (by decide) (by decide)).1, (g 196 (by decide) (by decide)).1, (g 197 (by decide) (by decide)).1, (g 198 (by decide) (by decide)).1, (g 194 (by decide) (by decide)).1, (g 187 (by decide) (by decide)).2, (g 188 (by decide) (by decide)).2, (g 189 (by decide) (by decide)).2, (g 190 (by decide) (by decide)).2]
  refine ⟨y1, y2, y3, fun p hp => ?_⟩
  rw [g2 192 _ (Or.inl rfl) (by omega) (by omega), g2 193 _ (Or.inr rfl) (by omega) (by omega)]
  exact y4 p hp
theorem VCp_end {μ : pm_T} {w : Nat} {h : ah_T} (H : VCp μ w 102 (μ (10 + w) 0).toNat h) (b : (0 ≤ μ (10 + w) 0 ∧ μ (10 + w) 0 ≤ 300) ∧ 1 ≤ μ (10 + w) 1 ∧ μ (10 + w) 1 ≤ 101) : RVm μ w w h :=
  ⟨H.1, b, fun e he => H.2.1 e (by omega), fun x hx => H.2.2.1 x hx (by omega), H.2.2.2 (by omega)⟩
