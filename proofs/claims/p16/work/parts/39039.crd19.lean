/-! ===== the WALK, class: into a voice ===== -/
/-- a voice told -/
def TW (π : pm_T) (v : Nat) (h : ah_T) : Prop := WKe π (walk π) v h ∧ (0 ≤ walk π 0 1 ∧ walk π 0 1 ≤ 300) ∧ (0 ≤ walk π 0 2 ∧ walk π 0 2 ≤ 100) ∧ h.2.1 v 16 = walk π 0 2 + 1 ∧ h.2.1 (v + 13) ((walk π 0 2).toNat + 1) = walk π 0 1
theorem WKe_f {π α : pm_T} {v : Nat} {h h' : ah_T} {W : Nat → Nat → Prop} (H : WKe π α v h) (f : fr W h h') (hW : ∀ (a k : Nat), W a k → a < v ∨ (a = v + 13 ∧ α 0 2 < (k : Int))) : WKe π α v h' := by
  have g : ∀ (a k : Nat), v ≤ a → ¬ (a = v + 13 ∧ α 0 2 < k) → h'.2.1 a k = h.2.1 a k := fun a k q q2 => fr_g f (fun w => by have := hW a k w; omega)
  have gl : ∀ (a k : Nat), v ≤ a → a ≠ v + 13 → h'.2.2.1 a k = h.2.2.1 a k := fun a k q q2 => fr_gl f (fun w => by have := hW a k w; omega)
  obtain ⟨h1, h2, h3, h4, h5⟩ := H
  refine ⟨by rw [g _ _ (Nat.le_refl _) (by omega)]; exact h1, h2, by rw [gl _ _ (by omega) (by omega), gl _ _ (by omega) (by omega)]; exact h3, fun e he => ?_, fun hl b hb => ?_⟩
  · have := h4 e he
    unfold EVh at this ⊢
    rw [g _ _ (by omega) (by omega), g _ _ (by omega) (by omega), gl _ _ (by omega) (by omega), gl _ _ (by omega) (by omega), gl _ _ (by omega) (by omega), gl _ _ (by omega) (by omega)]
    exact this
  · rw [g _ _ (by omega) (by omega)]; exact h5 hl b hb
theorem t_Parts_walkInto {G : cx_T} {s v : Nat} {π : pm_T} {h : ah_T} (hv : isV v) (hb0 : hb s h) (H : RPc π v h) (P : PW π) (hz : π 0 0 ≤ 2000) (R : RG π true 7 0 (sz π)) : con G 21 0 0 m_Parts_walkInto [av_R (some 9), av_R (some v)] h (fun r h' => ∃ z, r = some (av_I z) ∧ hb s h' ∧ fr (WW v) h h' ∧ z = wkF π ∧ (z = 0 → RPc π v h' ∧ TW π v h')) := by
  have v24 := isV_24 hv
  have p0 := P.1.1
  have esz : (sz π : Int) = π 0 0 := by unfold sz; omega
  refine c_Parts_walkInto hv hb0 ?_
  unfold B_Parts_walkInto_0
  refine con_mono (t_Voice_beginWalk hv hb0) ?_
  rintro r h1 ⟨rfl, hb1, f1, g14, g16, l9, l10, g13⟩
  refine ⟨rfl, hb1, fun h4 e4 h6 e6 h8 e8 h10 e10 x12 e12 _ _ => ?_⟩
  have f10 : fr (WW v) h h10 := fr_i (fr_i (fr_i (fr_i f1 e4 (Or.inl ⟨rfl, by decide⟩)) e6 (Or.inl ⟨rfl, by decide⟩)) e8 (Or.inl ⟨rfl, by decide⟩)) e10 (Or.inl ⟨rfl, by decide⟩)
  have hb10 := hb_i (hb_i (hb_i (hb_i hb1 e4) e6) e8) e10
  have H10 := RPc_w v24 H P f10
  have q : ∀ a k, a ≠ 9 → h10.2.1 a k = h1.2.1 a k := fun a k qa => by rw [mm_i e10 (by omega), mm_i e8 (by omega), mm_i e6 (by omega), mm_i e4 (by omega)]
  have ql : ∀ a k, h10.2.2.1 a k = h1.2.2.1 a k := fun a k => by rw [mm_io e10, mm_io e8, mm_io e6, mm_io e4]
  have z0 : ∀ a k, ¬ (a = 0 ∧ k = 5) → wk0 a k = 0 := fun a k qa => by unfold wk0; rw [up2_o qa]
  have z5 : wk0 0 5 = 1 := by unfold wk0; rw [up2_at]
  have K10 : WKh π wk0 v h10 := by
    unfold WKh WKe
    rw [z0 0 0 (by omega), z0 0 1 (by omega), z0 0 2 (by omega), z0 0 3 (by omega), z0 0 4 (by omega), z5]
    refine ⟨⟨?_, ?_, ?_, mv_i e10⟩, by omega, ⟨fun _ => (q _ _ (by omega)).trans g16, fun w => by omega⟩, fun _ => ⟨(q _ _ (by omega)).trans g14, by omega, ⟨(ql _ _).trans l9, (ql _ _).trans l10⟩, fun e he => by omega, fun _ b hb => ?_⟩⟩
    · rw [mm_i e10 (by omega), mm_i e8 (by omega), mm_i e6 (by omega), mv_i e4]
    · rw [mm_i e10 (by omega), mm_i e8 (by omega), mv_i e6]
    · rw [mm_i e10 (by omega), mv_i e8]
    · have : b = 0 := by omega
      subst this
      rw [q _ _ (by omega), g13, z0 7 0 (by omega)]; exact ⟨rfl, Int.le_refl _, Int.le_refl _⟩
  have e12' : x12 = (sz π : Int) := by rw [e12, H10.1.1, esz]
  refine con_mono (t_AWk (G := G) (s := s) hv P hz 7 (by decide) 19 0 (sz π) 5000 0 x12 0 1 1 wk0 h10 (by decide) rfl e12' (by decide) hb10 H10 R (Nat.le_refl _) (by omega) ⟨by decide, by decide⟩ ⟨by decide, by decide⟩ (Or.inl K10)) ?_
  rintro r h13 ⟨rfl, hb13, f13, K13, -⟩
  have ewalk : wk π 5000 true 0 (sz π) 1 1 wk0 = walk π := rfl
  rw [ewalk] at K13
  obtain ⟨b, hb16⟩ : ∃ b : Nat, h13.2.1 v 16 = (b : Int) := ⟨(h13.2.1 v 16).toNat, by
    rcases K13 with k | k
    · have k2 := k.2.1
      rcases Int.lt_or_le 100 (walk π 0 2) with w | w
      · rw [k.2.2.1.2 w]; rfl
      · rw [k.2.2.1.1 w]; omega
    · omega⟩
  refine ⟨rfl, hb13, ?_⟩
  refine con_mono (t_Voice_endWalk hv hb13 hb16) ?_
  rintro r h16 ⟨rfl, hbx, f16, gE⟩
  have fx := fr_t (fr_t f10 f13 (fun _ _ w => w)) f16 (fun a k w => by omega)
  have H16 := RPc_w v24 H P fx
  have c8 : h16.2.1 9 8 = h13.2.1 9 8 := fr_g f16 (by omega)
  refine ⟨rfl, hbx, fun x19 e19 _ _ => ?_⟩
  unfold B_Parts_walkInto_70 B_Parts_walkInto_85
  rcases K13 with k | ⟨k1, k2, -⟩
  · obtain ⟨⟨a1, a2, a3, a4⟩, a5, a6, a7⟩ := k
    have e19' : x19 = walk π 0 0 := by rw [e19, c8, a1]
    refine ⟨fun c => ⟨3, rfl, hbx, fx, by unfold wkF; rw [if_pos (by omega)], fun w => absurd w (by decide)⟩, fun c x20 e20 _ _ => ?_⟩
    have e20' : x20 = walk π 0 1 := by rw [e20, fr_g f16 (by omega), a2]
    refine ⟨fun c2 => ⟨3, rfl, hbx, fx, by unfold wkF; rw [if_pos (by omega)], fun w => absurd w (by decide)⟩, fun c2 x21 e21 _ _ => ?_⟩
    have e21' : x21 = walk π 0 2 := by rw [e21, fr_g f16 (by omega), a3]
    refine ⟨fun c3 x22 e22 _ => ?_, fun c3 => ⟨3, rfl, hbx, fx, by unfold wkF; rw [if_pos (by omega)], fun w => absurd w (by decide)⟩⟩
    have e22' : x22 = (if walk π 0 3 = 0 then 1 else 0) := by rw [e22, fr_g f16 (by omega), a4]
    have n3 : ¬ (2000 < walk π 0 0 ∨ 300 < walk π 0 1 ∨ 100 < walk π 0 2) := by omega
    refine ⟨fun c4 => ⟨6, rfl, hbx, fx, ?_, fun w => absurd w (by decide)⟩, fun c4 => ⟨0, rfl, hbx, fx, ?_, fun _ => ⟨H16, ?_⟩⟩⟩
    · have : ¬ walk π 0 3 = 0 := fun w => by rw [if_pos w] at e22'; omega
      unfold wkF; rw [if_neg n3, if_neg this]
    · have : walk π 0 3 = 0 := by
        by_cases w : walk π 0 3 = 0
        · exact w
        · rw [if_neg w] at e22'; exact absurd e22' c4
      unfold wkF; rw [if_neg n3, if_pos this]
    · have w3 : walk π 0 3 = 0 := by
        by_cases w : walk π 0 3 = 0
        · exact w
        · rw [if_neg w] at e22'; exact absurd e22' c4
      have We := a7 ⟨w3, by omega⟩
      have hb' : (b : Int) = walk π 0 2 + 1 := by have := a6.1 (by omega); omega
      have eb : (walk π 0 2).toNat + 1 = b := by omega
      refine ⟨WKe_f We f16 (fun a k w => Or.inr ⟨w.1, by omega⟩), by omega, by omega, ?_, ?_⟩
      · rw [fr_g f16 (by omega), hb16, hb']
      · rw [eb, gE (by omega)]; exact We.1
  · refine ⟨fun c => ⟨3, rfl, hbx, fx, by unfold wkF; rw [if_pos (by omega)], fun w => absurd w (by decide)⟩, fun c => by omega⟩
