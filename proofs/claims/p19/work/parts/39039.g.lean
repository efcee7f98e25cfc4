/-! ===== the WALK, class: into a voice ===== -/
/-- a voice told -/
def TW (π : pm_T) (v : Nat) (h : ah_T) : Prop := WKe π (walk π) v h ∧ (0 ≤ walk π 0 1 ∧ walk π 0 1 ≤ 300) ∧ (0 ≤ walk π 0 2 ∧ walk π 0 2 ≤ 100) ∧ h.2.1 v 16 = walk π 0 2 + 1 ∧ h.2.1 (v + 13) ((walk π 0 2).toNat + 1) = walk π 0 1
theorem WKe_f {π α : pm_T} {v : Nat} {h h' : ah_T} {W : Nat → Nat → Prop} (H : WKe π α v h) (f : fr W h h') (hW : ∀ (a k : Nat), W a k → a < v ∨ (a = v + 13 ∧ α 0 2 < (k : Int))) : WKe π α v h' := by
  have g : ∀ (a k : Nat), v ≤ a → ¬ (a = v + 13 ∧ α 0 2 < k) → h'.2.1 a k = h.2.1 a k := fun a k q q2 => fr_g f (fun w => by have := hW a k w; omega)
  have gl : ∀ (a k : Nat), v ≤ a → a ≠ v + 13 → h'.2.2.1 a k = h.2.2.1 a k := fun a k q q2 => fr_gl f (fun w => by have := hW a k w; omega)
  obtain ⟨h1, h2, h3, h4, h5⟩ := H
  refine ⟨by rw [g _ _ (Nat.le_refl _) (by omega)]; exact h1, h2, by rw [gl _ _ (by omega) (by omega), gl _ _ (by omega) (by omega)]; exact h3, fun e he => ?_, fun hl b hb => ?_⟩
  · have := h4 e he
    unfold EVh at this ⊢
    rw [g _ _ (by omega) (by omega), g _ _ (by omega) (by omega), gl _ _ (by omega) (by omega), gl _ _ (by omega) (by omega), gl _ _ (by omega) (by omega), gl _ _ (by omega) (by omega)]
    exact this
  · rw [g _ _ (by omega) (by omega)]; exact h5 hl b hb
theorem t_Parts_walkInto {G : cx_T} {s v : Nat} {π : pm_T} {h : ah_T} (hv : isV v) (hb0 : hb s h) (H : RPc π v h) (P : PW π) (hz : π 0 0 ≤ 2000) (R : RG π true 7 0 (sz π)) : con G 21 0 0 m_Parts_walkInto [av_R (some 9), av_R (some v)] h (fun r h' => ∃ z, r = some (av_I z) ∧ hb s h' ∧ fr (WW v) h h' ∧ z = wkF π ∧ (z = 0 → RPc π v h' ∧ TW π v h')) := by
  have v24 := isV_24 hv
  have p0 := P.1.1
  have esz : (sz π : Int) = π 0 0 := by unfold sz; omega
  refine c_Parts_walkInto hv hb0 ?_
  unfold B_Parts_walkInto_0
  refine con_mono (t_Voice_beginWalk hv hb0) ?_
  rintro r h1 ⟨rfl, hb1, f1, g14, g16, l9, l10, g13⟩
  refine ⟨rfl, hb1, fun h4 e4 h6 e6 h8 e8 h10 e10 x12 e12 _ _ => ?_⟩
  have f10 : fr (WW v) h h10 := fr_i (fr_i (fr_i (fr_i f1 e4 (Or.inl ⟨rfl, by decide⟩)) e6 (Or.inl ⟨rfl, by decide⟩)) e8 (Or.inl ⟨rfl, by decide⟩)) e10 (Or.inl ⟨rfl, by decide⟩)
  have hb10 := hb_i (hb_i (hb_i (hb_i hb1 e4) e6) e8) e10
  have H10 := RPc_w v24 H P f10
  have q : ∀ a k, a ≠ 9 → h10.2.1 a k = h1.2.1 a k := fun a k qa => by rw [mm_i e10 (by omega), mm_i e8 (by omega), mm_i e6 (by omega), mm_i e4 (by omega)]
  have ql : ∀ a k, h10.2.2.1 a k = h1.2.2.1 a k := fun a k => by rw [mm_io e10, mm_io e8, mm_io e6, mm_io e4]
  have z0 : ∀ a k, ¬ (a = 0 ∧ k = 5) → wk0 a k = 0 := fun a k qa => by unfold wk0; rw [up2_o qa]
  have z5 : wk0 0 5 = 1 := by unfold wk0; rw [up2_at]
  have K10 : WKh π wk0 v h10 := by
    unfold WKh WKe
    rw [z0 0 0 (by omega), z0 0 1 (by omega), z0 0 2 (by omega), z0 0 3 (by omega), z0 0 4 (by omega), z5]
    refine ⟨⟨?_, ?_, ?_, mv_i e10⟩, by omega, ⟨fun _ => (q _ _ (by omega)).trans g16, fun w => by omega⟩, fun _ => ⟨(q _ _ (by omega)).trans g14, by omega, ⟨(ql _ _).trans l9, (ql _ _).trans l10⟩, fun e he => by omega, fun _ b hb => ?_⟩⟩
    · rw [mm_i e10 (by omega), mm_i e8 (by omega), mm_i e6 (by omega), mv_i e4]
    · rw [mm_i e10 (by omega), mm_i e8 (by omega), mv_i e6]
    · rw [mm_i e10 (by omega), mv_i e8]
    · have : b = 0 := by omega
      subst this
      rw [q _ _ (by omega), g13, z0 7 0 (by omega)]; exact ⟨rfl, Int.le_refl _, Int.le_refl _⟩
  have e12' : x12 = (sz π : Int) := by rw [e12, H10.1.1, esz]
  refine con_mono (t_AWk (G := G) (s := s) hv P hz 7 (by decide) 19 0 (sz π) 5000 0 x12 0 1 1 wk0 h10 (by decide) rfl e12' (by decide) hb10 H10 R (Nat.le_refl _) (by omega) ⟨by decide, by decide⟩ ⟨by decide, by decide⟩ (Or.inl K10)) ?_
  rintro r h13 ⟨rfl, hb13, f13, K13, -⟩
  have ewalk : wk π 5000 true 0 (sz π) 1 1 wk0 = walk π := rfl
  rw [ewalk] at K13
  obtain ⟨b, hb16⟩ : ∃ b : Nat, h13.2.1 v 16 = (b : Int) := ⟨(h13.2.1 v 16).toNat, by
    rcases K13 with k | k
    · have k2 := k.2.1
      rcases Int.lt_or_le 100 (walk π 0 2) with w | w
      · rw [k.2.2.1.2 w]; rfl
      · rw [k.2.2.1.1 w]; omega
    · omega⟩
  refine ⟨rfl, hb13, ?_⟩
  refine con_mono (t_Voice_endWalk hv hb13 hb16) ?_
  rintro r h16 ⟨rfl, hbx, f16, gE⟩
  have fx := fr_t (fr_t f10 f13 (fun _ _ w => w)) f16 (fun a k w => by omega)
  have H16 := RPc_w v24 H P fx
  have c8 : h16.2.1 9 8 = h13.2.1 9 8 := fr_g f16 (by omega)
  refine ⟨rfl, hbx, fun x19 e19 _ _ => ?_⟩
  unfold B_Parts_walkInto_70 B_Parts_walkInto_85
  rcases K13 with k | ⟨k1, k2, -⟩
  · obtain ⟨⟨a1, a2, a3, a4⟩, a5, a6, a7⟩ := k
    have e19' : x19 = walk π 0 0 := by rw [e19, c8, a1]
    refine ⟨fun c => ⟨3, rfl, hbx, fx, by unfold wkF; rw [if_pos (by omega)], fun w => absurd w (by decide)⟩, fun c x20 e20 _ _ => ?_⟩
    have e20' : x20 = walk π 0 1 := by rw [e20, fr_g f16 (by omega), a2]
    refine ⟨fun c2 => ⟨3, rfl, hbx, fx, by unfold wkF; rw [if_pos (by omega)], fun w => absurd w (by decide)⟩, fun c2 x21 e21 _ _ => ?_⟩
    have e21' : x21 = walk π 0 2 := by rw [e21, fr_g f16 (by omega), a3]
    refine ⟨fun c3 x22 e22 _ => ?_, fun c3 => ⟨3, rfl, hbx, fx, by unfold wkF; rw [if_pos (by omega)], fun w => absurd w (by decide)⟩⟩
    have e22' : x22 = (if walk π 0 3 = 0 then 1 else 0) := by rw [e22, fr_g f16 (by omega), a4]
    have n3 : ¬ (2000 < walk π 0 0 ∨ 300 < walk π 0 1 ∨ 100 < walk π 0 2) := by omega
    refine ⟨fun c4 => ⟨6, rfl, hbx, fx, ?_, fun w => absurd w (by decide)⟩, fun c4 => ⟨0, rfl, hbx, fx, ?_, fun _ => ⟨H16, ?_⟩⟩⟩
    · have : ¬ walk π 0 3 = 0 := fun w => by rw [if_pos w] at e22'; omega
      unfold wkF; rw [if_neg n3, if_neg this]
    · have : walk π 0 3 = 0 := by
        by_cases w : walk π 0 3 = 0
        · exact w
        · rw [if_neg w] at e22'; exact absurd e22' c4
      unfold wkF; rw [if_neg n3, if_pos this]
    · have w3 : walk π 0 3 = 0 := by
        by_cases w : walk π 0 3 = 0
        · exact w
        · rw [if_neg w] at e22'; exact absurd e22' c4
      have We := a7 ⟨w3, by omega⟩
      have hb' : (b : Int) = walk π 0 2 + 1 := by have := a6.1 (by omega); omega
      have eb : (walk π 0 2).toNat + 1 = b := by omega
      refine ⟨WKe_f We f16 (fun a k w => Or.inr ⟨w.1, by omega⟩), by omega, by omega, ?_, ?_⟩
      · rw [fr_g f16 (by omega), hb16, hb']
      · rw [eb, gE (by omega)]; exact We.1
  · refine ⟨fun c => ⟨3, rfl, hbx, fx, by unfold wkF; rw [if_pos (by omega)], fun w => absurd w (by decide)⟩, fun c => by omega⟩

/-! ===== the class: a voice told in the score's memory ===== -/
def sgm (μ : pm_T) (R e : Nat) : Nat → Int
  | 0 => 0
  | n + 1 => sgm μ R e n + sgk (μ (R + (10 + n)) e) (μ (R + (20 + n)) e)
def RVe (μ : pm_T) (R v e : Nat) (h : ah_T) : Prop := ∃ b q : Nat, b < 300 ∧ h.2.1 (v + 7) e = b ∧ h.2.1 (v + 8) e = μ (R + 6) e ∧ (h.2.2.1 (v + 9) e = μ (R + 0) e ∧ h.2.2.1 (v + 10) e = μ (R + 1) e ∧ h.2.2.1 (v + 11) e = μ (R + 2) e ∧ h.2.2.1 (v + 12) e = μ (R + 3) e) ∧ (h.2.1 (v + 3) b = q ∧ h.2.1 (v + 3) (b + 1) = q + μ (R + 4) e) ∧ (h.2.1 (v + 6) b = μ (R + 5) e ∧ h.2.1 (v + 4) b = μ (R + 7) e ∧ h.2.1 (v + 5) b = μ (R + 8) e) ∧
  (∀ p : Nat, (p : Int) < μ (R + 4) e → h.2.1 (v + 1) (q + p) = μ (R + (10 + p)) e ∧ h.2.1 (v + 2) (q + p) = μ (R + (20 + p)) e)
/-- what holds of an event in the memory -/
def MVe (μ : pm_T) (R e : Nat) : Prop := (0 ≤ μ (R + 4) e ∧ μ (R + 4) e ≤ 4) ∧ (μ (R + 5) e = 0 ∨ μ (R + 5) e = 1) ∧ (1 ≤ μ (R + 7) e ∧ μ (R + 7) e ≤ 64) ∧ (0 ≤ μ (R + 8) e ∧ μ (R + 8) e ≤ 3) ∧ (0 ≤ μ (R + 0) e ∧ μ (R + 0) e ≤ 1000 * μ (R + 1) e ∧ 1 ≤ μ (R + 1) e ∧ μ (R + 1) e ≤ 1000000) ∧ (1 ≤ μ (R + 2) e ∧ μ (R + 2) e ≤ 1000 * μ (R + 3) e ∧ 1 ≤ μ (R + 3) e ∧ μ (R + 3) e ≤ 1000000) ∧ (∀ p : Nat, (p : Int) < μ (R + 4) e → (-2 ≤ μ (R + (10 + p)) e ∧ μ (R + (10 + p)) e ≤ 109) ∧ 0 ≤ μ (R + (20 + p)) e ∧ μ (R + (20 + p)) e ≤ 62) ∧ μ (R + 9) e = sgm μ R e (μ (R + 4) e).toNat
def RVo (μ : pm_T) (n v : Nat) (h : ah_T) : Prop := (h.2.1 v 14 = μ (10 + n) 0 ∧ h.2.1 v 16 = μ (10 + n) 1) ∧ (h.2.2.1 (v + 9) (μ (10 + n) 0).toNat = μ (100 + 40 * n + 31) 0 ∧ h.2.2.1 (v + 10) (μ (10 + n) 0).toNat = μ (100 + 40 * n + 31) 1) ∧ (∀ e : Nat, (e : Int) < μ (10 + n) 0 → RVe μ (100 + 40 * n) v e h) ∧ (∀ b : Nat, (b : Int) < μ (10 + n) 1 → h.2.1 (v + 13) b = μ (100 + 40 * n + 30) b) ∧ h.2.1 (v + 13) (μ (10 + n) 1).toNat = μ (10 + n) 0
def MVo (μ : pm_T) (n : Nat) : Prop := (0 ≤ μ (10 + n) 0 ∧ μ (10 + n) 0 ≤ 300) ∧ (1 ≤ μ (10 + n) 1 ∧ μ (10 + n) 1 ≤ 101) ∧ (0 ≤ μ (100 + 40 * n + 31) 0 ∧ μ (100 + 40 * n + 31) 0 ≤ 1000 * μ (100 + 40 * n + 31) 1 ∧ 1 ≤ μ (100 + 40 * n + 31) 1 ∧ μ (100 + 40 * n + 31) 1 ≤ 1000000) ∧ (∀ e : Nat, (e : Int) < μ (10 + n) 0 → MVe μ (100 + 40 * n) e) ∧ ∀ b : Nat, (b : Int) < μ (10 + n) 1 → 0 ≤ μ (100 + 40 * n + 30) b ∧ μ (100 + 40 * n + 30) b ≤ μ (10 + n) 0
theorem addV_i {μ π α : pm_T} {n w k : Nat} (hn : n = (μ 0 7).toNat) (hw : w < 40) : addV μ π α (100 + 40 * n + w) k = (if w < 4 then α (3 + w) k else if w = 4 then π 5 (α 1 k).toNat else if w = 5 then π 4 (α 1 k).toNat else if w = 6 then α 2 k else if w = 7 then π 2 (α 1 k).toNat else if w = 8 then π 3 (α 1 k).toNat else if w = 9 then π 17 (α 1 k).toNat else if 10 ≤ w ∧ w < 14 then π (w - 4) (α 1 k).toNat else if 20 ≤ w ∧ w < 24 then π (w - 10) (α 1 k).toNat else if w = 30 then α 7 k else if w = 31 then α 0 (4 + k) else 0) := by
  unfold addV
  rw [← hn, if_neg (by omega), if_neg (by omega), if_neg (by omega), if_pos (by omega)]
  have : 100 + 40 * n + w - (100 + 40 * n) = w := by omega
  dsimp only
  rw [this]
theorem addV_n {μ π α : pm_T} {n : Nat} (hn : n = (μ 0 7).toNat) : addV μ π α (10 + n) 0 = α 0 1 ∧ addV μ π α (10 + n) 1 = α 0 2 + 1 := by
  unfold addV
  rw [← hn]
  exact ⟨by rw [if_neg (by omega), if_pos ⟨rfl, rfl⟩], by rw [if_neg (by omega), if_neg (by omega), if_pos ⟨rfl, rfl⟩]⟩
/-- the voices of before stay in the memory -/
theorem addV_b {μ π α : pm_T} {n a k : Nat} (hn : n < (μ 0 7).toNat) (ha : a = 10 + n ∨ (100 + 40 * n ≤ a ∧ a < 140 + 40 * n)) (h4 : (μ 0 7).toNat ≤ 4) : addV μ π α a k = μ a k := by
  unfold addV
  rw [if_neg (by omega), if_neg (by omega), if_neg (by omega), if_neg (by omega)]
theorem MVo_w {μ π : pm_T} {v n : Nat} {h : ah_T} (hn : n = (μ 0 7).toNat) (T : TW π v h) (H : RPc π v h) (P : PW π) : RVo (addV μ π (walk π)) n v h ∧ MVo (addV μ π (walk π)) n := by
  obtain ⟨⟨w1, w2, w3, w4, w5⟩, b1, b2, t16, tE⟩ := T
  generalize walk π = α at *
  obtain ⟨n0, n1⟩ := addV_n (π := π) (α := α) hn
  have r : ∀ {w k : Nat}, w < 40 → addV μ π α (100 + 40 * n + w) k = _ := fun {w k} hw => addV_i (π := π) (α := α) (k := k) hn hw
  have r31 : ∀ k, addV μ π α (100 + 40 * n + 31) k = α 0 (4 + k) := fun k => (r (by decide)).trans rfl
  have r30 : ∀ k, addV μ π α (100 + 40 * n + 30) k = α 7 k := fun k => (r (by decide)).trans rfl
  have r0 : ∀ k, addV μ π α (100 + 40 * n + 0) k = α 3 k := fun k => (r (by decide)).trans rfl
  have r1 : ∀ k, addV μ π α (100 + 40 * n + 1) k = α 4 k := fun k => (r (by decide)).trans rfl
  have r2 : ∀ k, addV μ π α (100 + 40 * n + 2) k = α 5 k := fun k => (r (by decide)).trans rfl
  have r3 : ∀ k, addV μ π α (100 + 40 * n + 3) k = α 6 k := fun k => (r (by decide)).trans rfl
  have r4 : ∀ k, addV μ π α (100 + 40 * n + 4) k = π 5 (α 1 k).toNat := fun k => (r (by decide)).trans rfl
  have r5 : ∀ k, addV μ π α (100 + 40 * n + 5) k = π 4 (α 1 k).toNat := fun k => (r (by decide)).trans rfl
  have r6 : ∀ k, addV μ π α (100 + 40 * n + 6) k = α 2 k := fun k => (r (by decide)).trans rfl
  have r7 : ∀ k, addV μ π α (100 + 40 * n + 7) k = π 2 (α 1 k).toNat := fun k => (r (by decide)).trans rfl
  have r8 : ∀ k, addV μ π α (100 + 40 * n + 8) k = π 3 (α 1 k).toNat := fun k => (r (by decide)).trans rfl
  have r9 : ∀ k, addV μ π α (100 + 40 * n + 9) k = π 17 (α 1 k).toNat := fun k => (r (by decide)).trans rfl
  have rk : ∀ p k, p < 4 → addV μ π α (100 + 40 * n + (10 + p)) k = π (6 + p) (α 1 k).toNat ∧ addV μ π α (100 + 40 * n + (20 + p)) k = π (10 + p) (α 1 k).toNat := by
    intro p k hp
    have : p = 0 ∨ p = 1 ∨ p = 2 ∨ p = 3 := by omega
    rcases this with rfl | rfl | rfl | rfl <;> exact ⟨(r (by decide)).trans rfl, (r (by decide)).trans rfl⟩
  refine ⟨⟨⟨by rw [n0]; exact w1, by rw [n1]; exact t16⟩, ?_, fun e he => ?_, fun b hb => ?_, ?_⟩, ⟨by rw [n0]; exact b1, by rw [n1]; omega, ?_, fun e he => ?_, fun b hb => ?_⟩⟩
  · rw [n0, r31, r31]; exact w3
  · rw [n0] at he
    obtain ⟨⟨y1, y2, y3⟩, y4, y5, y6, y7⟩ := w4 e he
    have hj : ((α 1 e).toNat : Int) < π 0 0 := by omega
    have E := (H.2.2 _ hj).2.1 y3
    have V := (P.2.2 _ hj).2.1 y3
    obtain ⟨j, ej⟩ : ∃ j, (α 1 e).toNat = j := ⟨_, rfl⟩
    rw [ej] at E V hj y3 y4
    obtain ⟨⟨c1, c2, c3, c4⟩, c5, c6, c7⟩ := E
    obtain ⟨-, v2, v3, v4, v5, -, -⟩ := V
    have p0 := P.1
    refine ⟨(π 18 j).toNat, (π 19 j).toNat, by omega, by rw [y4]; omega, ?_, ?_, ⟨by rw [c6]; omega, ?_⟩, ⟨?_, ?_, ?_⟩, fun p hp => ?_⟩
    · rw [r6]; exact y5 (by omega)
    · rw [r0, r1, r2, r3]; exact y6
    · rw [r4, ej, c5]; omega
    · rw [r5, ej]; exact c4
    · rw [r7, ej]; exact c2
    · rw [r8, ej]; exact c3
    · rw [r4, ej] at hp
      rw [(rk p e (by omega)).1, (rk p e (by omega)).2, ej]
      exact c7 p hp
  · rw [n1] at hb
    rw [r30]
    exact (w5 b2.2 b (by omega)).1
  · rw [n0, n1]
    have : (α 0 2 + 1).toNat = (α 0 2).toNat + 1 := by omega
    rw [this]; exact tE
  · rw [r31, r31]; exact w2
  · rw [n0] at he
    obtain ⟨⟨y1, y2, y3⟩, y4, y5, y6, y7⟩ := w4 e he
    have hj : ((α 1 e).toNat : Int) < π 0 0 := by omega
    have V := (P.2.2 _ hj).2.1 y3
    unfold MVe
    rw [r0, r1, r2, r3, r4, r5, r7, r8, r9]
    obtain ⟨u1, u2, u3, u4, u5, u6, u7⟩ := V
    refine ⟨u4, u1.2.2, u1.1, u1.2.1, y7.1, y7.2, fun p hp => ?_, ?_⟩
    · rw [(rk p e (by omega)).1, (rk p e (by omega)).2]; exact u6 p hp
    · rw [u7]
      have : ∀ k, k ≤ 4 → sgs π (α 1 e).toNat k = sgm (addV μ π α) (100 + 40 * n) e k := by
        intro k
        induction k with
        | zero => intro _; rfl
        | succ k ih => intro hk; rw [sgs, sgm, ih (by omega), (rk k e (by omega)).1, (rk k e (by omega)).2]
      exact this _ (by omega)
  · rw [n1] at hb
    rw [r30, n0]
    exact (w5 b2.2 b (by omega)).2

/-! ===== the class: a voice read, exact ===== -/
theorem RVo_f {μ : pm_T} {n v : Nat} {h h' : ah_T} {W : Nat → Nat → Prop} (H : RVo μ n v h) (f : fr W h h') (hW : ∀ (a k : Nat), W a k → a < v ∨ v + 13 < a) : RVo μ n v h' := by
  have g : ∀ a k, v ≤ a → a ≤ v + 13 → h'.2.1 a k = h.2.1 a k := fun a k q q2 => fr_g f (fun w => by have := hW a k w; omega)
  have gl : ∀ a k, v ≤ a → a ≤ v + 13 → h'.2.2.1 a k = h.2.2.1 a k := fun a k q q2 => fr_gl f (fun w => by have := hW a k w; omega)
  obtain ⟨h1, h2, h3, h4, h5⟩ := H
  refine ⟨by rw [g _ _ (by omega) (by omega), g _ _ (by omega) (by omega)]; exact h1, by rw [gl _ _ (by omega) (by omega), gl _ _ (by omega) (by omega)]; exact h2, fun e he => ?_, fun b hb => by rw [g _ _ (by omega) (by omega)]; exact h4 b hb, by rw [g _ _ (by omega) (by omega)]; exact h5⟩
  obtain ⟨b, q, y1, y2, y3, y4, y5, y6, y7⟩ := h3 e he
  refine ⟨b, q, y1, by rw [g _ _ (by omega) (by omega)]; exact y2, by rw [g _ _ (by omega) (by omega)]; exact y3, by rw [gl _ _ (by omega) (by omega), gl _ _ (by omega) (by omega), gl _ _ (by omega) (by omega), gl _ _ (by omega) (by omega)]; exact y4, by rw [g _ _ (by omega) (by omega), g _ _ (by omega) (by omega)]; exact y5, by rw [g _ _ (by omega) (by omega), g _ _ (by omega) (by omega), g _ _ (by omega) (by omega)]; exact y6, fun p hp => by rw [g _ _ (by omega) (by omega), g _ _ (by omega) (by omega)]; exact y7 p hp⟩
/-- rows of one voice -/
def vrow (n a : Nat) : Prop := a = 10 + n ∨ (100 + 40 * n ≤ a ∧ a < 140 + 40 * n)
theorem sgm_c {μ μ' : pm_T} {R e : Nat} : ∀ n, n ≤ 4 → (∀ w, w < 40 → μ' (R + w) e = μ (R + w) e) → sgm μ' R e n = sgm μ R e n
  | 0, _, _ => rfl
  | n + 1, hn, h => by rw [sgm, sgm, sgm_c n (by omega) h, h _ (by omega), h _ (by omega)]
theorem RVo_m {μ μ' : pm_T} {n v : Nat} {h : ah_T} (H : RVo μ n v h) (M : MVo μ n) (e : ∀ a k, vrow n a → μ' a k = μ a k) : RVo μ' n v h ∧ MVo μ' n := by
  have e1 : ∀ k, μ' (10 + n) k = μ (10 + n) k := fun k => e _ k (Or.inl rfl)
  have e2 : ∀ w k, w < 40 → μ' (100 + 40 * n + w) k = μ (100 + 40 * n + w) k := fun w k hw => e _ k (Or.inr ⟨by omega, by omega⟩)
  unfold RVo MVo
  rw [e1, e1, e2 31 _ (by decide), e2 31 _ (by decide)]
  obtain ⟨h1, h2, h3, h4, h5⟩ := H
  obtain ⟨m1, m2, m3, m4, m5⟩ := M
  refine ⟨⟨h1, h2, fun k hk => ?_, fun b hb => by rw [e2 30 _ (by decide)]; exact h4 b hb, h5⟩, m1, m2, m3, fun k hk => ?_, fun b hb => by rw [e2 30 _ (by decide)]; exact m5 b hb⟩
  · obtain ⟨b, q, y1, y2, y3, y4, y5, y6, y7⟩ := h3 k hk
    obtain ⟨u1, -⟩ := m4 k hk
    unfold RVe
    rw [e2 0 _ (by decide), e2 1 _ (by decide), e2 2 _ (by decide), e2 3 _ (by decide), e2 4 _ (by decide), e2 5 _ (by decide), e2 6 _ (by decide), e2 7 _ (by decide), e2 8 _ (by decide)]
    exact ⟨b, q, y1, y2, y3, y4, y5, y6, fun p hp => by rw [e2 _ _ (by omega), e2 _ _ (by omega)]; exact y7 p hp⟩
  · obtain ⟨u1, u2, u3, u4, u5, u6, u7, u8⟩ := m4 k hk
    unfold MVe
    rw [e2 0 _ (by decide), e2 1 _ (by decide), e2 2 _ (by decide), e2 3 _ (by decide), e2 4 _ (by decide), e2 5 _ (by decide), e2 7 _ (by decide), e2 8 _ (by decide), e2 9 _ (by decide)]
    exact ⟨u1, u2, u3, u4, u5, u6, fun p hp => by rw [e2 _ _ (by omega), e2 _ _ (by omega)]; exact u7 p hp, by rw [u8]; exact (sgm_c _ (by omega) (fun w hw => e2 w k hw)).symm⟩
/-- all voices told -/
def RVs (μ : pm_T) (s : Nat) (h : ah_T) : Prop := ∀ n : Nat, (n : Int) < μ 0 7 → RVo μ n (s + 7 + 14 * n) h ∧ MVo μ n
theorem RVs_f {μ : pm_T} {s : Nat} {h h' : ah_T} {W : Nat → Nat → Prop} (H : RVs μ s h) (h4 : μ 0 7 ≤ 4) (f : fr W h h') (hW : ∀ (a k : Nat), W a k → a < s + 7 ∨ s + 62 < a) : RVs μ s h' := fun n hn =>
  ⟨RVo_f (H n hn).1 f (fun a k w => by have := hW a k w; omega), (H n hn).2⟩
theorem RVs_m {μ μ' : pm_T} {s : Nat} {h : ah_T} (H : RVs μ s h) (e7 : μ' 0 7 = μ 0 7) (e : ∀ a k, 10 ≤ a → μ' a k = μ a k) : RVs μ' s h := fun n hn =>
  RVo_m (H n (by omega)).1 (H n (by omega)).2 (fun a k w => e a k (by unfold vrow at w; omega))
/-- the tokens, the score with its voices; no fault -/
def RCv (t : tk_T) (m i : Nat) (μ : pm_T) (s : Nat) (h : ah_T) : Prop := RCs t m i μ s h ∧ RVs μ s h
abbrev WX (s : Nat) : Nat → Nat → Prop := fun a k => (a = 3 ∧ (k = 5 ∨ 9 ≤ k)) ∨ a = 2 ∨ (9 ≤ a ∧ a ≤ 16) ∨ (s ≤ a ∧ a ≤ s + 62)
def PIc (t : tk_T) (m s : Nat) (R : F_T ⊕ (Nat × pm_T)) (z : Int) (h' : ah_T) : Prop := match R with
  | .inl q => z = 0 ∧ h'.2.1 2 6 = q.1 ∧ h'.2.1 2 7 = q.2
  | .inr q => z = 1 ∧ RCv t m q.1 q.2 s h'
abbrev QI (t : tk_T) (m s : Nat) (R : F_T ⊕ (Nat × pm_T)) (h : ah_T) : Option av_T → ah_T → Prop := fun r h' => ∃ z, r = some (av_I z) ∧ hb s h' ∧ fr (WX s) h h' ∧ (z = 0 ∨ z = 1) ∧ PIc t m s R z h'
theorem t_voice {G : cx_T} {s : Nat} {h : ah_T} {t : tk_T} {m i : Nat} {μ : pm_T} (hb0 : hb s h) (hT : TG t m) (H : RCv t m i μ s h) (hg : gk (tK t i)) : con G 22 0 0 m_Reader_readVoice [av_R (some 2)] h (QI t m s (sp_voice t i μ) h) := by
  have hs : s = 17 ∨ s = 80 := hb0.2.1
  obtain ⟨H, HV⟩ := H
  have b7 := H.2.1.2.1.2.2.2.2
  have im : i < m ∧ m ≤ 2001 := ⟨H.1.2.2.1, H.1.2.2.2.1⟩
  by_cases h74 : μ 0 7 < 4
  case neg =>
    have es : sp_voice t i μ = .inl (3, tP t i) := by unfold sp_voice; rw [if_neg h74]
    refine c_Reader_readVoice (X51 := fun _ _ _ _ _ => False) (fun _ _ _ _ _ _ _ w => w.elim) hb0 ?_
    unfold B_Reader_readVoice_0
    intro x2 y2 _ _
    refine con_mono (t_Score_newVoice hb0 H) ?_
    rintro r h4 ⟨hb4, ⟨w, ew, hw, h7, rfl, H4, f4, q1, q2, q3⟩ | ⟨h7, rfl, rfl⟩⟩
    · exact absurd h7 h74
    · refine ⟨none, rfl, hb4, Or.inl ⟨rfl, ?_⟩⟩
      refine con_mono (tt_Reader_blame hb4) ?_
      rintro r h14 ⟨z, rfl, hb14, f14, rfl, w1, w2⟩
      exact ⟨0, rfl, hb14, Or.inl rfl, 0, rfl, hb14, fr_w f14 (fun a k w => by omega), Or.inl rfl, by rw [es]; exact ⟨rfl, w1, by rw [w2, y2, (RCs_b H).2.1]⟩⟩
  refine con_mono (t_Reader_readVoice (T := fun π h' => TW π (s + 7 + 14 * (μ 0 7).toNat) h' ∧ RPc π (s + 7 + 14 * (μ 0 7).toNat) h' ∧ PW π) hb0 hT H hg ?_ ?_) ?_
  · rintro π h1 h' ⟨T1, R1, P1⟩ f
    obtain ⟨x1, x2, x3, x4, x5⟩ := T1
    exact ⟨⟨WKe_f x1 f (fun a k w => by omega), x2, x3, by rw [fr_g f (by omega)]; exact x4, by rw [fr_g f (by omega)]; exact x5⟩, RPc_t R1 P1 f (by omega), P1⟩
  · intro π hh j f hb1 h4 R P hz e
    have hv : isV (s + 7 + 14 * (μ 0 7).toNat) := by unfold isV; omega
    refine con_mono (t_Parts_walkInto hv hb1 R P hz (sp_parts_RG e).1) ?_
    rintro r h' ⟨z, rfl, hb2, f2, ez, hz2⟩
    exact ⟨z, rfl, hb2, f2, ez, fun z0 => ⟨(hz2 z0).2, (hz2 z0).1, P⟩⟩
  · rintro r h' ⟨z, rfl, hb2, f2, z01, p2⟩
    have h4 : μ 0 7 ≤ 4 := b7.2
    refine ⟨z, rfl, hb2, fr_w f2 (fun a k w => by omega), z01, ?_⟩
    rcases n1 : sp_voice t i μ with q | q
    · rw [n1] at p2; exact p2
    · rw [n1] at p2
      obtain ⟨rfl, H2, π, ⟨T1, R1, P1⟩, -, eq⟩ := p2
      refine ⟨rfl, H2, fun n hn => ?_⟩
      have e7 : q.2 0 7 = μ 0 7 + 1 := by rw [eq, addV_7]
      have h3 : μ 0 7 ≤ 3 := by have := H2.2.1.2.1.2.2.2.2; omega
      by_cases c : n = (μ 0 7).toNat
      · rw [eq, c]
        exact MVo_w rfl T1 R1 P1
      · have hn2 : (n : Int) < μ 0 7 := by omega
        obtain ⟨a1, a2⟩ := HV n hn2
        rw [eq]
        exact RVo_m (RVo_f a1 f2 (fun a k w => by omega)) a2 (fun a k w => addV_b (n := n) (by omega) w (by omega))

/-! ===== the reference's reader: items but voices ===== -/
theorem ek_0 {K : Int} : ek K = 0 ↔ K = 256 := by unfold ek; (repeat' split) <;> omega
theorem ek_6 {K : Int} : ek K = 6 ↔ K = 257 := by unfold ek; (repeat' split) <;> omega
theorem ek_1 {K : Int} : ek K = 1 ↔ K = 258 := by unfold ek; (repeat' split) <;> omega
theorem ek_3 {K : Int} : ek K = 3 ↔ K = 259 := by unfold ek; (repeat' split) <;> omega
theorem ek_2 {K : Int} : ek K = 2 ↔ K = 260 := by unfold ek; (repeat' split) <;> omega
theorem ek_4 {K : Int} : ek K = 4 ↔ (261 ≤ K ∧ K ≤ 266) := by unfold ek; (repeat' split) <;> omega
theorem ek_5 {K : Int} : ek K = 5 ↔ ¬ (256 ≤ K ∧ K ≤ 266) := by unfold ek; (repeat' split) <;> omega
def nz (x : Int) : Int := if x = -1 then -2 else x
/-- the score that is read, in the second half of the reference's rows -/
def RSn (μ : pm_T) (h : ah_T) : Prop := (h.2.1 173 1 = μ 0 1 ∧ h.2.1 174 1 = μ 0 2 ∧ h.2.1 175 1 = μ 0 3 ∧ h.2.1 177 1 = μ 0 4 ∧ h.2.1 181 1 = μ 0 5 ∧ h.2.1 183 1 = μ 0 6 ∧ h.2.1 172 1 = μ 0 7) ∧
  ((0 ≤ μ 0 3 ∧ μ 0 3 ≤ 8) ∧ (0 ≤ μ 0 4 ∧ μ 0 4 ≤ 24) ∧ (0 ≤ μ 0 5 ∧ μ 0 5 ≤ 12) ∧ (0 ≤ μ 0 6 ∧ μ 0 6 ≤ 16) ∧ (0 ≤ μ 0 7 ∧ μ 0 7 ≤ 4)) ∧
  (∀ j : Nat, (j : Int) < μ 0 3 → h.2.1 176 (8 + j) = μ 1 j) ∧ (∀ j : Nat, (j : Int) < μ 0 4 → h.2.1 178 (24 + j) = μ 2 j ∧ h.2.1 179 (24 + j) = μ 3 j ∧ h.2.1 180 (24 + j) = nz (μ 4 j)) ∧ (∀ j : Nat, (j : Int) < μ 0 5 → h.2.1 182 (12 + j) = μ 5 j) ∧ (∀ j : Nat, (j : Int) < μ 0 6 → h.2.2.1 184 (16 + j) = μ 6 j)
def RH (μ : pm_T) (h : ah_T) : Prop := h.2.1 170 59 = μ 0 0 ∧ (h.2.1 170 60 = 0 ↔ μ 0 3 ≤ 0) ∧ (h.2.1 170 61 = 0 ↔ μ 0 5 ≤ 0)
theorem RSn_f {μ : pm_T} {W : Nat → Nat → Prop} {h h' : ah_T} (H : RSn μ h) (f : fr W h h') (hW : ∀ a k, W a k → a < 172 ∨ 184 < a) : RSn μ h' := by
  have g : ∀ a k, 172 ≤ a → a ≤ 184 → h'.2.1 a k = h.2.1 a k := fun a k h1 h2 => fr_g f (fun q => by have := hW a k q; omega)
  have gl : ∀ k, h'.2.2.1 184 k = h.2.2.1 184 k := fun k => fr_gl f (fun q => by have := hW _ k q; omega)
  obtain ⟨a1, a2, a3, a4, a5, a6⟩ := H
  refine ⟨?_, a2, fun j hj => ?_, fun j hj => ?_, fun j hj => ?_, fun j hj => ?_⟩
  · rw [g _ _ (by decide) (by decide), g _ _ (by decide) (by decide), g _ _ (by decide) (by decide), g _ _ (by decide) (by decide), g _ _ (by decide) (by decide), g _ _ (by decide) (by decide), g _ _ (by decide) (by decide)]; exact a1
  · rw [g _ _ (by decide) (by decide)]; exact a3 j hj
  · rw [g _ _ (by decide) (by decide), g _ _ (by decide) (by decide), g _ _ (by decide) (by decide)]; exact a4 j hj
  · rw [g _ _ (by decide) (by decide)]; exact a5 j hj
  · rw [gl]; exact a6 j hj
theorem RH_f {μ : pm_T} {W : Nat → Nat → Prop} {h h' : ah_T} (H : RH μ h) (f : fr W h h') (hW : ∀ k, 59 ≤ k → k ≤ 61 → ¬ W 170 k) : RH μ h' := by
  unfold RH
  rw [fr_g f (hW 59 (by decide) (by decide)), fr_g f (hW 60 (by decide) (by decide)), fr_g f (hW 61 (by decide) (by decide))]
  exact H
abbrev tx_T : Type := (Nat → Int) × Nat × tk_T × Nat × (Nat → Nat) × (Nat → Nat)
/-- the text X: bytes, how many, table, how many tokens, places, ends -/
def RMs (X : tx_T) (i : Nat) (μ : pm_T) (h : ah_T) : Prop := RMt X.1 X.2.1 X.2.2.1 X.2.2.2.1 X.2.2.2.2.2 X.2.2.2.2.1 i h ∧ RSn μ h ∧ h.2.1 170 11 = 0
def XA (X : tx_T) : Prop := TkA X.1 X.2.1 X.2.2.1 X.2.2.2.1 X.2.2.2.2.1 X.2.2.2.2.2
/-- what reading an item writes -/
abbrev WJ : Nat → Nat → Prop := fun a k => (a = 170 ∧ ((3 ≤ k ∧ k ≤ 12) ∨ (43 ≤ k ∧ k ≤ 78 ∧ k ≠ 62))) ∨ ((a = 172 ∨ a = 173 ∨ a = 174 ∨ a = 175 ∨ a = 177 ∨ a = 181 ∨ a = 183) ∧ k = 1) ∨ (a = 176 ∧ 8 ≤ k) ∨ ((a = 178 ∨ a = 179 ∨ a = 180) ∧ 24 ≤ k) ∨ (a = 182 ∧ 12 ≤ k) ∨ (a = 184 ∧ 16 ≤ k)
theorem WM_J : ∀ a k, WM a k → WJ a k := fun a k q => Or.inl ⟨q.1, Or.inl ⟨q.2.1, by omega⟩⟩
def PBm (X : tx_T) (R : F_T ⊕ (Nat × pm_T)) (z : Int) (h' : ah_T) : Prop := match R with
  | .inl q => z = 0 ∧ h'.2.1 170 11 = q.1 ∧ h'.2.1 170 12 = q.2
  | .inr q => z = 1 ∧ RMs X q.1 q.2 h' ∧ RH q.2 h'
abbrev QC (s : Nat) (X : tx_T) (R : F_T ⊕ (Nat × pm_T)) (h : ah_T) : Option av_T → ah_T → Prop := fun r h' => ∃ z, r = some (av_I z) ∧ hb s h' ∧ fr WJ h h' ∧ (z = 0 ∨ z = 1) ∧ PBm X R z h'
abbrev WK : Nat → Nat → Prop := fun a k => a = 170 ∧ 3 ≤ k ∧ k ≤ 12
theorem WK_J : ∀ a k, WK a k → WJ a k := fun a k q => Or.inl ⟨q.1, Or.inl q.2⟩
theorem WM_K : ∀ a k, WM a k → WK a k := fun a k q => ⟨q.1, q.2.1, by omega⟩
theorem t_MD_wrongk {G : cx_T} {s : Nat} {h : ah_T} {a1 a2 : Int} (hb0 : hb s h) (h0 : h.2.1 170 11 = 0) : con G 0 0 0 m_MD_wrong [av_R (some 170), av_I a1, av_I a2] h (fun r h' => ∃ z, r = some (av_I z) ∧ hb s h' ∧ fr WK h h' ∧ z = 0 ∧ h'.2.1 170 11 = a1 ∧ h'.2.1 170 12 = a2) := by
  refine c_MD_wrong hb0 (fun _ _ => ?_)
  unfold B_MD_wrong_0 B_MD_wrong_17
  intro x1 e1 _ _
  exact ⟨fun _ h2 e2 h4 e4 => ⟨0, rfl, hb_i (hb_i hb0 e2) e4, fr_i (fr_i fr_0 e2 ⟨rfl, by decide⟩) e4 ⟨rfl, by decide⟩, rfl, by rw [mm_i e4 (by decide), mv_i e2], mv_i e4⟩, fun c => absurd (e1.trans h0) c⟩
theorem t_MD_cantk {G : cx_T} {s : Nat} {h : ah_T} {X : tx_T} {i : Nat} {μ : pm_T} (hb0 : hb s h) (H : RMs X i μ h) : con G 1 0 0 m_MD_cant [av_R (some 170)] h (fun r h' => ∃ z, r = some (av_I z) ∧ hb s h' ∧ fr WK h h' ∧ z = 0 ∧ h'.2.1 170 11 = (cn X.2.2.1 i).1 ∧ h'.2.1 170 12 = (cn X.2.2.1 i).2) := by
  obtain ⟨⟨-, -, r3, r4, -⟩, -, h0⟩ := H
  refine c_MD_cant hb0 ?_
  unfold B_MD_cant_0 B_MD_cant_15 cn
  intro x1 e1 _ _
  have hk : x1 = 6 ↔ tK X.2.2.1 i = 257 := by rw [e1, r4]; exact ek_6
  refine ⟨fun c y ey _ _ => ?_, fun c y ey _ _ => ?_⟩
  · refine con_mono (t_MD_wrongk hb0 h0) ?_
    rintro r h' ⟨z, rfl, hb1, f1, rfl, q1, q2⟩
    exact ⟨0, rfl, hb1, Or.inl rfl, 0, rfl, hb1, f1, rfl, by rw [q1, if_pos (hk.mp c)], by rw [q2, ey, r3]⟩
  · refine con_mono (t_MD_wrongk hb0 h0) ?_
    rintro r h' ⟨z, rfl, hb1, f1, rfl, q1, q2⟩
    exact ⟨0, rfl, hb1, Or.inl rfl, 0, rfl, hb1, f1, rfl, by rw [q1, if_neg (fun w => c (hk.mpr w))], by rw [q2, ey, r3]⟩
theorem t_MD_wrong {G : cx_T} {s : Nat} {h : ah_T} {a1 a2 : Int} (hb0 : hb s h) (h0 : h.2.1 170 11 = 0) : con G 0 0 0 m_MD_wrong [av_R (some 170), av_I a1, av_I a2] h (fun r h' => ∃ z, r = some (av_I z) ∧ hb s h' ∧ fr WJ h h' ∧ z = 0 ∧ h'.2.1 170 11 = a1 ∧ h'.2.1 170 12 = a2) := by
  refine con_mono (t_MD_wrongk hb0 h0) ?_
  rintro r h' ⟨z, q1, q2, q3, q4⟩
  exact ⟨z, q1, q2, fr_w q3 WK_J, q4⟩
theorem t_MD_cant {G : cx_T} {s : Nat} {h : ah_T} {X : tx_T} {i : Nat} {μ : pm_T} (hb0 : hb s h) (H : RMs X i μ h) : con G 1 0 0 m_MD_cant [av_R (some 170)] h (fun r h' => ∃ z, r = some (av_I z) ∧ hb s h' ∧ fr WJ h h' ∧ z = 0 ∧ h'.2.1 170 11 = (cn X.2.2.1 i).1 ∧ h'.2.1 170 12 = (cn X.2.2.1 i).2) := by
  refine con_mono (t_MD_cantk hb0 H) ?_
  rintro r h' ⟨z, q1, q2, q3, q4⟩
  exact ⟨z, q1, q2, fr_w q3 WK_J, q4⟩
theorem t_MD_isSign {G : cx_T} {s : Nat} {h : ah_T} {X : tx_T} {i : Nat} {μ : pm_T} {k : Int} (hb0 : hb s h) (hA : XA X) (H : RMs X i μ h) (hk : isSg k) : con G 0 0 0 m_MD_isSign [av_R (some 170), av_I k] h (fun r h' => ∃ z, r = some (av_I z) ∧ hb s h' ∧ h' = h ∧ (z = 0 ∨ z = 1) ∧ (z = 0 ↔ ¬ tK X.2.2.1 i = k)) := by
  obtain ⟨⟨-, r2, r3, r4, r5, r6, -⟩, -, -⟩ := H
  have ko := TkA_k hA r2
  refine c_MD_isSign hb0 (fun _ => ?_)
  unfold B_MD_isSign_0 B_MD_isSign_20 B_MD_isSign_21
  have kr : ¬ (256 ≤ k ∧ k ≤ 266) := by unfold isSg at hk; omega
  intro x1 e1 _ _
  refine ⟨fun c x2 e2 _ _ => ?_, fun c => ⟨Or.inl rfl, 0, rfl, hb0, rfl, Or.inl rfl, ⟨fun _ w => ?_, fun _ => rfl⟩⟩⟩
  · have k5 : ¬ (256 ≤ tK X.2.2.1 i ∧ tK X.2.2.1 i ≤ 266) := ek_5.mp (by rw [← r4, ← e1]; exact c)
    have ks : isSg (tK X.2.2.1 i) := ko.elim (fun w => absurd w k5) id
    have ev := r6 ks
    exact ⟨fun d => ⟨Or.inr rfl, 1, rfl, hb0, rfl, Or.inr rfl, ⟨fun w => absurd w (by decide), fun w => absurd (by rw [← ev, ← e2]; exact d) w⟩⟩, fun d => ⟨Or.inl rfl, 0, rfl, hb0, rfl, Or.inl rfl, ⟨fun _ w => d (by rw [e2, ev]; exact w), fun _ => rfl⟩⟩⟩
  · exact c (by rw [e1, r4]; exact ek_5.mpr (by rw [w]; exact kr))
theorem t_MD_isWord {G : cx_T} {s : Nat} {h : ah_T} {X : tx_T} {i : Nat} {μ : pm_T} {k : Int} (hb0 : hb s h) (H : RMs X i μ h) (hk : 0 ≤ k ∧ k ≤ 5) : con G 0 0 0 m_MD_isWord [av_R (some 170), av_I k] h (fun r h' => ∃ z, r = some (av_I z) ∧ hb s h' ∧ h' = h ∧ (z = 0 ∨ z = 1) ∧ (z = 0 ↔ ¬ tK X.2.2.1 i = 261 + k)) := by
  obtain ⟨⟨-, r2, r3, r4, r5, r6, -⟩, -, -⟩ := H
  refine c_MD_isWord hb0 (fun _ => ?_)
  unfold B_MD_isWord_0 B_MD_isWord_20 B_MD_isWord_21
  intro x1 e1 _ _
  refine ⟨fun c x2 e2 _ _ => ?_, fun c => ⟨Or.inl rfl, 0, rfl, hb0, rfl, Or.inl rfl, ⟨fun _ w => ?_, fun _ => rfl⟩⟩⟩
  · have k4 := ek_4.mp (by rw [← r4, ← e1]; exact c)
    have ev := r5 k4
    exact ⟨fun d => ⟨Or.inr rfl, 1, rfl, hb0, rfl, Or.inr rfl, by omega⟩, fun d => ⟨Or.inl rfl, 0, rfl, hb0, rfl, Or.inl rfl, by omega⟩⟩
  · exact c (by rw [e1, r4]; exact ek_4.mpr (by omega))
theorem t_MD_step {G : cx_T} {s : Nat} {h : ah_T} {X : tx_T} {i : Nat} {μ : pm_T} (hb0 : hb s h) (hA : XA X) (H : RMs X i μ h) (hg : gk (tK X.2.2.1 i)) : con G 2 0 0 m_MD_next [av_R (some 170)] h (fun r h' => ∃ z, r = some (av_I z) ∧ hb s h' ∧ fr WM h h' ∧ RMs X (i + 1) μ h' ∧ z = 1) := by
  refine con_mono (t_MD_next hb0 hA H.1 hg (TkA_n hA H.1.2.1 hg)) ?_
  rintro r h' ⟨z, rfl, hb1, f1, r1, rfl⟩
  exact ⟨1, rfl, hb1, f1, ⟨r1, RSn_f H.2.1 f1 (fun a k q => by omega), (fr_g f1 (by omega)).trans H.2.2⟩, rfl⟩
theorem RH_M {μ : pm_T} {h h' : ah_T} (H : RH μ h) (f : fr WM h h') : RH μ h' := RH_f H f (fun k h1 h2 q => by omega)
abbrev QCk (s : Nat) (X : tx_T) (R : F_T ⊕ (Nat × pm_T)) (h : ah_T) : Option av_T → ah_T → Prop := fun r h' => ∃ z, r = some (av_I z) ∧ hb s h' ∧ fr WK h h' ∧ (z = 0 ∨ z = 1) ∧ PBm X R z h'
theorem t_MD_wantk {G : cx_T} {s : Nat} {h : ah_T} {X : tx_T} {i : Nat} {μ : pm_T} {k : Int} (hb0 : hb s h) (hA : XA X) (H : RMs X i μ h) (hR : RH μ h) (hk : isSg k) : con G 3 0 0 m_MD_want [av_R (some 170), av_I k] h (QCk s X (bnd (sp_take X.2.2.1 i k) fun _ => .inr (i + 1, μ)) h) := by
  refine c_MD_want hb0 (fun _ => ?_)
  unfold B_MD_want_0 B_MD_want_19
  refine con_mono (t_MD_isSign hb0 hA H hk) ?_
  rintro r h1 ⟨z3, rfl, hb1, rfl, -, z02⟩
  refine ⟨z3, rfl, hb1, fun c => ?_, fun c => ?_⟩
  · refine con_mono (t_MD_cantk hb1 H) ?_
    rintro r h' ⟨z, rfl, hb2, f2, rfl, q1, q2⟩
    refine ⟨0, rfl, hb2, Or.inl rfl, 0, rfl, hb2, f2, Or.inl rfl, ?_⟩
    rw [sp_take, if_neg (z02.mp c)]
    exact ⟨rfl, q1, q2⟩
  · have e : tK X.2.2.1 i = k := Classical.not_not.mp (fun w => c (z02.mpr w))
    refine con_mono (t_MD_step hb1 hA H (by rw [e]; unfold isSg at hk; unfold gk; omega)) ?_
    rintro r h' ⟨z, rfl, hb2, f2, H2, rfl⟩
    refine ⟨1, rfl, hb2, Or.inr rfl, 1, rfl, hb2, fr_w f2 WM_K, Or.inr rfl, ?_⟩
    rw [sp_take, if_pos e]
    exact ⟨rfl, H2, RH_M hR f2⟩
theorem t_MD_want {G : cx_T} {s : Nat} {h : ah_T} {X : tx_T} {i : Nat} {μ : pm_T} {k : Int} (hb0 : hb s h) (hA : XA X) (H : RMs X i μ h) (hR : RH μ h) (hk : isSg k) : con G 3 0 0 m_MD_want [av_R (some 170), av_I k] h (QC s X (bnd (sp_take X.2.2.1 i k) fun _ => .inr (i + 1, μ)) h) := by
  refine con_mono (t_MD_wantk hb0 hA H hR hk) ?_
  rintro r h' ⟨z, q1, q2, q3, q4⟩
  exact ⟨z, q1, q2, fr_w q3 WK_J, q4⟩
theorem pw_ok : ∀ k : Nat, k < 65 → (an_I k (k - 1) = 0 ↔ (k = 0 ∨ pwb k = true)) := by decide +kernel
theorem t_MD_isPower {G : cx_T} {s : Nat} {h : ah_T} {v most : Int} (hb0 : hb s h) (hm : most ≤ 64) : con G 0 0 0 m_MD_isPower [av_R (some 170), av_I v, av_I most] h (fun r h' => ∃ z, r = some (av_I z) ∧ hb s h' ∧ h' = h ∧ (z = 0 ∨ z = 1) ∧ (z = 0 ↔ ¬ ((1 ≤ v ∧ v ≤ most) ∧ pwb v = true))) := by
  refine c_MD_isPower hb0 (fun _ _ => ?_)
  unfold B_MD_isPower_0 B_MD_isPower_22 B_MD_isPower_23
  refine ⟨fun c => ⟨Or.inl rfl, 0, rfl, hb0, rfl, Or.inl rfl, ⟨fun _ w => by omega, fun _ => rfl⟩⟩, fun c => ⟨fun c1 => ⟨Or.inl rfl, 0, rfl, hb0, rfl, Or.inl rfl, ⟨fun _ w => by omega, fun _ => rfl⟩⟩, fun c1 => ⟨⟨by omega, by omega⟩, fun x2 e2 _ _ => ?_⟩⟩⟩
  obtain ⟨k, rfl⟩ : ∃ k : Nat, v = k := ⟨v.toNat, by omega⟩
  have hp := pw_ok k (by omega)
  have ex : x2 = an_I k (k - 1) := e2
  exact ⟨fun d => ⟨Or.inr rfl, 1, rfl, hb0, rfl, Or.inr rfl, ⟨fun w => absurd w (by decide), fun w => absurd ⟨⟨by omega, by omega⟩, (hp.mp (ex.symm.trans d)).elim (fun q => by omega) id⟩ w⟩⟩, fun d => ⟨Or.inl rfl, 0, rfl, hb0, rfl, Or.inl rfl, ⟨fun _ w => d (ex.trans (hp.mpr (Or.inr w.2))), fun _ => rfl⟩⟩⟩

/-! ===== the reference's reader, 2: time, line ===== -/
theorem RMs_f {X : tx_T} {i : Nat} {μ : pm_T} {W : Nat → Nat → Prop} {h h' : ah_T} (H : RMs X i μ h) (f : fr W h h') (hW : ∀ a k, W a k → (a = 170 ∧ 12 < k) ∨ (a ≠ 170 ∧ a ≠ 171)) (h2 : RSn μ h') : RMs X i μ h' :=
  ⟨RMt_f H.1 f (fun a k q => by have := hW a k q; omega), h2, (fr_g f (fun q => by have := hW _ _ q; omega)).trans H.2.2⟩
theorem RMs_m {X : tx_T} {i : Nat} {μ μ' : pm_T} {h : ah_T} (H : RMs X i μ h) (h2 : RSn μ' h) : RMs X i μ' h := ⟨H.1, h2, H.2.2⟩
/-- numbers and pitches of a text are small -/
theorem sw_b {b : Int} (h0 : 65 ≤ b) (h1 : b ≤ 71) : 0 ≤ sw b ∧ sw b ≤ 6 := by unfold sw; split <;> omega
theorem XA_g {X : tx_T} (hA : XA X) : TG X.2.2.1 X.2.2.2.1 := by
  refine ⟨fun i hi hg => TkA_n hA hi hg, fun i hi hk => ?_, fun i hi hk => ?_⟩
  · obtain ⟨h1, h2, h3, h4⟩ := hA.2.1 i hi
    have w : X.2.2.2.2.1 i < X.2.1 := by
      rcases Nat.lt_or_ge (X.2.2.2.2.1 i) X.2.1 with w | w
      · exact w
      · have := (h3 (by omega)).1; omega
    obtain ⟨⟨t1, t2, t3, t4⟩, -⟩ := h4 w
    generalize X.2.2.2.2.1 i = p at *
    by_cases c1 : 65 ≤ X.1 p ∧ X.1 p ≤ 71
    · obtain ⟨q1, q2⟩ := t1 c1
      by_cases d : 48 ≤ tb X.1 X.2.1 (p + 1 + mk X.1 X.2.1 p) ∧ tb X.1 X.2.1 (p + 1 + mk X.1 X.2.1 p) ≤ 56
      · have := (q1 d).1; omega
      · have := q2 d; omega
    · by_cases c2 : isSm (X.1 p)
      · obtain ⟨-, s1, s2⟩ := t2 c2
        by_cases c : 8 < X.2.2.2.2.2 i - p
        · have := s1 c; omega
        · have := (s2 (by omega)).1; have := knm_b (x := lvl X.1 p (X.2.2.2.2.2 i - p)); omega
      · by_cases c3 : isDg (X.1 p)
        · obtain ⟨⟨⟨r1, r2⟩, r3, r4⟩, s1, s2⟩ := t3 c3
          by_cases c : 4 < X.2.2.2.2.2 i - p
          · have := s1 c; omega
          · have e := (s2 (by omega)).2
            have hb := nvl_b (T := X.1) (p := p) (X.2.2.2.2.2 i - p) (fun j a b => r3 j a (by omega))
            have h10 : (10 : Int) ^ (X.2.2.2.2.2 i - p) ≤ 10000 := by
              have : X.2.2.2.2.2 i - p = 0 ∨ X.2.2.2.2.2 i - p = 1 ∨ X.2.2.2.2.2 i - p = 2 ∨ X.2.2.2.2.2 i - p = 3 ∨ X.2.2.2.2.2 i - p = 4 := by omega
              rcases this with w | w | w | w | w <;> rw [w] <;> decide
            omega
        · obtain ⟨-, a2, a3⟩ := t4 c1 c2 c3
          by_cases c : isSg (X.1 p)
          · have := a2 c; unfold isSg at c; omega
          · have := a3 c; omega
  · obtain ⟨h1, h2, h3, h4⟩ := hA.2.1 i hi
    have w : X.2.2.2.2.1 i < X.2.1 := by
      rcases Nat.lt_or_ge (X.2.2.2.2.1 i) X.2.1 with w | w
      · exact w
      · have := (h3 (by omega)).1; omega
    obtain ⟨⟨t1, t2, t3, t4⟩, -⟩ := h4 w
    generalize X.2.2.2.2.1 i = p at *
    by_cases c1 : 65 ≤ X.1 p ∧ X.1 p ≤ 71
    · obtain ⟨q1, q2⟩ := t1 c1
      by_cases d : 48 ≤ tb X.1 X.2.1 (p + 1 + mk X.1 X.2.1 p) ∧ tb X.1 X.2.1 (p + 1 + mk X.1 X.2.1 p) ≤ 56
      · obtain ⟨-, e2, e3, -⟩ := q1 d
        have := wh_b (b := X.1 p)
        have := sw_b c1.1 c1.2
        have := mk_2 (T := X.1) (n := X.2.1) (p := p)
        have e4 : -2 ≤ (if tb X.1 X.2.1 (p + 1) = 35 then (mk X.1 X.2.1 p : Int) else -(mk X.1 X.2.1 p : Int)) ∧ (if tb X.1 X.2.1 (p + 1) = 35 then (mk X.1 X.2.1 p : Int) else -(mk X.1 X.2.1 p : Int)) ≤ 2 := by split <;> omega
        omega
      · have := q2 d; omega
    · by_cases c2 : isSm (X.1 p)
      · obtain ⟨-, s1, s2⟩ := t2 c2
        by_cases c : 8 < X.2.2.2.2.2 i - p
        · have := s1 c; omega
        · have := (s2 (by omega)).1; have := knm_b (x := lvl X.1 p (X.2.2.2.2.2 i - p)); omega
      · by_cases c3 : isDg (X.1 p)
        · obtain ⟨-, s1, s2⟩ := t3 c3
          by_cases c : 4 < X.2.2.2.2.2 i - p
          · have := s1 c; omega
          · have := (s2 (by omega)).1; omega
        · obtain ⟨-, a2, a3⟩ := t4 c1 c2 c3
          by_cases c : isSg (X.1 p)
          · have := a2 c; unfold isSg at c; omega
          · have := a3 c; omega
theorem sg_47 : isSg 47 := by unfold isSg; decide
theorem sg_59 : isSg 59 := by unfold isSg; decide
theorem sg_61 : isSg 61 := by unfold isSg; decide
theorem sg_58 : isSg 58 := by unfold isSg; decide
theorem gk_s {K k : Int} (h : K = k) (hs : isSg k) : gk K := by unfold isSg at hs; exact ⟨by omega, by omega⟩
theorem t_MD_timeItem {G : cx_T} {s : Nat} {h : ah_T} {X : tx_T} {i : Nat} {μ : pm_T} (hb0 : hb s h) (hA : XA X) (H : RMs X i μ h) (hR : RH μ h) (hg : gk (tK X.2.2.1 i)) : con G 4 0 0 m_MD_timeItem [av_R (some 170)] h (QC s X (sp_time X.2.2.1 i μ) h) := by
  have h59 := hR.1
  refine c_MD_timeItem hb0 ?_
  unfold B_MD_timeItem_0
  intro x1 e1 _
  refine ⟨fun c h2 e2 => ?_, fun c x45 e45 _ _ => ?_⟩
  · rw [sp_time, if_pos (by omega)]
    have hb2 := hb_i hb0 e2
    have f2 := fr_i (W := WJ) fr_0 e2 (Or.inl ⟨rfl, Or.inr (by decide)⟩)
    have g2 := fr_i (W := fun a k => a = 170 ∧ k = 59) fr_0 e2 ⟨rfl, rfl⟩
    have H2 := RMs_f H g2 (fun a k q => by omega) (RSn_f H.2.1 g2 (fun a k q => by omega))
    refine con_mono (t_MD_step hb2 hA H2 hg) ?_
    rintro r h4 ⟨z6, rfl, hb4, f4, H4, -⟩
    have f24 := fr_t f2 f4 WM_J
    have n4 := H4.1.2.2.2.1
    have r5 := H4.1.2.2.1
    refine ⟨z6, rfl, hb4, fun x7 e7 _ _ => ⟨fun c1 x8 e8 _ _ => ?_, fun c1 => ?_⟩⟩
    · have hk : tK X.2.2.1 (i + 1) = 259 := ek_3.mp (by rw [← n4, ← e7]; exact c1)
      have ev : x8 = tV' X.2.2.1 (i + 1) := e8.trans (H4.1.2.2.2.2.2.2.1 hk)
      have bad : ¬ (1 ≤ tV' X.2.2.1 (i + 1) ∧ tV' X.2.2.1 (i + 1) ≤ 32) → B_MD_timeItem_57 G s h4 (QC s X (bnd (sp_num X.2.2.1 (i + 1) 32 false) fun a => bnd (sp_take X.2.2.1 (i + 2) 47) fun _ => bnd (sp_num X.2.2.1 (i + 3) 32 true) fun b => bnd (sp_take X.2.2.1 (i + 4) 59) fun _ => .inr (i + 5, up2 (up2 (up2 μ 0 0 1) 0 1 a) 0 2 b)) h) := by
        intro hn
        unfold B_MD_timeItem_57
        intro y ey _ _
        refine con_mono (t_MD_wrong hb4 H4.2.2) ?_
        rintro r h' ⟨z, rfl, hb5, f5, rfl, q1, q2⟩
        refine ⟨0, rfl, hb5, Or.inl rfl, 0, rfl, hb5, fr_t f24 f5 (fun _ _ w => w), Or.inl rfl, ?_⟩
        rw [sp_num, if_pos hk, if_neg (fun w => hn w.1)]
        exact ⟨rfl, q1, by rw [q2, ey, r5]⟩
      refine ⟨fun d => bad (by omega), fun d => ⟨fun d1 h12 e12 => ?_, fun d1 => bad (by omega)⟩⟩
      have hn : sp_num X.2.2.1 (i + 1) 32 false = .inr x8 := by rw [sp_num, if_pos hk, if_pos ⟨⟨by omega, by omega⟩, Or.inl rfl⟩, ev]
      rw [hn]
      simp only [bnd]
      have hb12 := hb_i hb4 e12
      have f12 := fr_i f24 e12 (Or.inr (Or.inl ⟨by decide, rfl⟩))
      have g12 := fr_i (W := fun a k => a = 173 ∧ k = 1) fr_0 e12 ⟨rfl, rfl⟩
      -- the memory so far
      have R12 : RSn (up2 (up2 μ 0 0 1) 0 1 x8) h12 := by
        obtain ⟨⟨a1, a2, a3, a4, a5, a6, a7⟩, b, l, ru, ro, na⟩ := H4.2.1
        have g : ∀ a k, a ≠ 173 → h12.2.1 a k = h4.2.1 a k := fun a k q => fr_g g12 (fun w => q w.1)
        refine ⟨⟨mv_i e12, (g _ _ (by decide)).trans a2, (g _ _ (by decide)).trans a3, (g _ _ (by decide)).trans a4, (g _ _ (by decide)).trans a5, (g _ _ (by decide)).trans a6, (g _ _ (by decide)).trans a7⟩, b, fun j hj => (g _ _ (by decide)).trans (l j hj), fun j hj => ?_, fun j hj => (g _ _ (by decide)).trans (ro j hj), fun j hj => (fr_gl g12 (fun w => absurd w.1 (by decide))).trans (na j hj)⟩
        rw [g _ _ (by decide), g _ _ (by decide), g _ _ (by decide)]; exact ru j hj
      have H12 : RMs X (i + 1) (up2 (up2 μ 0 0 1) 0 1 x8) h12 := ⟨RMt_f H4.1 g12 (fun a k q => by omega), R12, (fr_g g12 (by omega)).trans H4.2.2⟩
      have RH4 : RH (up2 (up2 μ 0 0 1) 0 1 x8) h4 := by
        refine ⟨?_, ?_, ?_⟩
        · rw [fr_g f4 (by omega), mv_i e2]; rfl
        · rw [fr_g f4 (by omega), mm_i e2 (by decide)]; exact hR.2.1
        · rw [fr_g f4 (by omega), mm_i e2 (by decide)]; exact hR.2.2
      have RH12 := RH_f RH4 g12 (fun k _ _ q => by omega)
      refine con_mono (t_MD_step hb12 hA H12 (gk_of hk (by decide) (by decide))) ?_
      rintro r h14 ⟨z16, rfl, hb14, f14, H14, -⟩
      have f124 := fr_t f12 f14 WM_J
      refine ⟨z16, rfl, hb14, ?_⟩
      refine con_mono (t_MD_want hb14 hA H14 (RH_M RH12 f14) sg_47) ?_
      rintro r h17 ⟨z19, rfl, hb17, f17, -, p17⟩
      have f1417 := fr_t f124 f17 (fun _ _ w => w)
      rcases e2' : sp_take X.2.2.1 (i + 2) 47 with q | u
      · rw [show i + 1 + 1 = i + 2 from rfl, e2'] at p17
        obtain ⟨rfl, p17⟩ := p17
        exact ⟨0, rfl, hb17, fun _ => ⟨0, rfl, hb17, f1417, Or.inl rfl, rfl, p17⟩, fun d => absurd rfl d⟩
      rw [show i + 1 + 1 = i + 2 from rfl, e2'] at p17
      obtain ⟨rfl, H17, RH17⟩ := p17
      have H17' : RMs X (i + 3) (up2 (up2 μ 0 0 1) 0 1 x8) h17 := H17
      have n17 := H17'.1.2.2.2.1
      have r17 := H17'.1.2.2.1
      dsimp only
      refine ⟨1, rfl, hb17, fun d => absurd d (by decide), fun _ x20 e20 _ _ => ⟨fun c2 x21 e21 _ _ => ?_, fun c2 => ?_⟩⟩
      · have hk3 : tK X.2.2.1 (i + 3) = 259 := ek_3.mp (by rw [← n17, ← e20]; exact c2)
        have ev3 : x21 = tV' X.2.2.1 (i + 3) := e21.trans (H17'.1.2.2.2.2.2.2.1 hk3)
        refine con_mono (t_MD_isPower hb17 (by decide)) ?_
        rintro r h22 ⟨z24, rfl, hb22, rfl, -, z02⟩
        refine ⟨z24, rfl, hb22, fun d2 y ey _ _ => ?_, fun d2 x26 e26 _ _ h27 e27 => ?_⟩
        · refine con_mono (t_MD_wrong hb22 H17'.2.2) ?_
          rintro r h' ⟨z, rfl, hb5, f5, rfl, q1, q2⟩
          refine ⟨0, rfl, hb5, Or.inl rfl, 0, rfl, hb5, fr_t f1417 f5 (fun _ _ w => w), Or.inl rfl, ?_⟩
          rw [sp_num, if_pos hk3, if_neg (fun w => z02.mp d2 ⟨by rw [ev3]; exact w.1, w.2.elim (fun q => by cases q) (fun q => by rw [ev3]; exact q)⟩)]
          exact ⟨rfl, q1, by rw [q2, ey, r17]⟩
        · have hgood := Classical.not_not.mp (fun w => d2 (z02.mpr w))
          have e26' : x26 = x21 := e26.trans e21.symm
          have hn3 : sp_num X.2.2.1 (i + 3) 32 true = .inr x26 := by
            rw [sp_num, if_pos hk3, if_pos ⟨by rw [← ev3]; exact hgood.1, Or.inr (by rw [← ev3]; exact hgood.2)⟩, e26', ev3]
          rw [hn3]
          dsimp only
          have hb27 := hb_i hb22 e27
          have f27 := fr_i f1417 e27 (Or.inr (Or.inl ⟨by decide, rfl⟩))
          have g27 := fr_i (W := fun a k => a = 174 ∧ k = 1) fr_0 e27 ⟨rfl, rfl⟩
          have R27 : RSn (up2 (up2 (up2 μ 0 0 1) 0 1 x8) 0 2 x26) h27 := by
            obtain ⟨⟨a1, a2, a3, a4, a5, a6, a7⟩, b, l, ru, ro, na⟩ := H17'.2.1
            have g : ∀ a k, a ≠ 174 → h27.2.1 a k = h22.2.1 a k := fun a k q => fr_g g27 (fun w => q w.1)
            refine ⟨⟨(g _ _ (by decide)).trans a1, mv_i e27, (g _ _ (by decide)).trans a3, (g _ _ (by decide)).trans a4, (g _ _ (by decide)).trans a5, (g _ _ (by decide)).trans a6, (g _ _ (by decide)).trans a7⟩, b, fun j hj => (g _ _ (by decide)).trans (l j hj), fun j hj => ?_, fun j hj => (g _ _ (by decide)).trans (ro j hj), fun j hj => (fr_gl g27 (fun w => absurd w.1 (by decide))).trans (na j hj)⟩
            rw [g _ _ (by decide), g _ _ (by decide), g _ _ (by decide)]; exact ru j hj
          have H27 : RMs X (i + 3) (up2 (up2 (up2 μ 0 0 1) 0 1 x8) 0 2 x26) h27 := ⟨RMt_f H17'.1 g27 (fun a k q => by omega), R27, (fr_g g27 (by omega)).trans H17'.2.2⟩
          have RH27 : RH (up2 (up2 (up2 μ 0 0 1) 0 1 x8) 0 2 x26) h27 := RH_f RH17 g27 (fun k _ _ q => by omega)
          refine con_mono (t_MD_step hb27 hA H27 (gk_of hk3 (by decide) (by decide))) ?_
          rintro r h29 ⟨z31, rfl, hb29, f29, H29, -⟩
          refine ⟨z31, rfl, hb29, ?_⟩
          refine con_mono (t_MD_want hb29 hA H29 (RH_M RH27 f29) sg_59) ?_
          rintro r h32 ⟨z34, rfl, hb32, f32, z01, p32⟩
          exact ⟨z34, rfl, hb32, z01, z34, rfl, hb32, fr_t (fr_t f27 f29 WM_J) f32 (fun _ _ w => w), z01, p32⟩
      · have hk3 : ¬ tK X.2.2.1 (i + 3) = 259 := fun w => c2 (by rw [e20, n17]; exact ek_3.mpr w)
        refine con_mono (t_MD_cant hb17 H17') ?_
        rintro r h' ⟨z, rfl, hb5, f5, rfl, q1, q2⟩
        refine ⟨0, rfl, hb5, Or.inl rfl, 0, rfl, hb5, fr_t f1417 f5 (fun _ _ w => w), Or.inl rfl, ?_⟩
        rw [sp_num, if_neg hk3]
        exact ⟨rfl, q1, q2⟩
    · have hk : ¬ tK X.2.2.1 (i + 1) = 259 := fun w => c1 (by rw [e7, n4]; exact ek_3.mpr w)
      refine con_mono (t_MD_cant hb4 H4) ?_
      rintro r h' ⟨z, rfl, hb5, f5, rfl, q1, q2⟩
      refine ⟨0, rfl, hb5, Or.inl rfl, 0, rfl, hb5, fr_t f24 f5 (fun _ _ w => w), Or.inl rfl, ?_⟩
      rw [sp_num, if_neg hk]
      exact ⟨rfl, q1, q2⟩
  · rw [sp_time, if_neg (by omega)]
    refine con_mono (t_MD_wrong hb0 H.2.2) ?_
    rintro r h' ⟨z, rfl, hb1, f1, rfl, q1, q2⟩
    exact ⟨0, rfl, hb1, Or.inl rfl, 0, rfl, hb1, f1, Or.inl rfl, rfl, q1, by rw [q2, e45, H.1.2.2.1]⟩
theorem t_MD_lineItem {G : cx_T} {s : Nat} {h : ah_T} {X : tx_T} {i : Nat} {μ : pm_T} (hb0 : hb s h) (hA : XA X) (H : RMs X i μ h) (hR : RH μ h) (hg : gk (tK X.2.2.1 i)) : con G 3 0 0 m_MD_lineItem [av_R (some 170)] h (QC s X (sp_line X.2.2.1 i μ) h) := by
  -- within the item: the line's mark is set
  let I : ah_T → Prop := fun hh => fr WJ h hh ∧ ∃ (j : Nat) (ν : pm_T) (f : Nat), RMs X j ν hh ∧ (hh.2.1 170 59 = ν 0 0 ∧ hh.2.1 170 60 ≠ 0 ∧ (hh.2.1 170 61 = 0 ↔ ν 0 5 ≤ 0)) ∧ (f : Int) = 10 - ν 0 3 ∧ sp_line X.2.2.1 i μ = sp_pits X.2.2.1 f j ν
  refine c_MD_lineItem (X27 := I) ?_ hb0 ?_
  · refine lp_MD_lineItem_27 _ (fun hh => (10 - hh.2.1 175 1).toNat) ?_
    rintro hh hb1 ⟨hf, j, ν, f, Hj, ⟨k59, k60, k61⟩, ef, es⟩
    have n4 := Hj.1.2.2.2.1
    have r5 := Hj.1.2.2.1
    have e3 := Hj.2.1.1.2.2.1
    have hb8 := Hj.2.1.2.1.1
    obtain ⟨f', rfl⟩ : ∃ f', f = f' + 1 := ⟨f - 1, by omega⟩
    rw [sp_pits] at es
    unfold B_MD_lineItem_27
    intro x1 e1 _ _
    refine ⟨fun c x3 ex3 _ _ => ⟨fun c1 y ey _ _ => ?_, fun c1 => ?_⟩, fun c => ?_⟩
    · have hk : tK X.2.2.1 j = 258 := ek_1.mp (by rw [← n4, ← e1]; exact c)
      rw [if_pos hk, if_pos (by omega)] at es
      refine con_mono (t_MD_wrong hb1 Hj.2.2) ?_
      rintro r h' ⟨z, rfl, hb5, f5, rfl, q1, q2⟩
      exact ⟨0, rfl, hb5, Or.inl rfl, 0, rfl, hb5, fr_t hf f5 (fun _ _ w => w), Or.inl rfl, by rw [es]; exact ⟨rfl, q1, by rw [q2, ey, r5]⟩⟩
    · have hk : tK X.2.2.1 j = 258 := ek_1.mp (by rw [← n4, ← e1]; exact c)
      rw [if_pos hk, if_neg (by omega)] at es
      refine ⟨⟨by omega, by omega⟩, fun x8 e8 _ _ => ⟨⟨by omega, by omega⟩, fun h10 e10 => ⟨⟨by omega, by omega⟩, fun h15 e15 => ?_⟩⟩⟩
      have ev : x8 = tV' X.2.2.1 j := e8.trans (Hj.1.2.2.2.2.2.2.2.1 hk).1
      have hb15 := hb_i (hb_i hb1 e10) e15
      have f15 := fr_i (fr_i hf e10 (Or.inr (Or.inr (Or.inl ⟨rfl, by omega⟩)))) e15 (Or.inr (Or.inl ⟨by decide, rfl⟩))
      have g15 := fr_i (fr_i (W := fun a k => a = 176 ∨ (a = 175 ∧ k = 1)) fr_0 e10 (Or.inl rfl)) e15 (Or.inr ⟨rfl, rfl⟩)
      have ix : (x3 + 8).toNat = 8 + (ν 0 3).toNat := by omega
      rw [ix] at e10
      have R15 : RSn (pit X.2.2.1 j ν) h15 := by
        obtain ⟨⟨a1, a2, a3, a4, a5, a6, a7⟩, ⟨b3, b⟩, l, ru, ro, na⟩ := Hj.2.1
        have g : ∀ a k, a ≠ 176 → a ≠ 175 → h15.2.1 a k = hh.2.1 a k := fun a k q1 q2 => fr_g g15 (by omega)
        unfold pit
        refine ⟨⟨(g _ _ (by decide) (by decide)).trans a1, (g _ _ (by decide) (by decide)).trans a2, ?_, (g _ _ (by decide) (by decide)).trans a4, (g _ _ (by decide) (by decide)).trans a5, (g _ _ (by decide) (by decide)).trans a6, (g _ _ (by decide) (by decide)).trans a7⟩, ⟨⟨?_, ?_⟩, b⟩, fun j hj => ?_, fun j hj => ?_, fun j hj => (g _ _ (by decide) (by decide)).trans (ro j hj), fun j hj => (fr_gl g15 (by omega)).trans (na j hj)⟩
        · rw [mv_i e15]; show x3 + 1 = ν 0 3 + 1; omega
        · show 0 ≤ ν 0 3 + 1; omega
        · show ν 0 3 + 1 ≤ 8; omega
        · have hj : (j : Int) < ν 0 3 + 1 := hj
          show h15.2.1 176 (8 + j) = up2 ν 1 (ν 0 3).toNat (tV' X.2.2.1 _) 1 j
          rw [mm_i e15 (by omega)]
          by_cases hc : j = (ν 0 3).toNat
          · rw [hc, mv_i e10, up2_at]; exact ev
          · rw [mm_i e10 (by omega), up2_o (fun q => hc q.2)]; exact l j (by omega)
        · rw [g _ _ (by decide) (by decide), g _ _ (by decide) (by decide), g _ _ (by decide) (by decide)]; exact ru j hj
      have H15 : RMs X j (pit X.2.2.1 j ν) h15 := ⟨RMt_f Hj.1 g15 (fun a k q => by omega), R15, (fr_g g15 (by omega)).trans Hj.2.2⟩
      refine con_mono (t_MD_step hb15 hA H15 (gk_of hk (by decide) (by decide))) ?_
      rintro r h17 ⟨z19, rfl, hb17, f17, H17, -⟩
      have f157 := fr_t f15 f17 WM_J
      have y59 : h17.2.1 170 59 = ν 0 0 := by rw [fr_g f17 (by omega), fr_g g15 (by omega)]; exact k59
      have y60 : h17.2.1 170 60 ≠ 0 := by rw [fr_g f17 (by omega), fr_g g15 (by omega)]; exact k60
      have y61 : h17.2.1 170 61 = 0 ↔ ν 0 5 ≤ 0 := by rw [fr_g f17 (by omega), fr_g g15 (by omega)]; exact k61
      have e175 : h17.2.1 175 1 = x3 + 1 := by rw [fr_g f17 (by omega), mv_i e15]
      refine ⟨z19, rfl, hb17, ?_⟩
      refine con_mono (t_MD_isSign hb17 hA H17 sg_59) ?_
      rintro r h20 ⟨z22, rfl, hb20, rfl, -, z02⟩
      refine ⟨z22, rfl, hb20, fun d => ⟨⟨f157, j + 1, pit X.2.2.1 j ν, f', H17, ⟨y59, y60, y61⟩, ?_, ?_⟩, by omega⟩, fun d => ?_⟩
      · show (f' : Int) = 10 - (ν 0 3 + 1); omega
      · rw [es, if_neg (z02.mp d)]
      · have hk9 : tK X.2.2.1 (j + 1) = 59 := Classical.not_not.mp (fun w => d (z02.mpr w))
        rw [if_pos hk9] at es
        refine con_mono (t_MD_step hb20 hA H17 (gk_s hk9 sg_59)) ?_
        rintro r h' ⟨z, rfl, hb5, f5, H5, rfl⟩
        refine ⟨1, rfl, hb5, Or.inr rfl, 1, rfl, hb5, fr_t f157 f5 WM_J, Or.inr rfl, ?_⟩
        rw [es]
        refine ⟨rfl, H5, ?_, ?_, ?_⟩
        · rw [fr_g f5 (by omega)]; exact y59
        · rw [fr_g f5 (by omega)]
          exact ⟨fun w => absurd w y60, fun w => by
            have w : ν 0 3 + 1 ≤ 0 := w
            omega⟩
        · rw [fr_g f5 (by omega)]; exact y61
    · have hk : ¬ tK X.2.2.1 j = 258 := fun w => c (by rw [e1, n4]; exact ek_1.mpr w)
      rw [if_neg hk] at es
      refine con_mono (t_MD_cant hb1 Hj) ?_
      rintro r h' ⟨z, rfl, hb5, f5, rfl, q1, q2⟩
      exact ⟨0, rfl, hb5, Or.inl rfl, 0, rfl, hb5, fr_t hf f5 (fun _ _ w => w), Or.inl rfl, by rw [es]; exact ⟨rfl, q1, q2⟩⟩
  · unfold B_MD_lineItem_0
    intro x1 e1 _
    have h60 := hR.2.1
    refine ⟨fun c h2 e2 => ?_, fun c x7 e7 _ _ => ?_⟩
    · have hb2 := hb_i hb0 e2
      have f2 := fr_i (W := WJ) fr_0 e2 (Or.inl ⟨rfl, Or.inr (by decide)⟩)
      have g2 := fr_i (W := fun a k => a = 170 ∧ k = 60) fr_0 e2 ⟨rfl, rfl⟩
      have H2 := RMs_f H g2 (fun a k q => by omega) (RSn_f H.2.1 g2 (fun a k q => by omega))
      refine con_mono (t_MD_step hb2 hA H2 hg) ?_
      rintro r h4 ⟨z6, rfl, hb4, f4, H4, -⟩
      have h3 : μ 0 3 ≤ 0 := h60.mp (by omega)
      have h30 := H.2.1.2.1.1
      refine ⟨z6, rfl, hb4, fr_t f2 f4 WM_J, i + 1, μ, 10, H4, ⟨?_, ?_, ?_⟩, by omega, ?_⟩
      · rw [fr_g f4 (by omega), mm_i e2 (by decide)]; exact hR.1
      · rw [fr_g f4 (by omega), mv_i e2]; decide
      · rw [fr_g f4 (by omega), mm_i e2 (by decide)]; exact hR.2.2
      · rw [sp_line, if_pos h3]
    · have h3 : ¬ μ 0 3 ≤ 0 := fun w => c (by have := h60.mpr w; omega)
      rw [sp_line, if_neg h3]
      refine con_mono (t_MD_wrong hb0 H.2.2) ?_
      rintro r h' ⟨z, rfl, hb1, f1, rfl, q1, q2⟩
      exact ⟨0, rfl, hb1, Or.inl rfl, 0, rfl, hb1, f1, Or.inl rfl, rfl, q1, by rw [q2, e7, H.1.2.2.1]⟩

/-! ===== the reference's reader, 3: names, rules, rows ===== -/
def PMm (X : tx_T) (i : Nat) (R : F_T ⊕ (Int × pm_T)) (z : Int) (h h' : ah_T) : Prop := match R with
  | .inl q => z < 0 ∧ h'.2.1 170 11 = q.1 ∧ h'.2.1 170 12 = q.2
  | .inr v => z = v.1 ∧ 0 ≤ v.1 ∧ v.1 ≤ 15 ∧ RMs X i v.2 h'
/-- of a NAME; the token stays -/
theorem t_MD_nameNumber {G : cx_T} {s : Nat} {h : ah_T} {X : tx_T} {i : Nat} {μ : pm_T} (hb0 : hb s h) (H : RMs X i μ h) (hk : tK X.2.2.1 i = 260) : con G 1 0 0 m_MD_nameNumber [av_R (some 170)] h (fun r h' => ∃ z, r = some (av_I z) ∧ hb s h' ∧ fr (fun a k => (a = 170 ∧ (k = 11 ∨ k = 12)) ∨ (a = 183 ∧ k = 1) ∨ (a = 184 ∧ 16 ≤ k)) h h' ∧ PMm X i (sp_name X.2.2.1 i μ) z h h') := by
  have hna := H.2.1.2.2.2.2.2
  have h6 := H.2.1.2.1.2.2.2.1
  have e6 : h.2.1 183 1 = μ 0 6 := H.2.1.1.2.2.2.2.2.1
  have ev := H.1.2.2.2.2.2.2.2.2.1 hk
  have r5 := H.1.2.2.1
  refine c_MD_nameNumber (X2 := fun v1 hh => hh = h ∧ ∃ k : Nat, v1 = (k : Int) ∧ (k : Int) ≤ μ 0 6 ∧ ∀ j, j < k → μ 6 j ≠ tV' X.2.2.1 i) ?_ hb0 ?_
  · refine lp_MD_nameNumber_2 _ (fun v1 _ => (17 - v1).toNat) ?_
    rintro v1 hh hb1 ⟨rfl, k, rfl, k1, k2⟩
    unfold B_MD_nameNumber_2
    intro x2 e2 _ _
    refine ⟨fun c => ?_, fun c => ?_⟩
    · have hk6 : (k : Int) = μ 0 6 := by omega
      have ek : (μ 0 6).toNat = k := by omega
      refine ⟨fun c1 y ey _ _ => ?_, fun c1 => ?_⟩
      · -- too many
        have h0 := H.2.2
        refine c_MD_wrong hb1 (fun _ _ => ?_)
        unfold B_MD_wrong_0 B_MD_wrong_17
        intro w1 we _ _
        refine ⟨fun _ h2 e2 h4 e4 => ⟨0, rfl, hb_i (hb_i hb1 e2) e4, -2, rfl, hb_i (hb_i hb1 e2) e4, fr_i (fr_i fr_0 e2 (Or.inl ⟨rfl, Or.inl rfl⟩)) e4 (Or.inl ⟨rfl, Or.inr rfl⟩), ?_⟩, fun q => absurd (we.trans h0) q⟩
        rw [sp_name, if_pos hk, ek, fnd_no k k2, if_neg (by omega), if_pos (by omega)]
        exact ⟨by decide, by rw [mm_i e4 (by decide), mv_i e2], by rw [mv_i e4, ey, r5]⟩
      · refine ⟨⟨by omega, by omega⟩, fun x9 e9 _ _ => ⟨⟨by omega, by omega⟩, ?_⟩⟩
        rw [show (x2 + 16).toNat = 16 + k by omega]
        intro h11 e11
        refine ⟨⟨by omega, by omega⟩, fun h16 e16 => ⟨⟨by omega, by omega⟩, ?_⟩⟩
        have g16 := fr_i (fr_l (W := fun a k => (a = 170 ∧ (k = 11 ∨ k = 12)) ∨ (a = 183 ∧ k = 1) ∨ (a = 184 ∧ 16 ≤ k)) fr_0 e11 (Or.inr (Or.inr ⟨rfl, by omega⟩))) e16 (Or.inr (Or.inl ⟨rfl, rfl⟩))
        have f16 := fr_i (fr_l (W := fun a k => (a = 183 ∧ k = 1) ∨ a = 184) fr_0 e11 (Or.inr rfl)) e16 (Or.inl ⟨rfl, rfl⟩)
        refine ⟨x2, rfl, hb_i (hb_l hb1 e11) e16, g16, ?_⟩
        rw [sp_name, if_pos hk, ek, fnd_no k k2, if_neg (by omega), if_neg (by omega)]
        refine ⟨by omega, by show 0 ≤ μ 0 6; omega, by show μ 0 6 ≤ 15; omega, RMt_f H.1 f16 (fun a k q => by omega), ?_, (fr_g f16 (by omega)).trans H.2.2⟩
        obtain ⟨⟨a1, a2, a3, a4, a5, a6, a7⟩, ⟨b3, b4, b5, b6, b7⟩, l, ru, ro, na⟩ := H.2.1
        have g : ∀ x j, ¬ (x = 183 ∧ j = 1) → h16.2.1 x j = hh.2.1 x j := fun x j q => (mm_i e16 q).trans (mm_lo e11)
        refine ⟨⟨(g _ _ (by omega)).trans a1, (g _ _ (by omega)).trans a2, (g _ _ (by omega)).trans a3, (g _ _ (by omega)).trans a4, (g _ _ (by omega)).trans a5, ?_, (g _ _ (by omega)).trans a7⟩, ⟨b3, b4, b5, ⟨?_, ?_⟩, b7⟩, fun j hj => (g _ _ (by omega)).trans (l j hj), fun j hj => ?_, fun j hj => (g _ _ (by omega)).trans (ro j hj), fun j hj => ?_⟩
        · rw [mv_i e16]; show x2 + 1 = μ 0 6 + 1; omega
        · show 0 ≤ μ 0 6 + 1; omega
        · show μ 0 6 + 1 ≤ 16; omega
        · rw [g _ _ (by omega), g _ _ (by omega), g _ _ (by omega)]; exact ru j hj
        · have hj : (j : Int) < μ 0 6 + 1 := hj
          show h16.2.2.1 184 (16 + j) = up2 μ 6 k (tV' X.2.2.1 i) 6 j
          rw [mm_io e16]
          by_cases hc : j = k
          · rw [hc, mv_l e11, up2_at, e9, ev]
          · rw [mm_l e11 (by omega), up2_o (fun q => hc q.2)]; exact na j (by omega)
    · refine ⟨⟨by omega, by omega⟩, ⟨by omega, by omega⟩, ?_⟩
      rw [show ((k : Int) + 16).toNat = 16 + k by omega]
      intro x27 e27 _ _ x29 e29 _ _
      have ex : x27 = μ 6 k := e27.trans (hna k (by omega))
      refine ⟨fun c2 => ⟨(k : Int), rfl, hb1, fr_0, ?_⟩, fun c2 => ⟨⟨by omega, by omega⟩, ⟨rfl, k + 1, by omega, by omega, fun j hj => ?_⟩, by omega⟩⟩
      · rw [sp_name, if_pos hk, fnd_at k2 (by rw [← ex, c2, e29, ev]) _ (by omega), if_pos (by omega)]
        exact ⟨rfl, by show 0 ≤ (k : Int); omega, by show (k : Int) ≤ 15; omega, H⟩
      · by_cases hjk : j = k
        · subst hjk; rw [← ex, ← ev, ← e29]; exact c2
        · exact k2 j (by omega)
  · exact ⟨rfl, 0, rfl, by omega, fun j hj => absurd hj (by omega)⟩
abbrev WNN : Nat → Nat → Prop := fun a k => (a = 170 ∧ (k = 11 ∨ k = 12)) ∨ (a = 183 ∧ k = 1) ∨ (a = 184 ∧ 16 ≤ k)
theorem WNN_J : ∀ a k, WNN a k → WJ a k := by
  intro a k q
  rcases q with ⟨q1, q2⟩ | ⟨q1, q2⟩ | ⟨q1, q2⟩
  · exact Or.inl ⟨q1, Or.inl (by omega)⟩
  · exact Or.inr (Or.inl ⟨by omega, q2⟩)
  · exact Or.inr (Or.inr (Or.inr (Or.inr (Or.inr ⟨q1, q2⟩))))
theorem RH_n {μ ν : pm_T} {h : ah_T} (H : RH μ h) (e0 : ν 0 0 = μ 0 0) (e3 : ν 0 3 = μ 0 3) (e5 : ν 0 5 = μ 0 5) : RH ν h := by
  unfold RH at *
  rw [e0, e3, e5]; exact H
theorem t_MD_ruleItem {G : cx_T} {s : Nat} {h : ah_T} {X : tx_T} {i : Nat} {μ : pm_T} (hb0 : hb s h) (hA : XA X) (H : RMs X i μ h) (hR : RH μ h) (hg : gk (tK X.2.2.1 i)) : con G 4 0 0 m_MD_ruleItem [av_R (some 170)] h (QC s X (sp_rule X.2.2.1 i μ) h) := by
  have h4 := H.2.1.2.1.2.1
  have e4 : h.2.1 177 1 = μ 0 4 := H.2.1.1.2.2.2.1
  obtain ⟨n, hn⟩ : ∃ n : Nat, μ 0 4 = (n : Int) := ⟨(μ 0 4).toNat, by omega⟩
  -- what the store of a name in a rule's place leaves
  have sto : ∀ {a : Nat} {j : Nat} {ν : pm_T} {hh h1 : ah_T} {z : Int}, (a = 178 ∨ a = 179 ∨ a = 180) → RMs X j ν hh → ν 0 4 = (n : Int) → h1 = st_i hh a (24 + n) z → RMs X j ν h1 := by
    intro a j ν hh h1 z ha Hj en e1
    have f1 := fr_i (W := fun x k => x = a ∧ k = 24 + n) fr_0 e1 ⟨rfl, rfl⟩
    obtain ⟨⟨a1, a2, a3, a4, a5, a6, a7⟩, b, l, ru, ro, na⟩ := Hj.2.1
    refine ⟨RMt_f Hj.1 f1 (fun x k q => by omega), ?_, (fr_g f1 (by omega)).trans Hj.2.2⟩
    have g : ∀ x k, ¬ (x = a ∧ k = 24 + n) → h1.2.1 x k = hh.2.1 x k := fun x k q => fr_g f1 q
    refine ⟨⟨(g _ _ (by omega)).trans a1, (g _ _ (by omega)).trans a2, (g _ _ (by omega)).trans a3, (g _ _ (by omega)).trans a4, (g _ _ (by omega)).trans a5, (g _ _ (by omega)).trans a6, (g _ _ (by omega)).trans a7⟩, b, fun j hj => (g _ _ (by omega)).trans (l j hj), fun j hj => ?_, fun j hj => (g _ _ (by omega)).trans (ro j hj), fun j hj => (fr_gl f1 (by omega)).trans (na j hj)⟩
    rw [g _ _ (by omega), g _ _ (by omega), g _ _ (by omega)]; exact ru j hj
  have stf : ∀ {a : Nat} {h0 hh h1 : ah_T} {z : Int}, (a = 178 ∨ a = 179 ∨ a = 180) → fr WJ h0 hh → h1 = st_i hh a (24 + n) z → fr WJ h0 h1 := by
    intro a h0 hh h1 z ha f0 e1
    exact fr_i f0 e1 (Or.inr (Or.inr (Or.inr (Or.inl ⟨ha, by omega⟩))))
  have strh : ∀ {a : Nat} {ν : pm_T} {hh h1 : ah_T} {z : Int}, (a = 178 ∨ a = 179 ∨ a = 180) → RH ν hh → h1 = st_i hh a (24 + n) z → RH ν h1 := by
    intro a ν hh h1 z ha R0 e1
    exact RH_f R0 (fr_i (W := fun x _ => x = a) fr_0 e1 rfl) (fun k _ _ q => by omega)
  -- the end of a rule
  have k167 : ∀ (hh : ah_T) (j : Nat) (ν : pm_T) (a b c : Int), hb s hh → fr WJ h hh → RMs X j ν hh → RH ν hh → ν 0 4 = (n : Int) → n < 24 → hh.2.1 178 (24 + n) = a → hh.2.1 179 (24 + n) = b → hh.2.1 180 (24 + n) = nz c → sp_rule X.2.2.1 i μ = bnd (sp_take X.2.2.1 j 59) (fun _ => .inr (j + 1, addr ν a b c)) → B_MD_ruleItem_167 G s hh (QC s X (sp_rule X.2.2.1 i μ) h) := by
    intro hh j ν a b c hb1 hf Hj hRj en hlt ea eb ec es
    unfold B_MD_ruleItem_167
    intro x2 e2 _ _
    have ex : x2 = (n : Int) := by rw [e2, Hj.2.1.1.2.2.2.1]; exact en
    refine ⟨⟨by omega, by omega⟩, fun h1 e1 => ?_⟩
    have g1 := fr_i (W := fun x k => x = 177 ∧ k = 1) fr_0 e1 ⟨rfl, rfl⟩
    have R1 : RSn (addr ν a b c) h1 := by
      obtain ⟨⟨a1, a2, a3, a4, a5, a6, a7⟩, ⟨b3, b4, bb⟩, l, ru, ro, na⟩ := Hj.2.1
      have g : ∀ x k, x ≠ 177 → h1.2.1 x k = hh.2.1 x k := fun x k q => fr_g g1 (fun w => q w.1)
      have en' : (ν 0 4).toNat = n := by omega
      unfold addr
      rw [en']
      refine ⟨⟨(g _ _ (by decide)).trans a1, (g _ _ (by decide)).trans a2, (g _ _ (by decide)).trans a3, ?_, (g _ _ (by decide)).trans a5, (g _ _ (by decide)).trans a6, (g _ _ (by decide)).trans a7⟩, ⟨b3, ⟨?_, ?_⟩, bb⟩, fun j hj => (g _ _ (by decide)).trans (l j hj), fun j hj => ?_, fun j hj => (g _ _ (by decide)).trans (ro j hj), fun j hj => (fr_gl g1 (by omega)).trans (na j hj)⟩
      · rw [mv_i e1]; show x2 + 1 = ν 0 4 + 1; omega
      · show 0 ≤ ν 0 4 + 1; omega
      · show ν 0 4 + 1 ≤ 24; omega
      · have hj : (j : Int) < ν 0 4 + 1 := hj
        rw [g _ _ (by decide), g _ _ (by decide), g _ _ (by decide)]
        show hh.2.1 178 (24 + j) = up2 ν 2 n a 2 j ∧ hh.2.1 179 (24 + j) = up2 ν 3 n b 3 j ∧ hh.2.1 180 (24 + j) = nz (up2 ν 4 n c 4 j)
        by_cases hc : j = n
        · subst hc; rw [up2_at, up2_at, up2_at]; exact ⟨ea, eb, ec⟩
        · rw [up2_o (fun q => hc q.2), up2_o (fun q => hc q.2), up2_o (fun q => hc q.2)]; exact ru j (by omega)
    have H1 : RMs X j (addr ν a b c) h1 := ⟨RMt_f Hj.1 g1 (fun x k q => by omega), R1, (fr_g g1 (by omega)).trans Hj.2.2⟩
    have RH1 : RH (addr ν a b c) h1 := RH_n (RH_f hRj g1 (fun k _ _ q => by omega)) rfl rfl rfl
    refine con_mono (t_MD_want (hb_i hb1 e1) hA H1 RH1 sg_59) ?_
    rintro r h' ⟨z, rfl, hb2, f2, z01, p2⟩
    exact ⟨z, rfl, hb2, z01, z, rfl, hb2, fr_t (fr_i hf e1 (Or.inr (Or.inl ⟨by decide, rfl⟩))) f2 (fun _ _ w => w), z01, by rw [es]; exact p2⟩
  refine c_MD_ruleItem hb0 ?_
  unfold B_MD_ruleItem_0
  intro x2 e2 _ _
  refine ⟨fun c x58 e58 _ _ => ?_, fun c => ⟨⟨by omega, by omega⟩, ?_⟩⟩
  · rw [sp_rule, if_neg (by omega)]
    refine con_mono (t_MD_wrong hb0 H.2.2) ?_
    rintro r h' ⟨z, rfl, hb1, f1, rfl, q1, q2⟩
    exact ⟨0, rfl, hb1, Or.inl rfl, 0, rfl, hb1, f1, Or.inl rfl, rfl, q1, by rw [q2, e58, H.1.2.2.1]⟩
  have hlt : n < 24 := by omega
  have ix : (x2 + 24).toNat = 24 + n := by omega
  rw [ix]
  have ed : sp_rule X.2.2.1 i μ = bnd (sp_name X.2.2.1 (i + 1) μ) fun a => bnd (sp_take X.2.2.1 (i + 2) 61) fun _ => bnd (sp_name X.2.2.1 (i + 3) a.2) fun b => if tK X.2.2.1 (i + 4) = 260 then bnd (sp_name X.2.2.1 (i + 4) b.2) fun c => bnd (sp_take X.2.2.1 (i + 5) 59) fun _ => .inr (i + 6, addr c.2 a.1 b.1 c.1) else bnd (sp_take X.2.2.1 (i + 4) 59) fun _ => .inr (i + 5, addr b.2 a.1 b.1 (-1)) := by
    rw [sp_rule, if_pos (by omega)]
  refine con_mono (t_MD_step hb0 hA H hg) ?_
  rintro r h6 ⟨z8, rfl, hb6, f6, H6, -⟩
  have R6 := RH_M hR f6
  have f06 := fr_w f6 WM_J
  refine ⟨z8, rfl, hb6, fun x9 e9 _ _ => ⟨fun c1 => ?_, fun c1 => ?_⟩⟩
  · have hk1 : tK X.2.2.1 (i + 1) = 260 := ek_2.mp (by rw [← H6.1.2.2.2.1, ← e9]; exact c1)
    refine con_mono (t_MD_nameNumber hb6 H6 hk1) ?_
    rintro r h11 ⟨z13, rfl, hb11, f11, p11⟩
    have R11 : RH μ h11 := RH_f R6 f11 (fun k _ _ q => by omega)
    have f011 := fr_t f06 f11 WNN_J
    refine ⟨z13, rfl, hb11, ⟨by omega, by omega⟩, fun h15 e15 => ?_⟩
    have hb15 := hb_i hb11 e15
    have f015 := stf (Or.inl rfl) f011 e15
    rcases n1 : sp_name X.2.2.1 (i + 1) μ with q | v1
    · rw [n1] at p11 ed
      obtain ⟨z0, q1, q2⟩ := p11
      exact ⟨fun d => by omega, fun _ => ⟨0, rfl, hb15, f015, Or.inl rfl, by rw [ed]; exact ⟨rfl, by rw [mm_i e15 (by omega)]; exact q1, by rw [mm_i e15 (by omega)]; exact q2⟩⟩⟩
    rw [n1] at p11 ed
    obtain ⟨rfl, z0, z1, H11⟩ := p11
    have y1 := sp_name_4 n1
    have en1 : v1.2 0 4 = (n : Int) := by omega
    have H15 := sto (Or.inl rfl) H11 en1 e15
    have R15 : RH v1.2 h15 := RH_n (strh (Or.inl rfl) R11 e15) y1.2.2.2.2 y1.2.2.1 y1.2.1
    have a15 : h15.2.1 178 (24 + n) = v1.1 := mv_i e15
    dsimp only [bnd] at ed
    refine ⟨fun _ => ?_, fun d => absurd z0 d⟩
    refine con_mono (t_MD_step hb15 hA H15 (gk_of hk1 (by decide) (by decide))) ?_
    rintro r h19 ⟨z21, rfl, hb19, f19, H19, -⟩
    have f019 := fr_t f015 f19 WM_J
    have a19 : h19.2.1 178 (24 + n) = v1.1 := (fr_g f19 (by omega)).trans a15
    refine ⟨z21, rfl, hb19, ?_⟩
    refine con_mono (t_MD_wantk hb19 hA H19 (RH_M R15 f19) sg_61) ?_
    rintro r h22 ⟨z24, rfl, hb22, f22, -, p22⟩
    have f022 := fr_t f019 f22 WK_J
    rcases t1 : sp_take X.2.2.1 (i + 2) 61 with q | u
    · rw [show i + 1 + 1 = i + 2 from rfl, t1] at p22; rw [t1] at ed
      obtain ⟨rfl, p22⟩ := p22
      exact ⟨0, rfl, hb22, fun _ => ⟨0, rfl, hb22, f022, Or.inl rfl, by rw [ed]; exact ⟨rfl, p22⟩⟩, fun d => absurd rfl d⟩
    rw [show i + 1 + 1 = i + 2 from rfl, t1] at p22; rw [t1] at ed
    obtain ⟨rfl, H22', R22⟩ := p22
    have H22 : RMs X (i + 3) v1.2 h22 := H22'
    have a22 : h22.2.1 178 (24 + n) = v1.1 := (fr_g f22 (by omega)).trans a19
    dsimp only at ed
    refine ⟨1, rfl, hb22, fun d => absurd d (by decide), fun _ x25 e25 _ _ => ⟨fun c2 => ?_, fun c2 => ?_⟩⟩
    · have hk3 : tK X.2.2.1 (i + 3) = 260 := ek_2.mp (by rw [← H22.1.2.2.2.1, ← e25]; exact c2)
      refine con_mono (t_MD_nameNumber hb22 H22 hk3) ?_
      rintro r h27 ⟨z29, rfl, hb27, f27, p27⟩
      have R27 : RH v1.2 h27 := RH_f R22 f27 (fun k _ _ q => by omega)
      have f027 := fr_t f022 f27 WNN_J
      have a27 : h27.2.1 178 (24 + n) = v1.1 := (fr_g f27 (by omega)).trans a22
      refine ⟨z29, rfl, hb27, fun h30 e30 => ?_⟩
      have hb30 := hb_i hb27 e30
      have f030 := stf (Or.inr (Or.inl rfl)) f027 e30
      rcases n2 : sp_name X.2.2.1 (i + 3) v1.2 with q | v2
      · rw [n2] at p27 ed
        obtain ⟨z0, q1, q2⟩ := p27
        exact ⟨fun d => by omega, fun _ => ⟨0, rfl, hb30, f030, Or.inl rfl, by rw [ed]; exact ⟨rfl, by rw [mm_i e30 (by omega)]; exact q1, by rw [mm_i e30 (by omega)]; exact q2⟩⟩⟩
      rw [n2] at p27 ed
      obtain ⟨rfl, w0, w1, H27⟩ := p27
      have y2 := sp_name_4 n2
      have en2 : v2.2 0 4 = (n : Int) := by omega
      have H30 := sto (Or.inr (Or.inl rfl)) H27 en2 e30
      have R30 : RH v2.2 h30 := RH_n (strh (Or.inr (Or.inl rfl)) R27 e30) y2.2.2.2.2 y2.2.2.1 y2.2.1
      have a30 : h30.2.1 178 (24 + n) = v1.1 := (mm_i e30 (by omega)).trans a27
      have b30 : h30.2.1 179 (24 + n) = v2.1 := mv_i e30
      dsimp only at ed
      refine ⟨fun _ h35 e35 => ?_, fun d => absurd w0 d⟩
      have hb35 := hb_i hb30 e35
      have f035 := stf (Or.inr (Or.inr rfl)) f030 e35
      have H35 := sto (Or.inr (Or.inr rfl)) H30 en2 e35
      have R35 := strh (Or.inr (Or.inr rfl)) R30 e35
      have a35 : h35.2.1 178 (24 + n) = v1.1 := (mm_i e35 (by omega)).trans a30
      have b35 : h35.2.1 179 (24 + n) = v2.1 := (mm_i e35 (by omega)).trans b30
      have c35 : h35.2.1 180 (24 + n) = -2 := mv_i e35
      refine con_mono (t_MD_step hb35 hA H35 (gk_of hk3 (by decide) (by decide))) ?_
      rintro r h37 ⟨z39, rfl, hb37, f37, H37', -⟩
      have H37 : RMs X (i + 4) v2.2 h37 := H37'
      have f037 := fr_t f035 f37 WM_J
      have R37 := RH_M R35 f37
      have a37 : h37.2.1 178 (24 + n) = v1.1 := (fr_g f37 (by omega)).trans a35
      have b37 : h37.2.1 179 (24 + n) = v2.1 := (fr_g f37 (by omega)).trans b35
      have c37 : h37.2.1 180 (24 + n) = -2 := (fr_g f37 (by omega)).trans c35
      refine ⟨z39, rfl, hb37, fun x40 e40 _ _ => ⟨fun c3 => ?_, fun c3 => ?_⟩⟩
      · have hk4 : tK X.2.2.1 (i + 4) = 260 := ek_2.mp (by rw [← H37.1.2.2.2.1, ← e40]; exact c3)
        rw [if_pos hk4] at ed
        refine con_mono (t_MD_nameNumber hb37 H37 hk4) ?_
        rintro r h42 ⟨z44, rfl, hb42, f42, p42⟩
        have R42 : RH v2.2 h42 := RH_f R37 f42 (fun k _ _ q => by omega)
        have f042 := fr_t f037 f42 WNN_J
        refine ⟨z44, rfl, hb42, fun h45 e45 => ?_⟩
        have hb45 := hb_i hb42 e45
        have f045 := stf (Or.inr (Or.inr rfl)) f042 e45
        rcases n3 : sp_name X.2.2.1 (i + 4) v2.2 with q | v3
        · rw [n3] at p42 ed
          obtain ⟨u0, q1, q2⟩ := p42
          exact ⟨fun d => by omega, fun _ => ⟨0, rfl, hb45, f045, Or.inl rfl, by rw [ed]; exact ⟨rfl, by rw [mm_i e45 (by omega)]; exact q1, by rw [mm_i e45 (by omega)]; exact q2⟩⟩⟩
        rw [n3] at p42 ed
        obtain ⟨rfl, u0, u1, H42⟩ := p42
        have y3 := sp_name_4 n3
        have en3 : v3.2 0 4 = (n : Int) := by omega
        have H45 := sto (Or.inr (Or.inr rfl)) H42 en3 e45
        have R45 : RH v3.2 h45 := RH_n (strh (Or.inr (Or.inr rfl)) R42 e45) y3.2.2.2.2 y3.2.2.1 y3.2.1
        have a45 : h45.2.1 178 (24 + n) = v1.1 := (mm_i e45 (by omega)).trans ((fr_g f42 (by omega)).trans a37)
        have b45 : h45.2.1 179 (24 + n) = v2.1 := (mm_i e45 (by omega)).trans ((fr_g f42 (by omega)).trans b37)
        have c45 : h45.2.1 180 (24 + n) = v3.1 := mv_i e45
        refine ⟨fun _ => ?_, fun d => absurd u0 d⟩
        refine con_mono (t_MD_step hb45 hA H45 (gk_of hk4 (by decide) (by decide))) ?_
        rintro r h49 ⟨z51, rfl, hb49, f49, H49, -⟩
        refine ⟨z51, rfl, hb49, ?_⟩
        exact k167 h49 (i + 5) v3.2 v1.1 v2.1 v3.1 hb49 (fr_t f045 f49 WM_J) H49 (RH_M R45 f49) en3 hlt ((fr_g f49 (by omega)).trans a45) ((fr_g f49 (by omega)).trans b45) (by rw [fr_g f49 (by omega), c45]; unfold nz; rw [if_neg (by omega)]) (by rw [ed]; rfl)
      · have hk4 : ¬ tK X.2.2.1 (i + 4) = 260 := fun w => c3 (by rw [e40, H37.1.2.2.2.1]; exact ek_2.mpr w)
        rw [if_neg hk4] at ed
        exact k167 h37 (i + 4) v2.2 v1.1 v2.1 (-1) hb37 f037 H37 R37 en2 hlt a37 b37 (c37.trans rfl) (by rw [ed]; rfl)
    · have hk3 : ¬ tK X.2.2.1 (i + 3) = 260 := fun w => c2 (by rw [e25, H22.1.2.2.2.1]; exact ek_2.mpr w)
      have n2 : sp_name X.2.2.1 (i + 3) v1.2 = .inl (cn X.2.2.1 (i + 3)) := by rw [sp_name, if_neg hk3]
      rw [n2] at ed
      refine con_mono (t_MD_cant hb22 H22) ?_
      rintro r h' ⟨z, rfl, hb5, f5, rfl, q1, q2⟩
      exact ⟨0, rfl, hb5, Or.inl rfl, 0, rfl, hb5, fr_t f022 f5 (fun _ _ w => w), Or.inl rfl, by rw [ed]; exact ⟨rfl, q1, q2⟩⟩
  · have hk1 : ¬ tK X.2.2.1 (i + 1) = 260 := fun w => c1 (by rw [e9, H6.1.2.2.2.1]; exact ek_2.mpr w)
    have n1 : sp_name X.2.2.1 (i + 1) μ = .inl (cn X.2.2.1 (i + 1)) := by rw [sp_name, if_neg hk1]
    rw [n1] at ed
    refine con_mono (t_MD_cant hb6 H6) ?_
    rintro r h' ⟨z, rfl, hb5, f5, rfl, q1, q2⟩
    exact ⟨0, rfl, hb5, Or.inl rfl, 0, rfl, hb5, fr_t f06 f5 (fun _ _ w => w), Or.inl rfl, by rw [ed]; exact ⟨rfl, q1, q2⟩⟩
theorem t_MD_rowItem {G : cx_T} {s : Nat} {h : ah_T} {X : tx_T} {i : Nat} {μ : pm_T} (hb0 : hb s h) (hA : XA X) (H : RMs X i μ h) (hR : RH μ h) (hg : gk (tK X.2.2.1 i)) : con G 3 0 0 m_MD_rowItem [av_R (some 170)] h (QC s X (sp_row X.2.2.1 i μ) h) := by
  let I : ah_T → Prop := fun hh => fr WJ h hh ∧ ∃ (j : Nat) (ν : pm_T) (f : Nat), RMs X j ν hh ∧ (hh.2.1 170 59 = ν 0 0 ∧ (hh.2.1 170 60 = 0 ↔ ν 0 3 ≤ 0) ∧ hh.2.1 170 61 ≠ 0) ∧ (f : Int) = 14 - ν 0 5 ∧ sp_row X.2.2.1 i μ = sp_rows X.2.2.1 f j ν
  refine c_MD_rowItem (X27 := I) ?_ hb0 ?_
  · refine lp_MD_rowItem_27 _ (fun hh => (14 - hh.2.1 181 1).toNat) ?_
    rintro hh hb1 ⟨hf, j, ν, f, Hj, ⟨k59, k60, k61⟩, ef, es⟩
    have n4 := Hj.1.2.2.2.1
    have r5 := Hj.1.2.2.1
    have e5 : hh.2.1 181 1 = ν 0 5 := Hj.2.1.1.2.2.2.2.1
    have hb8 := Hj.2.1.2.1.2.2.1
    obtain ⟨f', rfl⟩ : ∃ f', f = f' + 1 := ⟨f - 1, by omega⟩
    rw [sp_rows] at es
    unfold B_MD_rowItem_27
    intro x1 e1 _ _
    refine ⟨fun c x3 ex3 _ _ => ⟨fun c1 y ey _ _ => ?_, fun c1 => ?_⟩, fun c => ?_⟩
    · have hk : tK X.2.2.1 j = 260 := ek_2.mp (by rw [← n4, ← e1]; exact c)
      rw [if_pos hk, if_neg (by omega)] at es
      refine con_mono (t_MD_wrong hb1 Hj.2.2) ?_
      rintro r h' ⟨z, rfl, hb5, f5, rfl, q1, q2⟩
      exact ⟨0, rfl, hb5, Or.inl rfl, 0, rfl, hb5, fr_t hf f5 (fun _ _ w => w), Or.inl rfl, by rw [es]; exact ⟨rfl, q1, by rw [q2, ey, r5]⟩⟩
    · have hk : tK X.2.2.1 j = 260 := ek_2.mp (by rw [← n4, ← e1]; exact c)
      rw [if_pos hk, if_pos (by omega)] at es
      refine con_mono (t_MD_nameNumber hb1 Hj hk) ?_
      rintro r h4 ⟨z6, rfl, hb4, f4, p4⟩
      have f04 := fr_t hf f4 WNN_J
      rcases n1 : sp_name X.2.2.1 j ν with q | v
      · rw [n1] at p4 es
        obtain ⟨z0, p4⟩ := p4
        exact ⟨z6, rfl, hb4, fun d => by omega, fun _ => ⟨0, rfl, hb4, f04, Or.inl rfl, by rw [es]; exact ⟨rfl, p4⟩⟩⟩
      rw [n1] at p4 es
      obtain ⟨rfl, z0, z1, H4⟩ := p4
      have y1 := sp_name_4 n1
      dsimp only [bnd] at es
      have e54 : h4.2.1 181 1 = v.2 0 5 := H4.2.1.1.2.2.2.2.1
      refine ⟨v.1, rfl, hb4, fun _ x9 e9 _ _ => ⟨⟨by omega, by omega⟩, ⟨by omega, by omega⟩, ?_⟩, fun d => absurd z0 d⟩
      have ix : (x9 + 12).toNat = 12 + (v.2 0 5).toNat := by omega
      rw [ix]
      intro h12 e12
      refine ⟨⟨by omega, by omega⟩, fun h17 e17 => ?_⟩
      have hb17 := hb_i (hb_i hb4 e12) e17
      have f17 := fr_i (fr_i f04 e12 (Or.inr (Or.inr (Or.inr (Or.inr (Or.inl ⟨rfl, by omega⟩)))))) e17 (Or.inr (Or.inl ⟨by decide, rfl⟩))
      have g17 := fr_i (fr_i (W := fun a k => a = 182 ∨ (a = 181 ∧ k = 1)) fr_0 e12 (Or.inl rfl)) e17 (Or.inr ⟨rfl, rfl⟩)
      have R17 : RSn (rowa v.2 v.1) h17 := by
        obtain ⟨⟨a1, a2, a3, a4, a5, a6, a7⟩, ⟨b3, b4, b5, b⟩, l, ru, ro, na⟩ := H4.2.1
        have g : ∀ a k, a ≠ 182 → a ≠ 181 → h17.2.1 a k = h4.2.1 a k := fun a k q1 q2 => fr_g g17 (by omega)
        unfold rowa
        refine ⟨⟨(g _ _ (by decide) (by decide)).trans a1, (g _ _ (by decide) (by decide)).trans a2, (g _ _ (by decide) (by decide)).trans a3, (g _ _ (by decide) (by decide)).trans a4, ?_, (g _ _ (by decide) (by decide)).trans a6, (g _ _ (by decide) (by decide)).trans a7⟩, ⟨b3, b4, ⟨?_, ?_⟩, b⟩, fun j hj => (g _ _ (by decide) (by decide)).trans (l j hj), fun j hj => ?_, fun j hj => ?_, fun j hj => (fr_gl g17 (by omega)).trans (na j hj)⟩
        · rw [mv_i e17]; show x9 + 1 = v.2 0 5 + 1; omega
        · show 0 ≤ v.2 0 5 + 1; omega
        · show v.2 0 5 + 1 ≤ 12; omega
        · rw [g _ _ (by decide) (by decide), g _ _ (by decide) (by decide), g _ _ (by decide) (by decide)]; exact ru j hj
        · have hj : (j : Int) < v.2 0 5 + 1 := hj
          show h17.2.1 182 (12 + j) = up2 v.2 5 (v.2 0 5).toNat v.1 5 j
          rw [mm_i e17 (by omega)]
          by_cases hc : j = (v.2 0 5).toNat
          · rw [hc, mv_i e12, up2_at]
          · rw [mm_i e12 (by omega), up2_o (fun q => hc q.2)]; exact ro j (by omega)
      have H17 : RMs X j (rowa v.2 v.1) h17 := ⟨RMt_f H4.1 g17 (fun a k q => by omega), R17, (fr_g g17 (by omega)).trans H4.2.2⟩
      refine con_mono (t_MD_step hb17 hA H17 (gk_of hk (by decide) (by decide))) ?_
      rintro r h19 ⟨z21, rfl, hb19, f19, H19, -⟩
      have f019 := fr_t f17 f19 WM_J
      have y59 : h19.2.1 170 59 = v.2 0 0 := by rw [fr_g f19 (by omega), fr_g g17 (by omega), fr_g f4 (by omega), k59, y1.2.2.2.2]
      have y60 : h19.2.1 170 60 = 0 ↔ v.2 0 3 ≤ 0 := by rw [fr_g f19 (by omega), fr_g g17 (by omega), fr_g f4 (by omega), y1.2.2.1]; exact k60
      have y61 : h19.2.1 170 61 ≠ 0 := by rw [fr_g f19 (by omega), fr_g g17 (by omega), fr_g f4 (by omega)]; exact k61
      have e181 : h19.2.1 181 1 = x9 + 1 := by rw [fr_g f19 (by omega), mv_i e17]
      refine ⟨z21, rfl, hb19, ?_⟩
      refine con_mono (t_MD_isSign hb19 hA H19 sg_59) ?_
      rintro r h22 ⟨z24, rfl, hb22, rfl, -, z02⟩
      refine ⟨z24, rfl, hb22, fun d => ⟨⟨f019, j + 1, rowa v.2 v.1, f', H19, ⟨y59, y60, y61⟩, ?_, ?_⟩, by omega⟩, fun d => ?_⟩
      · show (f' : Int) = 14 - (v.2 0 5 + 1); omega
      · rw [es, if_neg (z02.mp d)]
      · have hk9 : tK X.2.2.1 (j + 1) = 59 := Classical.not_not.mp (fun w => d (z02.mpr w))
        rw [if_pos hk9] at es
        refine con_mono (t_MD_step hb22 hA H19 (gk_s hk9 sg_59)) ?_
        rintro r h' ⟨z, rfl, hb5, f5, H5, rfl⟩
        refine ⟨1, rfl, hb5, Or.inr rfl, 1, rfl, hb5, fr_t f019 f5 WM_J, Or.inr rfl, ?_⟩
        rw [es]
        refine ⟨rfl, H5, ?_, ?_, ?_⟩
        · rw [fr_g f5 (by omega)]; exact y59
        · rw [fr_g f5 (by omega)]; exact y60
        · rw [fr_g f5 (by omega)]
          exact ⟨fun w => absurd w y61, fun w => by
            have w : v.2 0 5 + 1 ≤ 0 := w
            omega⟩
    · have hk : ¬ tK X.2.2.1 j = 260 := fun w => c (by rw [e1, n4]; exact ek_2.mpr w)
      rw [if_neg hk] at es
      refine con_mono (t_MD_cant hb1 Hj) ?_
      rintro r h' ⟨z, rfl, hb5, f5, rfl, q1, q2⟩
      exact ⟨0, rfl, hb5, Or.inl rfl, 0, rfl, hb5, fr_t hf f5 (fun _ _ w => w), Or.inl rfl, by rw [es]; exact ⟨rfl, q1, q2⟩⟩
  · unfold B_MD_rowItem_0
    intro x1 e1 _
    have h61 := hR.2.2
    refine ⟨fun c h2 e2 => ?_, fun c x7 e7 _ _ => ?_⟩
    · have hb2 := hb_i hb0 e2
      have f2 := fr_i (W := WJ) fr_0 e2 (Or.inl ⟨rfl, Or.inr (by decide)⟩)
      have g2 := fr_i (W := fun a k => a = 170 ∧ k = 61) fr_0 e2 ⟨rfl, rfl⟩
      have H2 := RMs_f H g2 (fun a k q => by omega) (RSn_f H.2.1 g2 (fun a k q => by omega))
      refine con_mono (t_MD_step hb2 hA H2 hg) ?_
      rintro r h4 ⟨z6, rfl, hb4, f4, H4, -⟩
      have h5 : μ 0 5 ≤ 0 := h61.mp (by omega)
      have h50 := H.2.1.2.1.2.2.1
      refine ⟨z6, rfl, hb4, fr_t f2 f4 WM_J, i + 1, μ, 14, H4, ⟨?_, ?_, ?_⟩, by omega, ?_⟩
      · rw [fr_g f4 (by omega), mm_i e2 (by decide)]; exact hR.1
      · rw [fr_g f4 (by omega), mm_i e2 (by decide)]; exact hR.2.1
      · rw [fr_g f4 (by omega), mv_i e2]; decide
      · rw [sp_row, if_pos h5]
    · have h5 : ¬ μ 0 5 ≤ 0 := fun w => c (by have := h61.mpr w; omega)
      rw [sp_row, if_neg h5]
      refine con_mono (t_MD_wrong hb0 H.2.2) ?_
      rintro r h' ⟨z, rfl, hb1, f1, rfl, q1, q2⟩
      exact ⟨0, rfl, hb1, Or.inl rfl, 0, rfl, hb1, f1, Or.inl rfl, rfl, q1, by rw [q2, e7, H.1.2.2.1]⟩

/-! ===== the class: items, faults and places ===== -/
theorem NF_pits {t : tk_T} : ∀ (f i : Nat) (μ : pm_T), NF (sp_pits t f i μ)
  | 0, _, _ => NF_l (by decide)
  | f + 1, i, μ => NF_i (NF_i (NF_l (by decide)) (NF_i NF_r (NF_pits f _ _))) NF_c
theorem NF_name {t : tk_T} {i : Nat} {μ : pm_T} : NF (sp_name t i μ) := NF_i (NF_i NF_r (NF_i (NF_l (by decide)) NF_r)) NF_c
theorem NF_rows {t : tk_T} : ∀ (f i : Nat) (μ : pm_T), NF (sp_rows t f i μ)
  | 0, _, _ => NF_l (by decide)
  | f + 1, i, μ => NF_i (NF_i (NF_b NF_name (fun _ => NF_i NF_r (NF_rows f _ _))) (NF_l (by decide))) NF_c
theorem NF_parts {t : tk_T} : ∀ (f i : Nat) (π : pm_T), NF (sp_parts t f i π)
  | 0, _, _ => NF_l (by decide)
  | f + 1, i, π => NF_i NF_r (NF_b NF_p (fun _ => NF_parts f _ _))
theorem NF_time {t : tk_T} {i : Nat} {μ : pm_T} : NF (sp_time t i μ) := NF_i (NF_b NF_n (fun _ => NF_b NF_t (fun _ => NF_b NF_n (fun _ => NF_b NF_t (fun _ => NF_r))))) (NF_l (by decide))
theorem NF_line {t : tk_T} {i : Nat} {μ : pm_T} : NF (sp_line t i μ) := NF_i (NF_pits _ _ _) (NF_l (by decide))
theorem NF_rule {t : tk_T} {i : Nat} {μ : pm_T} : NF (sp_rule t i μ) := NF_i (NF_b NF_name (fun _ => NF_b NF_t (fun _ => NF_b NF_name (fun _ => NF_i (NF_b NF_name (fun _ => NF_b NF_t (fun _ => NF_r))) (NF_b NF_t (fun _ => NF_r)))))) (NF_l (by decide))
theorem NF_row {t : tk_T} {i : Nat} {μ : pm_T} : NF (sp_row t i μ) := NF_i (NF_rows _ _ _) (NF_l (by decide))
theorem NF_voice {t : tk_T} {i : Nat} {μ : pm_T} : NF (sp_voice t i μ) := NF_i (NF_b (NF_parts _ _ _) (fun _ => NF_i (NF_l (by decide)) (NF_i NF_r (NF_l (by decide))))) (NF_l (by decide))
theorem pits_i {t : tk_T} : ∀ (f i : Nat) (μ : pm_T) (q : Nat × pm_T), sp_pits t f i μ = .inr q → i + 2 ≤ q.1
  | 0, _, _, _, e => by rw [sp_pits] at e; cases e
  | f + 1, i, μ, q, e => by
    rw [sp_pits] at e
    split at e
    · split at e
      · cases e
      · split at e
        · cases e; exact Nat.le_refl _
        · have := pits_i f _ _ q e; omega
    · cases e
theorem rows_i {t : tk_T} : ∀ (f i : Nat) (μ : pm_T) (q : Nat × pm_T), sp_rows t f i μ = .inr q → i + 2 ≤ q.1
  | 0, _, _, _, e => by rw [sp_rows] at e; cases e
  | f + 1, i, μ, q, e => by
    rw [sp_rows] at e
    split at e
    · split at e
      · obtain ⟨a, -, e⟩ := bnd_r e
        split at e
        · cases e; exact Nat.le_refl _
        · have := rows_i f _ _ q e; omega
      · cases e
    · cases e
theorem parts_i {t : tk_T} : ∀ (f i : Nat) (π : pm_T) (q : Nat × pm_T), sp_parts t f i π = .inr q → i ≤ q.1
  | 0, _, _, _, e => by rw [sp_parts] at e; cases e
  | f + 1, i, π, q, e => by
    rw [sp_parts] at e
    split at e
    · cases e; exact Nat.le_refl _
    · obtain ⟨a, ea, e⟩ := bnd_r e
      have h1 := sp_part_i ea
      have h2 := parts_i f _ _ q e
      omega
theorem time_i {t : tk_T} {i : Nat} {μ : pm_T} {q : Nat × pm_T} (e : sp_time t i μ = .inr q) : i + 2 ≤ q.1 := by
  unfold sp_time at e
  split at e
  · obtain ⟨a, -, e⟩ := bnd_r e
    obtain ⟨b, -, e⟩ := bnd_r e
    obtain ⟨c, -, e⟩ := bnd_r e
    obtain ⟨d, -, e⟩ := bnd_r e
    cases e; show i + 2 ≤ i + 5; omega
  · cases e
theorem line_i {t : tk_T} {i : Nat} {μ : pm_T} {q : Nat × pm_T} (e : sp_line t i μ = .inr q) : i + 2 ≤ q.1 := by
  unfold sp_line at e
  split at e
  · have := pits_i _ _ _ _ e; omega
  · cases e
theorem row_i {t : tk_T} {i : Nat} {μ : pm_T} {q : Nat × pm_T} (e : sp_row t i μ = .inr q) : i + 2 ≤ q.1 := by
  unfold sp_row at e
  split at e
  · have := rows_i _ _ _ _ e; omega
  · cases e
theorem rule_i {t : tk_T} {i : Nat} {μ : pm_T} {q : Nat × pm_T} (e : sp_rule t i μ = .inr q) : i + 2 ≤ q.1 := by
  unfold sp_rule at e
  split at e
  · obtain ⟨a, -, e⟩ := bnd_r e
    obtain ⟨b, -, e⟩ := bnd_r e
    obtain ⟨c, -, e⟩ := bnd_r e
    split at e
    · obtain ⟨d, -, e⟩ := bnd_r e
      obtain ⟨g, -, e⟩ := bnd_r e
      cases e; show i + 2 ≤ i + 6; omega
    · obtain ⟨d, -, e⟩ := bnd_r e
      cases e; show i + 2 ≤ i + 5; omega
  · cases e
theorem voice_i {t : tk_T} {i : Nat} {μ : pm_T} {q : Nat × pm_T} (e : sp_voice t i μ = .inr q) : i + 2 ≤ q.1 := by
  unfold sp_voice at e
  split at e
  · obtain ⟨a, ea, e⟩ := bnd_r e
    have := parts_i _ _ _ _ ea
    split at e
    · cases e
    · split at e
      · cases e; show i + 2 ≤ a.1 + 1; omega
      · cases e
  · cases e
/-- the four other items leave the voices' rows -/
def kr (μ μ' : pm_T) : Prop := μ' 0 7 = μ 0 7 ∧ (∀ a k, 10 ≤ a → μ' a k = μ a k) ∧ (μ' 0 0 = μ 0 0 ∨ μ' 0 0 = 1)
theorem kr_0 {μ : pm_T} : kr μ μ := ⟨rfl, fun _ _ _ => rfl, Or.inl rfl⟩
theorem kr_t {μ μ' μ'' : pm_T} (h : kr μ μ') (h2 : kr μ' μ'') : kr μ μ'' := ⟨h2.1.trans h.1, fun a k q => (h2.2.1 a k q).trans (h.2.1 a k q), by have := h.2.2; have := h2.2.2; omega⟩
theorem kr_u {μ : pm_T} {a k : Nat} {z : Int} (h : a ≤ 9) (h2 : ¬ (a = 0 ∧ (k = 7 ∨ k = 0))) : kr μ (up2 μ a k z) := ⟨up2_o (by omega), fun b j q => up2_o (by omega), Or.inl (up2_o (by omega))⟩
theorem kr_1 {μ : pm_T} : kr μ (up2 μ 0 0 1) := ⟨up2_o (by omega), fun b j q => up2_o (by omega), Or.inr up2_at⟩
theorem kr_pit {t : tk_T} {i : Nat} {μ : pm_T} : kr μ (pit t i μ) := kr_t (kr_u (by decide) (by omega)) (kr_u (by decide) (by omega))
theorem kr_name {t : tk_T} {i : Nat} {μ : pm_T} {v : Int × pm_T} (e : sp_name t i μ = .inr v) : kr μ v.2 := by
  unfold sp_name at e
  split at e
  · split at e
    · cases e; exact kr_0
    · split at e
      · cases e
      · cases e; exact kr_t (kr_u (by decide) (by omega)) (kr_u (by decide) (by omega))
  · cases e
theorem kr_addr {μ : pm_T} {a b c : Int} : kr μ (addr μ a b c) := kr_t (kr_t (kr_t (kr_u (by decide) (by omega)) (kr_u (by decide) (by omega))) (kr_u (by decide) (by omega))) (kr_u (by decide) (by omega))
theorem kr_rowa {μ : pm_T} {z : Int} : kr μ (rowa μ z) := kr_t (kr_u (by decide) (by omega)) (kr_u (by decide) (by omega))
theorem pits_k {t : tk_T} : ∀ (f i : Nat) (μ : pm_T) (q : Nat × pm_T), sp_pits t f i μ = .inr q → kr μ q.2
  | 0, _, _, _, e => by rw [sp_pits] at e; cases e
  | f + 1, i, μ, q, e => by
    rw [sp_pits] at e
    split at e
    · split at e
      · cases e
      · split at e
        · cases e; exact kr_pit
        · exact kr_t kr_pit (pits_k f _ _ q e)
    · cases e
theorem rows_k {t : tk_T} : ∀ (f i : Nat) (μ : pm_T) (q : Nat × pm_T), sp_rows t f i μ = .inr q → kr μ q.2
  | 0, _, _, _, e => by rw [sp_rows] at e; cases e
  | f + 1, i, μ, q, e => by
    rw [sp_rows] at e
    split at e
    · split at e
      · obtain ⟨a, ea, e⟩ := bnd_r e
        split at e
        · cases e; exact kr_t (kr_name ea) kr_rowa
        · exact kr_t (kr_t (kr_name ea) kr_rowa) (rows_k f _ _ q e)
      · cases e
    · cases e
theorem time_k {t : tk_T} {i : Nat} {μ : pm_T} {q : Nat × pm_T} (e : sp_time t i μ = .inr q) : kr μ q.2 := by
  unfold sp_time at e
  split at e
  · obtain ⟨a, -, e⟩ := bnd_r e
    obtain ⟨b, -, e⟩ := bnd_r e
    obtain ⟨c, -, e⟩ := bnd_r e
    obtain ⟨d, -, e⟩ := bnd_r e
    cases e; exact kr_t (kr_t kr_1 (kr_u (by decide) (by omega))) (kr_u (by decide) (by omega))
  · cases e
theorem line_k {t : tk_T} {i : Nat} {μ : pm_T} {q : Nat × pm_T} (e : sp_line t i μ = .inr q) : kr μ q.2 := by
  unfold sp_line at e
  split at e
  · exact pits_k _ _ _ _ e
  · cases e
theorem row_k {t : tk_T} {i : Nat} {μ : pm_T} {q : Nat × pm_T} (e : sp_row t i μ = .inr q) : kr μ q.2 := by
  unfold sp_row at e
  split at e
  · exact rows_k _ _ _ _ e
  · cases e
theorem rule_k {t : tk_T} {i : Nat} {μ : pm_T} {q : Nat × pm_T} (e : sp_rule t i μ = .inr q) : kr μ q.2 := by
  unfold sp_rule at e
  split at e
  · obtain ⟨a, ea, e⟩ := bnd_r e
    obtain ⟨b, -, e⟩ := bnd_r e
    obtain ⟨c, ec, e⟩ := bnd_r e
    split at e
    · obtain ⟨d, ed, e⟩ := bnd_r e
      obtain ⟨g, -, e⟩ := bnd_r e
      cases e; exact kr_t (kr_t (kr_t (kr_name ea) (kr_name ec)) (kr_name ed)) kr_addr
    · obtain ⟨d, -, e⟩ := bnd_r e
      cases e; exact kr_t (kr_t (kr_name ea) (kr_name ec)) kr_addr
  · cases e
/-- one item -/
def sp_item (t : tk_T) (i : Nat) (μ : pm_T) : F_T ⊕ (Nat × pm_T) := if tK t i = 261 then sp_time t i μ else if tK t i = 262 then sp_voice t i μ else if tK t i = 263 then sp_line t i μ else if tK t i = 264 then sp_rule t i μ else if tK t i = 265 then sp_row t i μ else .inl (cn t i)
theorem sp_items_e {t : tk_T} {f i : Nat} {μ : pm_T} (h : ¬ tK t i = 256) : sp_items t (f + 1) i μ = bnd (sp_item t i μ) fun q => sp_items t f q.1 q.2 := by rw [sp_items, if_neg h]; rfl
theorem NF_item {t : tk_T} {i : Nat} {μ : pm_T} : NF (sp_item t i μ) := NF_i NF_time (NF_i NF_voice (NF_i NF_line (NF_i NF_rule (NF_i NF_row NF_c))))
theorem item_i {t : tk_T} {i : Nat} {μ : pm_T} {q : Nat × pm_T} (e : sp_item t i μ = .inr q) : i + 2 ≤ q.1 := by
  unfold sp_item at e
  split at e
  · exact time_i e
  split at e
  · exact voice_i e
  split at e
  · exact line_i e
  split at e
  · exact rule_i e
  split at e
  · exact row_i e
  · cases e
theorem t_Score_clear {G : cx_T} {s : Nat} {h : ah_T} (hb0 : hb s h) : con G 0 0 0 m_Score_clear [av_R (some s)] h (fun r h' => r = none ∧ hb s h' ∧ fr (fun a _ => a = s) h h' ∧ h'.2.1 s 1 = 0 ∧ h'.2.1 s 2 = 4 ∧ h'.2.1 s 3 = 4 ∧ h'.2.1 s 4 = 0 ∧ h'.2.1 s 6 = 0 ∧ h'.2.1 s 10 = 0 ∧ h'.2.1 s 12 = 0) := by
  refine c_Score_clear hb0 ?_
  unfold B_Score_clear_0
  intro h1 e1 h3 e3 h5 e5 h7 e7 h9 e9 h11 e11 h13 e13
  refine ⟨rfl, hb_i (hb_i (hb_i (hb_i (hb_i (hb_i (hb_i hb0 e1) e3) e5) e7) e9) e11) e13, fr_i (fr_i (fr_i (fr_i (fr_i (fr_i (fr_i fr_0 e1 rfl) e3 rfl) e5 rfl) e7 rfl) e9 rfl) e11 rfl) e13 rfl, ?_⟩
  subst e13 e11 e9 e7 e5 e3 e1
  simp [st_i, up2]

/-! ===== the class: a text read, exact ===== -/
abbrev WY (s : Nat) : Nat → Nat → Prop := fun a _ => (2 ≤ a ∧ a ≤ 16) ∨ (s ≤ a ∧ a ≤ s + 62)
def PR (t : tk_T) (m s : Nat) (R : F_T ⊕ pm_T) (z : Int) (h' : ah_T) : Prop := match R with
  | .inl q => z = q.1 ∧ q.1 ≠ 0 ∧ h'.2.1 2 6 = q.1 ∧ h'.2.1 2 7 = q.2
  | .inr μ => z = 0 ∧ ∃ i, RCv t m i μ s h'
theorem item_of {t : tk_T} {m s : Nat} {μ : pm_T} {R : F_T ⊕ (Nat × pm_T)} {z : Int} {h h' : ah_T} (HV : RVs μ s h) (h4 : μ 0 7 ≤ 4) (f : fr (WR s) h h') (hs : s = 17 ∨ s = 80) (k : ∀ q, R = .inr q → kr μ q.2) (p : PBc t m s R z h') : PIc t m s R z h' := by
  rcases R with q | q
  · exact p
  · obtain ⟨e, H⟩ := p
    have kk := k q rfl
    exact ⟨e, H, RVs_m (RVs_f HV h4 f (fun a k w => by omega)) kk.1 kk.2.1⟩
theorem t_Reader_read {G : cx_T} {s : Nat} {h : ah_T} {T : Nat → Int} {n : Nat} (hb0 : hb s h) (hTp : ∀ j, j < n → h.2.1 1 j = T j ∧ 0 ≤ T j ∧ T j ≤ 255) (hn : n ≤ 2000) : con G 23 0 0 m_Reader_read [av_R (some 2), av_R (some 1), av_I (n : Int)] h (fun r h' => ∃ z, r = some (av_I z) ∧ hb s h' ∧ fr (WY s) h h' ∧ ∃ (t : tk_T) (m : Nat) (a b : Nat → Nat), TkA T n t m a b ∧ PR t m s (sp_score t) z h') := by
  have hs : s = 17 ∨ s = 80 := hb0.2.1
  refine c_Reader_read (X31 := fun v3 v4 hh => 0 ≤ v4 ∧ fr (WY s) h hh ∧ ∃ (t : tk_T) (m : Nat) (a b : Nat → Nat), TkA T n t m a b ∧ ((v3 = 0 ∧ ∃ q : F_T, hh.2.1 2 6 = q.1 ∧ hh.2.1 2 7 = q.2 ∧ q.1 ≠ 0 ∧ sp_score t = .inl q) ∨ (v3 = 0 ∧ ∃ (i : Nat) (μ : pm_T), RCv t m i μ s hh ∧ sp_score t = .inr μ) ∨ (v3 = 1 ∧ ∃ (j f : Nat) (μ : pm_T), RCv t m j μ s hh ∧ (μ 0 0 = 0 ∨ μ 0 0 = 1) ∧ 2 * v4 ≤ j ∧ (f : Int) + v4 = 2999 ∧ sp_score t = sp_items t (f + 1) j μ))) ?_ hb0 (fun _ => ?_)
  · refine lp_Reader_read_31 (a2 := (n : Int)) _ (fun _ v4 _ => (2001 - v4).toNat) ?_
    rintro v3 v4 hh hb1 ⟨hv4, hf, t, m, a, b, hA, hc⟩
    have hT : TG t m := XA_g (X := (T, n, t, m, a, b)) hA
    have kA : ∀ (q : F_T), hh.2.1 2 6 = q.1 → hh.2.1 2 7 = q.2 → q.1 ≠ 0 → sp_score t = .inl q → B_Reader_read_156 G s (n : Int) hh (fun r h' => ∃ z, r = some (av_I z) ∧ hb s h' ∧ fr (WY s) h h' ∧ ∃ (t : tk_T) (m : Nat) (a b : Nat → Nat), TkA T n t m a b ∧ PR t m s (sp_score t) z h') := by
      intro q q1 q2 q3 es
      unfold B_Reader_read_156
      intro x1 e1 _ _
      exact ⟨x1, rfl, hb1, hf, t, m, a, b, hA, by rw [es]; exact ⟨e1.trans q1, q3, q1, q2⟩⟩
    have kB : ∀ (i : Nat) (μ : pm_T), RCv t m i μ s hh → sp_score t = .inr μ → B_Reader_read_156 G s (n : Int) hh (fun r h' => ∃ z, r = some (av_I z) ∧ hb s h' ∧ fr (WY s) h h' ∧ ∃ (t : tk_T) (m : Nat) (a b : Nat → Nat), TkA T n t m a b ∧ PR t m s (sp_score t) z h') := by
      intro i μ H es
      unfold B_Reader_read_156
      intro x1 e1 _ _
      exact ⟨x1, rfl, hb1, hf, t, m, a, b, hA, by rw [es]; exact ⟨e1.trans H.1.2.2, i, H⟩⟩
    unfold B_Reader_read_31
    rcases hc with ⟨rfl, q, q1, q2, q3, es⟩ | ⟨rfl, i, μ, H, es⟩ | ⟨rfl, j, f, μ, H, h01, hj, hfu, es⟩
    · exact ⟨fun _ => kA q q1 q2 q3 es, fun _ => ⟨fun _ => kA q q1 q2 q3 es, fun d => absurd rfl d⟩⟩
    · exact ⟨fun _ => kB i μ H es, fun _ => ⟨fun _ => kB i μ H es, fun d => absurd rfl d⟩⟩
    have im : j < m ∧ m ≤ 2001 := ⟨H.1.1.2.2.1, H.1.1.2.2.2.1⟩
    have h74 : μ 0 7 ≤ 4 := H.1.2.1.2.1.2.2.2.2.2
    obtain ⟨f', rfl⟩ : ∃ f', f = f' + 1 := ⟨f - 1, by omega⟩
    -- the next turn
    have nx : ∀ (h1 : ah_T) (z : Int), ¬ tK t j = 256 → hb s h1 → fr (WX s) hh h1 → (z = 0 ∨ z = 1) → (∀ q, sp_item t j μ = .inr q → q.2 0 0 = 0 ∨ q.2 0 0 = 1) → PIc t m s (sp_item t j μ) z h1 → ((-2147483648 ≤ v4 + 1 ∧ v4 + 1 ≤ 2147483647) ∧ (0 ≤ v4 + 1 ∧ fr (WY s) h h1 ∧ ∃ (t : tk_T) (m : Nat) (a b : Nat → Nat), TkA T n t m a b ∧ ((z = 0 ∧ ∃ q : F_T, h1.2.1 2 6 = q.1 ∧ h1.2.1 2 7 = q.2 ∧ q.1 ≠ 0 ∧ sp_score t = .inl q) ∨ (z = 0 ∧ ∃ (i : Nat) (μ : pm_T), RCv t m i μ s h1 ∧ sp_score t = .inr μ) ∨ (z = 1 ∧ ∃ (j f : Nat) (μ : pm_T), RCv t m j μ s h1 ∧ (μ 0 0 = 0 ∨ μ 0 0 = 1) ∧ 2 * (v4 + 1) ≤ j ∧ (f : Int) + (v4 + 1) = 2999 ∧ sp_score t = sp_items t (f + 1) j μ))) ∧ (2001 - (v4 + 1)).toNat < (2001 - v4).toNat) := by
      intro h1 z n256 hb2 f1 z01 h00 p
      refine ⟨⟨by omega, by omega⟩, ⟨by omega, fr_t hf f1 (fun a k w => by omega), t, m, a, b, hA, ?_⟩, by omega⟩
      rcases e : sp_item t j μ with q | q
      · rw [e] at p
        obtain ⟨rfl, w1, w2⟩ := p
        exact Or.inl ⟨rfl, q, w1, w2, NF_item q e, by rw [es, sp_items_e n256, e]; rfl⟩
      · rw [e] at p
        obtain ⟨rfl, w⟩ := p
        have := item_i e
        exact Or.inr (Or.inr ⟨rfl, q.1, f', q.2, w, h00 q e, by omega, by omega, by rw [es, sp_items_e n256, e]; rfl⟩)
    refine ⟨fun c => by omega, fun c => ⟨fun d => absurd d (by decide), fun _ x2 y2 _ _ => ?_⟩⟩
    have ek : x2 = tK t j := y2.trans (RCs_b H.1).1
    unfold B_Reader_read_150 B_Reader_read_148 B_Reader_read_149
    refine ⟨fun c1 => ?_, fun c1 => ?_, fun c1 => ?_, fun c1 => ?_, fun c1 => ?_, fun c1 => ⟨fun c2 => ?_, fun c2 => ?_⟩⟩
    · have ei : sp_item t j μ = sp_time t j μ := by unfold sp_item; rw [if_pos (by omega)]
      refine con_mono (t_Reader_readTime hb1 hT H.1 ⟨by omega, by omega⟩ h01) ?_
      rintro r h3 ⟨z, rfl, hb3, f3, z01, p3⟩
      exact ⟨z, rfl, hb3, nx h3 z (by omega) hb3 (fr_w f3 (fun a k w => by omega)) z01 (fun q e => by rw [ei] at e; have := (time_k e).2.2; omega) (by rw [ei]; exact item_of H.2 h74 f3 hs (fun q e => time_k e) p3)⟩
    · have ei : sp_item t j μ = sp_voice t j μ := by unfold sp_item; rw [if_neg (by omega), if_pos (by omega)]
      refine con_mono (t_voice hb1 hT H ⟨by omega, by omega⟩) ?_
      rintro r h3 ⟨z, rfl, hb3, f3, z01, p3⟩
      exact ⟨z, rfl, hb3, nx h3 z (by omega) hb3 f3 z01 (fun q e => by
        rw [ei] at e
        unfold sp_voice at e
        split at e
        · obtain ⟨x, -, e⟩ := bnd_r e
          split at e
          · cases e
          · split at e
            · cases e
              show addV μ x.2 (walk x.2) 0 0 = 0 ∨ addV μ x.2 (walk x.2) 0 0 = 1
              rw [addV_o (by decide) (by omega)]; exact h01
            · cases e
        · cases e) (by rw [ei]; exact p3)⟩
    · have ei : sp_item t j μ = sp_line t j μ := by unfold sp_item; rw [if_neg (by omega), if_neg (by omega), if_pos (by omega)]
      refine con_mono (t_Reader_readLine hb1 hT H.1 ⟨by omega, by omega⟩) ?_
      rintro r h3 ⟨z, rfl, hb3, f3, z01, p3⟩
      exact ⟨z, rfl, hb3, nx h3 z (by omega) hb3 (fr_w f3 (fun a k w => by omega)) z01 (fun q e => by rw [ei] at e; have := (line_k e).2.2; omega) (by rw [ei]; exact item_of H.2 h74 f3 hs (fun q e => line_k e) p3)⟩
    · have ei : sp_item t j μ = sp_rule t j μ := by unfold sp_item; rw [if_neg (by omega), if_neg (by omega), if_neg (by omega), if_pos (by omega)]
      refine con_mono (t_Reader_readRule hb1 hT H.1 ⟨by omega, by omega⟩) ?_
      rintro r h3 ⟨z, rfl, hb3, f3, z01, p3⟩
      exact ⟨z, rfl, hb3, nx h3 z (by omega) hb3 (fr_w f3 (fun a k w => by omega)) z01 (fun q e => by rw [ei] at e; have := (rule_k e).2.2; omega) (by rw [ei]; exact item_of H.2 h74 f3 hs (fun q e => rule_k e) p3)⟩
    · have ei : sp_item t j μ = sp_row t j μ := by unfold sp_item; rw [if_neg (by omega), if_neg (by omega), if_neg (by omega), if_neg (by omega), if_pos (by omega)]
      refine con_mono (t_Reader_readRow hb1 hT H.1 ⟨by omega, by omega⟩) ?_
      rintro r h3 ⟨z, rfl, hb3, f3, z01, p3⟩
      exact ⟨z, rfl, hb3, nx h3 z (by omega) hb3 (fr_w f3 (fun a k w => by omega)) z01 (fun q e => by rw [ei] at e; have := (row_k e).2.2; omega) (by rw [ei]; exact item_of H.2 h74 f3 hs (fun q e => row_k e) p3)⟩
    · have e256 : tK t j = 256 := by omega
      exact ⟨⟨by omega, by omega⟩, ⟨by omega, hf, t, m, a, b, hA, Or.inr (Or.inl ⟨rfl, j, μ, H, by rw [es, sp_items, if_pos e256]⟩)⟩, by omega⟩
    · have ei : sp_item t j μ = .inl (cn t j) := by unfold sp_item; rw [if_neg (by omega), if_neg (by omega), if_neg (by omega), if_neg (by omega), if_neg (by omega)]
      refine con_mono (tt_Reader_refuse hb1 H.1.1) ?_
      rintro r h3 ⟨z, rfl, hb3, f3, rfl, w1, w2⟩
      exact ⟨0, rfl, hb3, fun _ => nx h3 0 (by omega) hb3 (fr_w f3 (fun a k w => by omega)) (Or.inl rfl) (fun q e => by rw [ei] at e; cases e) (by rw [ei]; exact ⟨rfl, w1, w2⟩), fun d => absurd rfl d⟩
  · unfold B_Reader_read_0
    refine con_mono (t_Score_clear hb0) ?_
    rintro r h2 ⟨rfl, hb2, f2, g1, g2, g3, g4, g6, g10, g12⟩
    refine ⟨rfl, hb2, fun h5 e5 h7 e7 => ?_⟩
    have f7 : fr (fun a _ => a = s ∨ a = 2) h h7 := fr_i (fr_i (fr_w f2 (fun a k w => Or.inl w)) e5 (Or.inr rfl)) e7 (Or.inr rfl)
    refine con_mono (t_Tokens_cutAll (hb_i (hb_i hb2 e5) e7) (T := T) (fun j hj => ⟨by rw [fr_g f7 (by omega)]; exact (hTp j hj).1, (hTp j hj).2⟩) hn) ?_
    rintro r h10 ⟨rfl, hb10, f10, t, m, ⟨a, b, k1, k2, k3⟩, kl, R10⟩
    have q : ∀ k, h10.2.1 s k = h2.2.1 s k := fun k => by rw [fr_g f10 (by omega), mm_i e7 (by omega), mm_i e5 (by omega)]
    refine ⟨rfl, hb10, Int.le_refl _, fr_t (fr_w f7 (fun a k w => by omega)) f10 (fun a k w => by omega), t, m, a, b, ⟨k1, k2, k3, kl, by have := R10.2.2.1; omega⟩, Or.inr (Or.inr ⟨rfl, 0, 2999, sco0, ⟨⟨R10, ⟨⟨?_, ?_, ?_, ?_, ?_, ?_, ?_, ?_⟩, ⟨⟨by decide, by decide⟩, ⟨by decide, by decide⟩, ⟨by decide, by decide⟩, ⟨by decide, by decide⟩, by decide, by decide⟩, fun j hj => ?_, fun j hj => ?_, fun j hj => ?_, fun j hj => ?_⟩, ?_⟩, fun n hn => ?_⟩, Or.inl rfl, by decide, by decide, rfl⟩)⟩
    · rw [q, g4]; rfl
    · rw [q, g2]; rfl
    · rw [q, g3]; rfl
    · rw [q, g6]; rfl
    · rw [q, g10]; rfl
    · rw [q, g12]; rfl
    · rw [fr_g f10 (by omega), mm_i e7 (by omega), mv_i e5]; rfl
    · rw [q, g1]; rfl
    · exact absurd hj (by show ¬ (j : Int) < 0; omega)
    · exact absurd hj (by show ¬ (j : Int) < 0; omega)
    · exact absurd hj (by show ¬ (j : Int) < 0; omega)
    · exact absurd hj (by show ¬ (j : Int) < 0; omega)
    · rw [fr_g f10 (by omega), mv_i e7]
    · exact absurd hn (by show ¬ (n : Int) < 0; omega)

/-! ===== verification conditions, 507 ===== -/
def B_PM_putBytes_45 (G : cx_T) (s : Nat) (a1 : Int) (v2 : Int) (h : ah_T) (Q : Option av_T → ah_T → Prop) (X3 : Int → ah_T → Prop) : Prop :=
 ((-2147483648) ≤ (v2 - 8) ∧ (v2 - 8) ≤ 2147483647) ∧ X3 ((v2 - 8)) h
theorem b_PM_putBytes_45 {G : cx_T} {s : Nat} {a1 : Int} {v2 : Int} {h : ah_T} {Q : Option av_T → ah_T → Prop} {X3 : Int → ah_T → Prop} (hX3 : ∀ (v2 : Int) (h : ah_T), hb s h → X3 v2 h → aw G (rm_R 0 0 0) m_PM_putBytes 0 0 3 [some (av_R (some 0)), some (av_I a1), some (av_I v2)] [] h Q) (hb0 : hb s h) (H : B_PM_putBytes_45 G s a1 v2 h Q X3) : aw G (rm_R 0 0 0) m_PM_putBytes 0 0 45 [some (av_R (some 0)), some (av_I a1), some (av_I v2)] [] h Q := by
  unfold B_PM_putBytes_45 at H
  have hS : isS s := hb0.2.1
  have g1 := H.1
  replace H := H.2
  refine A_iincv (z := (v2 - 8)) (L' := [some (av_R (some 0)), some (av_I a1), some (av_I (v2 - 8))]) d_PM_putBytes_45 rfl (w32_to (by omega) (by unfold i32; omega)) rfl ?_
  refine A_goto (tgt := 3) d_PM_putBytes_48 (by decide) ?_
  refine A_pc (pc' := 3) rfl ?_
  exact hX3 ((v2 - 8)) h  hb0 H
def B_PM_putBytes_3 (G : cx_T) (s : Nat) (a1 : Int) (v2 : Int) (h : ah_T) (Q : Option av_T → ah_T → Prop) (X3 : Int → ah_T → Prop) : Prop :=
 ((v2 < 0 → Q none h) ∧ (¬ v2 < 0 → ∀ x1 : Int, x1 = h.2.1 0 1 → -2147483648 ≤ x1 → x1 ≤ 2147483647 → ((2000 ≤ x1 → B_PM_putBytes_45 G s a1 (v2) h Q X3) ∧ (¬ 2000 ≤ x1 → ∀ x5 : Int, x5 = ((Int32.ofInt a1).toUInt32 >>> ((Int32.ofInt v2).toUInt32 &&& Int32.toUInt32 31)).toInt32.toInt → (-2147483648) ≤ x5 → x5 ≤ 2147483647 → ∀ x6 : Int, x6 = ((Int32.ofInt x5) &&& (Int32.ofInt 255)).toInt → (-2147483648) ≤ x6 → x6 ≤ 2147483647 → (0 ≤ x1 ∧ x1 < 2000) ∧ ∀ h8 : ah_T, h8 = st_i h 1 (x1).toNat x6 → ((-2147483648) ≤ (x1 + 1) ∧ (x1 + 1) ≤ 2147483647) ∧ ∀ h12 : ah_T, h12 = st_i h8 0 1 (x1 + 1) → B_PM_putBytes_45 G s a1 (v2) h12 Q X3))))
theorem b_PM_putBytes_3 {G : cx_T} {s : Nat} {a1 : Int} {v2 : Int} {h : ah_T} {Q : Option av_T → ah_T → Prop} {X3 : Int → ah_T → Prop} (hX3 : ∀ (v2 : Int) (h : ah_T), hb s h → X3 v2 h → aw G (rm_R 0 0 0) m_PM_putBytes 0 0 3 [some (av_R (some 0)), some (av_I a1), some (av_I v2)] [] h Q) (hb0 : hb s h) (H : B_PM_putBytes_3 G s a1 v2 h Q X3) : aw G (rm_R 0 0 0) m_PM_putBytes 0 0 3 [some (av_R (some 0)), some (av_I a1), some (av_I v2)] [] h Q := by
  unfold B_PM_putBytes_3 at H
  have hS : isS s := hb0.2.1
  refine A_iload_n 2 d_PM_putBytes_3 rfl rfl ?_
  refine A_if_lt (tgt := 51) d_PM_putBytes_4 (by decide) (fun c => ?_) (fun c => ?_)
  · replace H := H.1 c
    exact A_vret d_PM_putBytes_51 (by decide) rfl H
  · replace H := H.2 c
    refine A_aload_n 0 d_PM_putBytes_7 rfl rfl ?_
    refine A_getIf T_ok d_PM_putBytes_8 f_PM_13 (hb_s hb0 sf_0) (fun x1 ex1 lx1 ux1 => ?_)
    replace H := H x1 ex1 lx1 ux1
    refine A_aload_n 0 d_PM_putBytes_11 rfl rfl ?_
    refine A_getAv (z := some 1) T_ok d_PM_putBytes_12 f_PM_9 (hb_s hb0 sf_0) (hb_r hb0 rff_0_0) ?_
    refine A_alenN d_PM_putBytes_15 (hb_s hb0 sf_1) (by decide) (by decide) ?_
    refine A_pc (pc' := 16) rfl ?_
    refine A_icmp_ge (tgt := 45) d_PM_putBytes_16 (by decide) (fun c => ?_) (fun c => ?_)
    · replace H := H.1 c
      refine A_pc (pc' := 45) rfl ?_
      exact b_PM_putBytes_45  hX3  hb0 H
    · replace H := H.2 c
      refine A_aload_n 0 d_PM_putBytes_19 rfl rfl ?_
      refine A_getAv (z := some 1) T_ok d_PM_putBytes_20 f_PM_9 (hb_s hb0 sf_0) (hb_r hb0 rff_0_0) ?_
      refine A_aload_n 0 d_PM_putBytes_23 rfl rfl ?_
      refine A_getIv (z := x1) T_ok d_PM_putBytes_24 f_PM_13 (hb_s hb0 sf_0) ex1.symm ?_
      refine A_iload_n 1 d_PM_putBytes_27 rfl rfl ?_
      refine A_pc (pc' := 28) rfl ?_
      refine A_iload_n 2 d_PM_putBytes_28 rfl rfl ?_
      refine A_iushr d_PM_putBytes_29 ?_
      refine A_nrI (fun x5 ex5 lx5 ux5 => ?_)
      replace H := H x5 ex5 lx5 ux5
      refine A_sipush d_PM_putBytes_30 rfl ?_
      refine A_iand d_PM_putBytes_33 ?_
      refine A_nrI (fun x6 ex6 lx6 ux6 => ?_)
      replace H := H x6 ex6 lx6 ux6
      have g7 := H.1
      replace H := H.2
      refine A_iastoreN d_PM_putBytes_34 (hb_s hb0 sf_1) g7.1 g7.2 ?_
      refine A_hn (fun h8 eh8 => ?_)
      have hb9 := hb_i hb0 eh8
      replace H := H h8 eh8
      refine A_aload_n 0 d_PM_putBytes_35 rfl rfl ?_
      refine A_pc (pc' := 36) rfl ?_
      refine A_dupR d_PM_putBytes_36 ?_
      refine A_getIv (z := x1) T_ok d_PM_putBytes_37 f_PM_13 (hb_s hb9 sf_0) ((mm_i eh8 (fun q => absurd q.1 (by decide))).trans ex1.symm) ?_
      refine A_iconst d_PM_putBytes_40 rfl ?_
      have g11 := H.1
      replace H := H.2
      refine A_iaddv (z := (x1 + 1)) d_PM_putBytes_41 (w32_to (by omega) (by unfold i32; omega)) ?_
      refine A_putI T_ok d_PM_putBytes_42 f_PM_13 (hb_s hb9 sf_0) fin_f ?_
      refine A_hn (fun h12 eh12 => ?_)
      have hb13 := hb_i hb9 eh12
      replace H := H h12 eh12
      refine A_pc (pc' := 45) rfl ?_
      exact b_PM_putBytes_45  hX3  hb13 H
theorem lp_PM_putBytes_3 {G : cx_T} {s : Nat} {a1 : Int} {Q : Option av_T → ah_T → Prop} (I : Int → ah_T → Prop) (μ : Int → ah_T → Nat) (hI : ∀ (v2 : Int) (h : ah_T), hb s h → I v2 h → B_PM_putBytes_3 G s a1 v2 h Q (fun v2' h' => I v2' h' ∧ μ v2' h' < μ v2 h)) : ∀ (v2 : Int) (h : ah_T), hb s h → I v2 h → aw G (rm_R 0 0 0) m_PM_putBytes 0 0 3 [some (av_R (some 0)), some (av_I a1), some (av_I v2)] [] h Q := by
  have key : ∀ (n : Nat) (v2 : Int) (h : ah_T), hb s h → I v2 h → μ v2 h < n → aw G (rm_R 0 0 0) m_PM_putBytes 0 0 3 [some (av_R (some 0)), some (av_I a1), some (av_I v2)] [] h Q := by
    intro n
    induction n with
    | zero => intro v2 h  hb0 hi hm; omega
    | succ n ih => intro v2 h  hb0 hi hm; exact b_PM_putBytes_3  (fun v2' h'  hb' hx => ih v2' h'  hb' hx.1 (by have := hx.2; omega))  hb0 (hI v2 h  hb0 hi)
  exact fun v2 h  hb0 hi => key _ v2 h  hb0 hi (Nat.lt_succ_self _)
def B_PM_putBytes_0 (G : cx_T) (s : Nat) (a1 : Int) (h : ah_T) (Q : Option av_T → ah_T → Prop) (X3 : Int → ah_T → Prop) : Prop :=
 X3 (24) h
theorem b_PM_putBytes_0 {G : cx_T} {s : Nat} {a1 : Int} {h : ah_T} {Q : Option av_T → ah_T → Prop} {X3 : Int → ah_T → Prop} (hX3 : ∀ (v2 : Int) (h : ah_T), hb s h → X3 v2 h → aw G (rm_R 0 0 0) m_PM_putBytes 0 0 3 [some (av_R (some 0)), some (av_I a1), some (av_I v2)] [] h Q) (hb0 : hb s h) (H : B_PM_putBytes_0 G s a1 h Q X3) : aw G (rm_R 0 0 0) m_PM_putBytes 0 0 0 [some (av_R (some 0)), some (av_I a1), none] [] h Q := by
  unfold B_PM_putBytes_0 at H
  have hS : isS s := hb0.2.1
  refine A_bipush d_PM_putBytes_0 rfl ?_
  refine A_istore_n 2 (L' := [some (av_R (some 0)), some (av_I a1), some (av_I 24)]) d_PM_putBytes_2 rfl (Nat.le_of_ble_eq_true rfl) rfl ?_
  refine A_pc (pc' := 3) rfl ?_
  exact hX3 (24) h  hb0 H
theorem c_PM_putBytes {G : cx_T} {s : Nat} {a1 : Int} {h : ah_T} {Q : Option av_T → ah_T → Prop} {X3 : Int → ah_T → Prop} (hX3 : ∀ (v2 : Int) (h : ah_T), hb s h → X3 v2 h → aw G (rm_R 0 0 0) m_PM_putBytes 0 0 3 [some (av_R (some 0)), some (av_I a1), some (av_I v2)] [] h Q) (hb0 : hb s h) (H : i32 a1 → B_PM_putBytes_0 G s a1 h Q X3) : con G 0 0 0 m_PM_putBytes [av_R (some 0), av_I a1] h Q := by
  have hS : isS s := hb0.2.1
  refine con_of (L := [some (av_R (some 0)), some (av_I a1), none]) (by decide +kernel) (Nat.le_of_ble_eq_true rfl) rfl ?_
  refine A_locI 1 rfl (fun ra1 => ?_)
  exact b_PM_putBytes_0  hX3 hb0 (H ra1)
def B_PM_feed_0 (G : cx_T) (s : Nat) (a1 : Int) (a2 : Int) (a3 : Int) (a4 : Int) (a5 : Int) (h : ah_T) (Q : Option av_T → ah_T → Prop) : Prop :=
 ∀ x1 : Int, x1 = h.2.1 0 1 → -2147483648 ≤ x1 → x1 ≤ 2147483647 → ((-2147483648) ≤ (x1 + 20) ∧ (x1 + 20) ≤ 2147483647) ∧ (((x1 + 20) ≤ 2000 → con G 0 0 0 m_PM_putBytes [av_R (some 0), av_I a1] h (fun r h3 => r = none ∧ hb s h3 ∧ con G 0 0 0 m_PM_putBytes [av_R (some 0), av_I a2] h3 (fun r h6 => r = none ∧ hb s h6 ∧ con G 0 0 0 m_PM_putBytes [av_R (some 0), av_I a3] h6 (fun r h9 => r = none ∧ hb s h9 ∧ con G 0 0 0 m_PM_putBytes [av_R (some 0), av_I a4] h9 (fun r h12 => r = none ∧ hb s h12 ∧ con G 0 0 0 m_PM_putBytes [av_R (some 0), av_I a5] h12 (fun r h15 => r = none ∧ hb s h15 ∧ ∀ x18 : Int, x18 = h15.2.1 0 1 → -2147483648 ≤ x18 → x18 ≤ 2147483647 → Q (some (av_I x18)) h15)))))) ∧ (¬ (x1 + 20) ≤ 2000 → Q (some (av_I (-3))) h))
theorem b_PM_feed_0 {G : cx_T} {s : Nat} {a1 : Int} {a2 : Int} {a3 : Int} {a4 : Int} {a5 : Int} {h : ah_T} {Q : Option av_T → ah_T → Prop} (hb0 : hb s h) (H : B_PM_feed_0 G s a1 a2 a3 a4 a5 h Q ) : aw G (rm_R 1 0 0) m_PM_feed 0 0 0 [some (av_R (some 0)), some (av_I a1), some (av_I a2), some (av_I a3), some (av_I a4), some (av_I a5)] [] h Q := by
  unfold B_PM_feed_0 at H
  have hS : isS s := hb0.2.1
  refine A_aload_n 0 d_PM_feed_0 rfl rfl ?_
  refine A_getIf T_ok d_PM_feed_1 f_PM_13 (hb_s hb0 sf_0) (fun x1 ex1 lx1 ux1 => ?_)
  replace H := H x1 ex1 lx1 ux1
  refine A_bipush d_PM_feed_4 rfl ?_
  have g2 := H.1
  replace H := H.2
  refine A_iaddv (z := (x1 + 20)) d_PM_feed_6 (w32_to (by omega) (by unfold i32; omega)) ?_
  refine A_sipush d_PM_feed_7 rfl ?_
  refine A_pc (pc' := 10) rfl ?_
  refine A_icmp_le (tgt := 16) d_PM_feed_10 (by decide) (fun c => ?_) (fun c => ?_)
  · replace H := H.1 c
    refine A_aload_n 0 d_PM_feed_16 rfl rfl ?_
    refine A_iload_n 1 d_PM_feed_17 rfl rfl ?_
    refine A_callV1 m_PM_putBytes T_ok d_PM_feed_18 l_PM_76 k_PM_putBytes (hb_s hb0 sf_0) rfl (by decide +kernel) (by decide) (Nat.le_of_ble_eq_true rfl) H (fun r h3 hq => ?_)
    clear H
    obtain ⟨rfl, hb4, H⟩ := hq
    refine A_aload_n 0 d_PM_feed_21 rfl rfl ?_
    refine A_iload_n 2 d_PM_feed_22 rfl rfl ?_
    refine A_callV1 m_PM_putBytes T_ok d_PM_feed_23 l_PM_76 k_PM_putBytes (hb_s hb4 sf_0) rfl (by decide +kernel) (by decide) (Nat.le_of_ble_eq_true rfl) H (fun r h6 hq => ?_)
    clear H
    obtain ⟨rfl, hb7, H⟩ := hq
    refine A_aload_n 0 d_PM_feed_26 rfl rfl ?_
    refine A_iload_n 3 d_PM_feed_27 rfl rfl ?_
    refine A_callV1 m_PM_putBytes T_ok d_PM_feed_28 l_PM_76 k_PM_putBytes (hb_s hb7 sf_0) rfl (by decide +kernel) (by decide) (Nat.le_of_ble_eq_true rfl) H (fun r h9 hq => ?_)
    clear H
    obtain ⟨rfl, hb10, H⟩ := hq
    refine A_aload_n 0 d_PM_feed_31 rfl rfl ?_
    refine A_iload d_PM_feed_32 rfl ?_
    refine A_callV1 m_PM_putBytes T_ok d_PM_feed_34 l_PM_76 k_PM_putBytes (hb_s hb10 sf_0) rfl (by decide +kernel) (by decide) (Nat.le_of_ble_eq_true rfl) H (fun r h12 hq => ?_)
    clear H
    obtain ⟨rfl, hb13, H⟩ := hq
    refine A_aload_n 0 d_PM_feed_37 rfl rfl ?_
    refine A_iload d_PM_feed_38 rfl ?_
    refine A_callV1 m_PM_putBytes T_ok d_PM_feed_40 l_PM_76 k_PM_putBytes (hb_s hb13 sf_0) rfl (by decide +kernel) (by decide) (Nat.le_of_ble_eq_true rfl) H (fun r h15 hq => ?_)
    clear H
    obtain ⟨rfl, hb16, H⟩ := hq
    refine A_aload_n 0 d_PM_feed_43 rfl rfl ?_
    refine A_getIf T_ok d_PM_feed_44 f_PM_13 (hb_s hb16 sf_0) (fun x18 ex18 lx18 ux18 => ?_)
    replace H := H x18 ex18 lx18 ux18
    exact A_iret d_PM_feed_47 (by decide) rfl H
  · replace H := H.2 c
    refine A_bipush d_PM_feed_13 rfl ?_
    exact A_iret d_PM_feed_15 (by decide) rfl H
theorem c_PM_feed {G : cx_T} {s : Nat} {a1 : Int} {a2 : Int} {a3 : Int} {a4 : Int} {a5 : Int} {h : ah_T} {Q : Option av_T → ah_T → Prop} (hb0 : hb s h) (H : i32 a1 → i32 a2 → i32 a3 → i32 a4 → i32 a5 → B_PM_feed_0 G s a1 a2 a3 a4 a5 h Q ) : con G 1 0 0 m_PM_feed [av_R (some 0), av_I a1, av_I a2, av_I a3, av_I a4, av_I a5] h Q := by
  have hS : isS s := hb0.2.1
  refine con_of (L := [some (av_R (some 0)), some (av_I a1), some (av_I a2), some (av_I a3), some (av_I a4), some (av_I a5)]) (by decide +kernel) (Nat.le_of_ble_eq_true rfl) rfl ?_
  refine A_locI 1 rfl (fun ra1 => ?_)
  refine A_locI 2 rfl (fun ra2 => ?_)
  refine A_locI 3 rfl (fun ra3 => ?_)
  refine A_locI 4 rfl (fun ra4 => ?_)
  refine A_locI 5 rfl (fun ra5 => ?_)
  exact b_PM_feed_0   hb0 (H ra1 ra2 ra3 ra4 ra5)
def B_PM_cut_12 (G : cx_T) (s : Nat) (a1 : Int) (h : ah_T) (Q : Option av_T → ah_T → Prop) : Prop :=
 Q (some (av_I (-1))) h
theorem b_PM_cut_12 {G : cx_T} {s : Nat} {a1 : Int} {h : ah_T} {Q : Option av_T → ah_T → Prop} (hb0 : hb s h) (H : B_PM_cut_12 G s a1 h Q ) : aw G (rm_R 0 0 0) m_PM_cut 0 0 12 [none, none] [] h Q := by
  unfold B_PM_cut_12 at H
  have hS : isS s := hb0.2.1
  refine A_iconst d_PM_cut_12 rfl ?_
  exact A_iret d_PM_cut_13 (by decide) rfl H
def B_PM_cut_0 (G : cx_T) (s : Nat) (a1 : Int) (h : ah_T) (Q : Option av_T → ah_T → Prop) : Prop :=
 ((a1 < 0 → B_PM_cut_12 G s a1 h Q ) ∧ (¬ a1 < 0 → ∀ x1 : Int, x1 = h.2.1 0 1 → -2147483648 ≤ x1 → x1 ≤ 2147483647 → ((a1 ≤ x1 → ((-2147483648) ≤ (x1 - a1) ∧ (x1 - a1) ≤ 2147483647) ∧ ∀ h4 : ah_T, h4 = st_i h 0 1 (x1 - a1) → Q (some (av_I (x1 - a1))) h4) ∧ (¬ a1 ≤ x1 → B_PM_cut_12 G s a1 h Q ))))
theorem b_PM_cut_0 {G : cx_T} {s : Nat} {a1 : Int} {h : ah_T} {Q : Option av_T → ah_T → Prop} (hb0 : hb s h) (H : B_PM_cut_0 G s a1 h Q ) : aw G (rm_R 0 0 0) m_PM_cut 0 0 0 [some (av_R (some 0)), some (av_I a1)] [] h Q := by
  unfold B_PM_cut_0 at H
  have hS : isS s := hb0.2.1
  refine A_iload_n 1 d_PM_cut_0 rfl rfl ?_
  refine A_if_lt (tgt := 12) d_PM_cut_1 (by decide) (fun c => ?_) (fun c => ?_)
  · replace H := H.1 c
    refine A_pc (pc' := 12) rfl ?_
    refine A_free (L' := [none, none]) trivial ?_
    exact b_PM_cut_12    hb0 H
  · replace H := H.2 c
    refine A_iload_n 1 d_PM_cut_4 rfl rfl ?_
    refine A_aload_n 0 d_PM_cut_5 rfl rfl ?_
    refine A_getIf T_ok d_PM_cut_6 f_PM_13 (hb_s hb0 sf_0) (fun x1 ex1 lx1 ux1 => ?_)
    replace H := H x1 ex1 lx1 ux1
    refine A_icmp_le (tgt := 14) d_PM_cut_9 (by decide) (fun c => ?_) (fun c => ?_)
    · replace H := H.1 c
      refine A_aload_n 0 d_PM_cut_14 rfl rfl ?_
      refine A_dupR d_PM_cut_15 ?_
      refine A_getIv (z := x1) T_ok d_PM_cut_16 f_PM_13 (hb_s hb0 sf_0) ex1.symm ?_
      refine A_iload_n 1 d_PM_cut_19 rfl rfl ?_
      have g3 := H.1
      replace H := H.2
      refine A_isubv (z := (x1 - a1)) d_PM_cut_20 (w32_to (by omega) (by unfold i32; omega)) ?_
      refine A_pc (pc' := 21) rfl ?_
      refine A_putI T_ok d_PM_cut_21 f_PM_13 (hb_s hb0 sf_0) fin_f ?_
      refine A_hn (fun h4 eh4 => ?_)
      have hb5 := hb_i hb0 eh4
      replace H := H h4 eh4
      refine A_aload_n 0 d_PM_cut_24 rfl rfl ?_
      refine A_getIv (z := (x1 - a1)) T_ok d_PM_cut_25 f_PM_13 (hb_s hb5 sf_0) (mv_i eh4) ?_
      exact A_iret d_PM_cut_28 (by decide) rfl H
    · replace H := H.2 c
      refine A_pc (pc' := 12) rfl ?_
      refine A_free (L' := [none, none]) trivial ?_
      exact b_PM_cut_12    hb0 H
theorem c_PM_cut {G : cx_T} {s : Nat} {a1 : Int} {h : ah_T} {Q : Option av_T → ah_T → Prop} (hb0 : hb s h) (H : i32 a1 → B_PM_cut_0 G s a1 h Q ) : con G 0 0 0 m_PM_cut [av_R (some 0), av_I a1] h Q := by
  have hS : isS s := hb0.2.1
  refine con_of (L := [some (av_R (some 0)), some (av_I a1)]) (by decide +kernel) (Nat.le_of_ble_eq_true rfl) rfl ?_
  refine A_locI 1 rfl (fun ra1 => ?_)
  exact b_PM_cut_0   hb0 (H ra1)

/-! ===== the class: the tape, byte by byte ===== -/
/-- byte i of an int, from the top -/
def byt (a : Int) (i : Nat) : Int := an_I (us_I a (24 - 8 * (i : Int))) 255
theorem t_PM_putBytes {G : cx_T} {s k : Nat} {h : ah_T} {a : Int} (hb0 : hb s h) (hk : h.2.1 0 1 = (k : Int)) (hk2 : k + 4 ≤ 2000) : con G 0 0 0 m_PM_putBytes [av_R (some 0), av_I a] h (fun r h' => r = none ∧ hb s h' ∧ fr (fun x j => (x = 0 ∧ j = 1) ∨ (x = 1 ∧ k ≤ j ∧ j < k + 4)) h h' ∧ h'.2.1 0 1 = (k : Int) + 4 ∧ ∀ i, i < 4 → h'.2.1 1 (k + i) = byt a i) := by
  refine c_PM_putBytes (X3 := fun v2 hh => ∃ i : Nat, i ≤ 4 ∧ v2 = 24 - 8 * (i : Int) ∧ hh.2.1 0 1 = (k : Int) + i ∧ fr (fun x j => (x = 0 ∧ j = 1) ∨ (x = 1 ∧ k ≤ j ∧ j < k + 4)) h hh ∧ ∀ j, j < i → hh.2.1 1 (k + j) = byt a j) ?_ hb0 (fun _ => ?_)
  · refine lp_PM_putBytes_3 (a1 := a) _ (fun v2 _ => (v2 + 8).toNat) ?_
    rintro v2 hh hb1 ⟨i, hi, rfl, hki, hf, hby⟩
    unfold B_PM_putBytes_3 B_PM_putBytes_45
    refine ⟨fun c => ?_, fun c x1 e1 _ _ => ⟨fun c1 => by omega, fun c1 x5 e5 _ _ x6 e6 _ _ => ⟨⟨by omega, by omega⟩, ?_⟩⟩⟩
    · have hi4 : i = 4 := by omega
      subst hi4
      exact ⟨rfl, hb1, hf, by rw [hki]; rfl, hby⟩
    · have ek : x1.toNat = k + i := by omega
      rw [ek]
      intro h8 e8
      refine ⟨⟨by omega, by omega⟩, fun h12 e12 => ⟨⟨by omega, by omega⟩, ⟨i + 1, by omega, by omega, by rw [mv_i e12]; omega, fr_i (fr_i hf e8 (by omega)) e12 (by omega), fun j hj => ?_⟩, by omega⟩⟩
      rw [mm_i e12 (by omega)]
      by_cases c2 : j = i
      · rw [c2, mv_i e8, e6, e5]; rfl
      · rw [mm_i e8 (by omega)]; exact hby j (by omega)
  · unfold B_PM_putBytes_0
    exact ⟨0, by decide, rfl, by rw [hk]; omega, fr_0, fun j hj => by omega⟩
/-- the twenty bytes of a feed -/
def fdb (a b c d e : Int) (j : Nat) : Int := if j < 4 then byt a j else if j < 8 then byt b (j - 4) else if j < 12 then byt c (j - 8) else if j < 16 then byt d (j - 12) else byt e (j - 16)
theorem t_PM_feed {G : cx_T} {s k : Nat} {h : ah_T} {a b c d e : Int} (hb0 : hb s h) (hk : h.2.1 0 1 = (k : Int)) (hk2 : k ≤ 2000) : con G 1 0 0 m_PM_feed [av_R (some 0), av_I a, av_I b, av_I c, av_I d, av_I e] h (fun r h' => hb s h' ∧ ((k + 20 ≤ 2000 ∧ r = some (av_I ((k : Int) + 20)) ∧ fr (fun x j => (x = 0 ∧ j = 1) ∨ (x = 1 ∧ k ≤ j ∧ j < k + 20)) h h' ∧ h'.2.1 0 1 = (k : Int) + 20 ∧ ∀ j, j < 20 → h'.2.1 1 (k + j) = fdb a b c d e j) ∨ (¬ k + 20 ≤ 2000 ∧ r = some (av_I (-3)) ∧ h' = h))) := by
  refine c_PM_feed hb0 (fun _ _ _ _ _ => ?_)
  unfold B_PM_feed_0
  intro x1 e1 _ _
  obtain rfl : x1 = (k : Int) := e1.trans hk
  refine ⟨⟨by omega, by omega⟩, fun w => ?_, fun w => ⟨hb0, Or.inr ⟨by omega, rfl, rfl⟩⟩⟩
  refine con_mono (t_PM_putBytes hb0 hk (by omega)) ?_
  rintro r h3 ⟨rfl, hb3, f3, k3, y3⟩
  refine ⟨rfl, hb3, con_mono (t_PM_putBytes (k := k + 4) hb3 (by rw [k3]; omega) (by omega)) ?_⟩
  rintro r h6 ⟨rfl, hb6, f6, k6, y6⟩
  refine ⟨rfl, hb6, con_mono (t_PM_putBytes (k := k + 8) hb6 (by rw [k6]; omega) (by omega)) ?_⟩
  rintro r h9 ⟨rfl, hb9, f9, k9, y9⟩
  refine ⟨rfl, hb9, con_mono (t_PM_putBytes (k := k + 12) hb9 (by rw [k9]; omega) (by omega)) ?_⟩
  rintro r h12 ⟨rfl, hb12, f12, k12, y12⟩
  refine ⟨rfl, hb12, con_mono (t_PM_putBytes (k := k + 16) hb12 (by rw [k12]; omega) (by omega)) ?_⟩
  rintro r h15 ⟨rfl, hb15, f15, k15, y15⟩
  refine ⟨rfl, hb15, fun x18 e18 _ _ => ⟨hb15, Or.inl ⟨by omega, ?_, ?_, by rw [k15]; omega, fun j hj => ?_⟩⟩⟩
  · have : x18 = (k : Int) + 20 := by rw [e18, k15]; omega
    rw [this]
  · exact fr_t (fr_t (fr_t (fr_t (fr_w f3 (fun a k w => by omega)) f6 (fun a k w => by omega)) f9 (fun a k w => by omega)) f12 (fun a k w => by omega)) f15 (fun a k w => by omega)
  · unfold fdb
    by_cases c1 : j < 4
    · rw [if_pos c1, fr_g f15 (by omega), fr_g f12 (by omega), fr_g f9 (by omega), fr_g f6 (by omega)]; exact y3 j c1
    rw [if_neg c1]
    by_cases c2 : j < 8
    · rw [if_pos c2, fr_g f15 (by omega), fr_g f12 (by omega), fr_g f9 (by omega)]
      have := y6 (j - 4) (by omega)
      rw [show k + 4 + (j - 4) = k + j by omega] at this; exact this
    rw [if_neg c2]
    by_cases c3 : j < 12
    · rw [if_pos c3, fr_g f15 (by omega), fr_g f12 (by omega)]
      have := y9 (j - 8) (by omega)
      rw [show k + 8 + (j - 8) = k + j by omega] at this; exact this
    rw [if_neg c3]
    by_cases c4 : j < 16
    · rw [if_pos c4, fr_g f15 (by omega)]
      have := y12 (j - 12) (by omega)
      rw [show k + 12 + (j - 12) = k + j by omega] at this; exact this
    rw [if_neg c4]
    have := y15 (j - 16) (by omega)
    rw [show k + 16 + (j - 16) = k + j by omega] at this; exact this
theorem t_PM_cut {G : cx_T} {s k : Nat} {h : ah_T} {a : Int} (hb0 : hb s h) (hk : h.2.1 0 1 = (k : Int)) (hk2 : k ≤ 2000) : con G 0 0 0 m_PM_cut [av_R (some 0), av_I a] h (fun r h' => hb s h' ∧ ((0 ≤ a ∧ a ≤ k ∧ r = some (av_I ((k : Int) - a)) ∧ fr (fun x j => x = 0 ∧ j = 1) h h' ∧ h'.2.1 0 1 = (k : Int) - a) ∨ (¬ (0 ≤ a ∧ a ≤ k) ∧ r = some (av_I (-1)) ∧ h' = h))) := by
  refine c_PM_cut hb0 (fun _ => ?_)
  unfold B_PM_cut_0 B_PM_cut_12
  refine ⟨fun c => ⟨hb0, Or.inr ⟨by omega, rfl, rfl⟩⟩, fun c x1 e1 _ _ => ?_⟩
  obtain rfl : x1 = (k : Int) := e1.trans hk
  exact ⟨fun c1 => ⟨⟨by omega, by omega⟩, fun h4 e4 => ⟨hb_i hb0 e4, Or.inl ⟨by omega, c1, rfl, fr_i fr_0 e4 ⟨rfl, rfl⟩, mv_i e4⟩⟩⟩, fun c1 => ⟨hb0, Or.inr ⟨by omega, rfl, rfl⟩⟩⟩

/-! ===== two contracts of one call hold together ===== -/
theorem ended_within {s : State} {below : List Frame} {o : Outcome} (h : Ended s below o) (w : Within s below) : False := by
  obtain ⟨ab, e, ne, nt⟩ := w
  have hp : 0 < ab.length := List.length_pos_iff.mpr ne
  cases o with
  | threw a =>
    have h' : s.frames = .throwing a :: below := h
    rw [e] at h'
    have : ab = [.throwing a] := List.append_cancel_right (as := ab) (bs := below) (cs := [.throwing a]) (by simpa using h')
    exact nt a this
  | returned v =>
    have hl : s.frames.length = below.length := by
      unfold Ended at h
      dsimp only at h
      split at h
      · obtain ⟨c, i, len, -, -, h⟩ := h; rw [h]; rfl
      · rw [h]; rfl
      · rw [h]; rfl
      · rw [h.2]
    rw [e, List.length_append] at hl
    omega
theorem ended_one {tb : Tables} {e : Env} {s : State} {below : List Frame} {n1 n2 : Nat} {o1 o2 : Outcome} (w1 : ∀ k, k < n1 → Within (stepsAlone tb e k s) below) (e1 : Ended (stepsAlone tb e n1 s) below o1) (w2 : ∀ k, k < n2 → Within (stepsAlone tb e k s) below) (e2 : Ended (stepsAlone tb e n2 s) below o2) : n1 = n2 := by
  rcases Nat.lt_trichotomy n1 n2 with h | h | h
  · exact (ended_within e1 (w2 n1 h)).elim
  · exact h
  · exact (ended_within e2 (w1 n2 h)).elim
theorem ended_val {s : State} {below : List Frame} {o1 o2 : Outcome} (h1 : Ended s below o1) (h2 : Ended s below o2) : o1 = o2 := by
  have len : ∀ v, Ended s below (.returned v) → s.frames.length = below.length := by
    intro v h
    unfold Ended at h
    dsimp only at h
    split at h
    · obtain ⟨c, i, len, -, -, h⟩ := h; rw [h]; rfl
    · rw [h]; rfl
    · rw [h]; rfl
    · rw [h.2]
  have thr : ∀ a, Ended s below (.threw a) → s.frames = .throwing a :: below := fun a h => h
  cases o1 with
  | threw a =>
    have e1 := thr a h1
    cases o2 with
    | threw b => have e2 := thr b h2; rw [e1] at e2; injection e2 with e3 _; injection e3 with e4; rw [e4]
    | returned v => have := len v h2; rw [e1, List.length_cons] at this; omega
  | returned v =>
    cases o2 with
    | threw b => have e2 := thr b h2; have := len v h1; rw [e2, List.length_cons] at this; omega
    | returned w =>
      congr 1
      unfold Ended at h1 h2
      dsimp only at h1 h2
      split at h1
      · obtain ⟨c, i, l, x1, x2, x3⟩ := h1
        obtain ⟨c', i', l', y1, y2, y3⟩ := h2
        rw [x3] at y3
        injection y3 with y4 _
        injection y4 with y5
        injection y5 with _ _ _ y6
        first
          | (have := List.append_cancel_right y6; cases v <;> cases w <;> simp_all)
          | simp_all
      · rw [h1] at h2
        injection h2 with y4 _
        injection y4 with y5
        simp_all
      · rw [h1] at h2
        injection h2 with y4 _
        injection y4 with y5
        simp_all
      · split at h2
        all_goals first
          | (rw [h1.1, h2.1]; done)
          | (exfalso; simp_all)
/-- what both say of one heap -/
def sameH (G : cx_T) (h1 h2 : ah_T) : Prop := ∃ t : State, hr_OK G h1 t.heap ∧ hr_OK G h2 t.heap
theorem con_conj {G : cx_T} {d mc ms : Nat} {M : mr_T} {As : List av_T} {h h2 : ah_T} {Q1 Q2 : Option av_T → ah_T → Prop} (H1 : con G d mc ms M As h Q1) (H2 : con G d mc ms M As h Q2) : con G d mc ms M As h (fun r h' => Q1 r h' ∧ ∃ r2 h2, Q2 r2 h2 ∧ r2.map (cv G) = r.map (cv G) ∧ sameH G h' h2) := by
  intro hn
  have K1 := H1 hn
  have K2 := H2 hn
  unfold Met MetFree at *
  intro p e hp hf hc s m args below hs ha hP hK
  obtain ⟨n, o, a1, a2, a3, ⟨⟨r, h', q1, q2, q3, q4, q5⟩, a5⟩, a6⟩ := K1 p e hp hf hc s m args below hs ha hP hK
  obtain ⟨n', o', b1, b2, b3, ⟨⟨r', h'', c1, c2, c3, c4, c5⟩, b5⟩, b6⟩ := K2 p e hp hf hc s m args below hs ha hP hK
  have en := ended_one a1 a3 b1 b3
  subst en
  have eo := ended_val a3 b3
  rw [q1, c1] at eo
  injection eo with eo
  exact ⟨n, o, a1, a2, a3, ⟨⟨r, h', q1, q2, ⟨q3, r', h'', c3, eo.symm, _, q4, c4⟩, q4, q5⟩, a5⟩, a6⟩
