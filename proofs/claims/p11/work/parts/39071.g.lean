/-! ===== the reference: score ===== -/
/-- the EVENTS of the first n voices -/
def evs (μ : pm_T) : Nat → Int
  | 0 => 0
  | n + 1 => evs μ n + μ (10 + n) 0
theorem evs_b {μ : pm_T} : ∀ n, (∀ k, k < n → 0 ≤ μ (10 + k) 0 ∧ μ (10 + k) 0 ≤ 300) → 0 ≤ evs μ n ∧ evs μ n ≤ 300 * n
  | 0, _ => ⟨Int.le_refl _, Int.le_refl _⟩
  | n + 1, h => by
    have := evs_b n (fun k hk => h k (by omega))
    have := h n (by omega)
    rw [evs]; omega
abbrev WSf : Nat → Nat → Prop := fun a k => WJb a k ∨ (a = 170 ∧ (k = 1 ∨ k = 2 ∨ k = 13))
def PSm (R : F_T ⊕ pm_T) (z : Int) (h h' : ah_T) : Prop := match R with
  | .inl q => z = -10 - q.1 ∧ q.1 ≠ 0 ∧ h'.2.1 170 13 = q.2 ∧ fr WSf h h'
  | .inr μ => z = evs μ (μ 0 7).toNat ∧ h'.2.1 170 13 = -2 ∧ KSn μ h' ∧ h'.2.1 173 0 = μ 0 1 ∧ h'.2.1 174 0 = μ 0 2 ∧ h'.2.1 170 80 = 0 ∧ h'.2.1 170 85 = 0 ∧ h'.2.1 170 89 = 0 ∧ h'.2.1 170 91 = 0 ∧ h'.2.1 170 98 = 0 ∧ h'.2.1 170 104 = 0 ∧ h'.2.1 170 105 = 0
theorem WJb_170 : ∀ a k, WJb a k → 170 ≤ a := by
  intro a k q
  rcases q with (q | q | q | q | q | q) | q | q | q | q | q <;> omega
theorem KSn_g {μ : pm_T} {h h' : ah_T} (H : KSn μ h) (g : ∀ a k, WKk a k → h'.2.1 a k = h.2.1 a k ∧ h'.2.2.1 a k = h.2.2.1 a k) : KSn μ h' := by
  obtain ⟨⟨a1, a2, a3, a4⟩, ⟨b3, b4, b5, b7⟩, l, ru, ro, vo⟩ := H
  have g0 : ∀ a, (a = 172 ∨ a = 173 ∨ a = 174 ∨ a = 175 ∨ a = 177 ∨ a = 181 ∨ a = 183) → h'.2.1 a 0 = h.2.1 a 0 := fun a q => (g a 0 (Or.inl ⟨q, rfl⟩)).1
  refine ⟨⟨by rw [g0 _ (by omega)]; exact a1, by rw [g0 _ (by omega)]; exact a2, by rw [g0 _ (by omega)]; exact a3, by rw [g0 _ (by omega)]; exact a4⟩, ⟨b3, b4, b5, b7⟩, fun j hj => ?_, fun j hj => ?_, fun j hj => ?_, fun n hn => RVm_g (vo n hn) (fun a k q => g a k ?_)⟩
  · rw [(g 176 j (Or.inr (Or.inl ⟨rfl, by omega⟩))).1]; exact l j hj
  · have q : ∀ a, (178 ≤ a ∧ a ≤ 180) → WKk a j := fun a w => Or.inr (Or.inr (Or.inl ⟨w, by omega⟩))
    rw [(g 178 j (q _ (by omega))).1, (g 179 j (q _ (by omega))).1, (g 180 j (q _ (by omega))).1]; exact ru j hj
  · rw [(g 182 j (Or.inr (Or.inr (Or.inr (Or.inl ⟨rfl, by omega⟩))))).1]; exact ro j hj
  · rcases q with ⟨w1, w2⟩ | ⟨w1, w2, w3⟩ | ⟨w1, w2, w3⟩ | ⟨w1, w2, w3⟩
    · exact Or.inr (Or.inr (Or.inr (Or.inr (Or.inl ⟨w1, by omega⟩))))
    · exact Or.inr (Or.inr (Or.inr (Or.inr (Or.inr (Or.inl ⟨w1, by omega⟩)))))
    · exact Or.inr (Or.inr (Or.inr (Or.inr (Or.inr (Or.inr (Or.inl ⟨w1, by omega⟩))))))
    · exact Or.inr (Or.inr (Or.inr (Or.inr (Or.inr (Or.inr (Or.inr ⟨w1, by omega⟩))))))
/-- a fault leaves what is kept -/
theorem WSf_k : ∀ a k, WKk a k → ¬ WSf a k := by
  intro a k p q
  rcases p with ⟨p1, p2⟩ | ⟨p1, p2⟩ | ⟨p1, p2⟩ | ⟨p1, p2⟩ | ⟨p1, p2⟩ | ⟨p1, p2⟩ | ⟨p1, p2⟩ | ⟨p1, p2⟩ <;> (rcases q with ((q | q | q | q | q | q) | q | q | q | q | q) | q <;> omega)
theorem t_MD_score {G : cx_T} {s : Nat} {h : ah_T} {X : tx_T} (hb0 : hb s h) (hA : XA X) (h1 : h.2.1 170 1 = (X.2.1 : Int)) (hn : X.2.1 ≤ 2000) (hT : ∀ j, j < X.2.1 → h.2.1 171 j = X.1 j ∧ 0 ≤ X.1 j ∧ X.1 j ≤ 255) :
    con G 8 0 0 m_MD_score [av_R (some 170)] h (fun r h' => ∃ z, r = some (av_I z) ∧ hb s h' ∧ fr (fun a _ => 170 ≤ a) h h' ∧ h'.2.1 170 1 = 0 ∧ PSm (sp_score X.2.2.1) z h h') := by
  generalize es : sp_score X.2.2.1 = R
  refine c_MD_score (X95 := fun v1 v2 hh => fr (fun a _ => 170 ≤ a) h hh ∧ hh.2.1 170 1 = 0 ∧ ∃ (μ : pm_T) (n : Nat), R = .inr μ ∧ v2 = (n : Int) ∧ (n : Int) ≤ μ 0 7 ∧ v1 = evs μ n ∧ hh.2.1 170 13 = -2 ∧ KSn μ hh ∧ hh.2.1 173 0 = μ 0 1 ∧ hh.2.1 174 0 = μ 0 2 ∧ hh.2.1 170 80 = 0 ∧ hh.2.1 170 85 = 0 ∧ hh.2.1 170 89 = 0 ∧ hh.2.1 170 91 = 0 ∧ hh.2.1 170 98 = 0 ∧ hh.2.1 170 104 = 0 ∧ hh.2.1 170 105 = 0) ?_ hb0 ?_
  · refine lp_MD_score_95 _ (fun _ v2 _ => (9 - v2).toNat) ?_
    rintro v1 v2 hh hb1 ⟨f, c1, μ, n, er, rfl, hn', rfl, c13, K, rest⟩
    have hv := K.2.2.2.2.2
    have h74 := K.2.1.2.2.2
    have bn := evs_b (μ := μ) n (fun k hk => (hv k (by omega)).2.1.1)
    unfold B_MD_score_95
    intro x2 e2 _ _
    have ex2 : x2 = μ 0 7 := e2.trans K.1.1
    subst ex2
    refine ⟨fun c => ⟨_, rfl, hb1, f, c1, ?_⟩, fun c => ⟨⟨by omega, by omega⟩, ?_⟩⟩
    · have : (μ 0 7).toNat = n := by omega
      rw [er]
      exact ⟨by rw [this], c13, K, rest⟩
    · rw [tn_c]
      intro x4 e4 _ _
      have ex4 : x4 = μ (10 + n) 0 := e4.trans (hv n (by omega)).1.1
      have bx := (hv n (by omega)).2.1.1
      exact ⟨⟨by omega, by omega⟩, ⟨by omega, by omega⟩, ⟨f, c1, μ, n + 1, er, by omega, by omega, by rw [evs, ex4], c13, K, rest⟩, by omega⟩
  · unfold B_MD_score_0
    intro x1 e1 _ _ h2 e2 h4 e4 h6 e6 h8 e8 h10 e10
    have ex1 : x1 = (X.2.1 : Int) := e1.trans h1
    have f10 : fr (fun a k => a = 170 ∧ (k = 1 ∨ k = 2 ∨ k = 3 ∨ k = 11 ∨ k = 13)) h h10 := fr_i (fr_i (fr_i (fr_i (fr_i fr_0 e2 (by omega)) e4 (by omega)) e6 (by omega)) e8 (by omega)) e10 (by omega)
    have f10' : fr WSf h h10 := fr_w f10 (fun a k w => by
      obtain ⟨w1, w2⟩ := w
      by_cases q : k = 3 ∨ k = 11
      · exact Or.inl (Or.inl (Or.inl ⟨w1, Or.inl (by omega)⟩))
      · exact Or.inr ⟨w1, by omega⟩)
    have hb10 := hb_i (hb_i (hb_i (hb_i (hb_i hb0 e2) e4) e6) e8) e10
    have M10 : MT X.1 X.2.1 h10 := ⟨by rw [mm_i e10 (by omega), mm_i e8 (by omega), mm_i e6 (by omega), mm_i e4 (by omega), mv_i e2, ex1], hn, fun j hj => by rw [fr_g f10 (by omega)]; exact hT j hj⟩
    refine con_mono (t_MD_parse hb10 hA M10 (by rw [mm_i e10 (by omega), mm_i e8 (by omega), mv_i e6]) (by rw [mm_i e10 (by omega), mv_i e8])) ?_
    rw [es]
    rintro r h12 ⟨z, rfl, hb12, f12, z01, p⟩
    have m1 : h12.2.1 170 1 = 0 := by rw [fr_g f12 (by omega), mm_i e10 (by omega), mm_i e8 (by omega), mm_i e6 (by omega), mv_i e4]
    have m13 : h12.2.1 170 13 = -2 := by rw [fr_g f12 (by omega), mv_i e10]
    have ff : fr (fun a _ => 170 ≤ a) h h12 := fr_t (fr_w f10 (fun a k w => by omega)) f12 WJb_170
    refine ⟨z, rfl, hb12, fun c x32 e32 _ _ h33 e33 x35 e35 _ _ => ?_, fun c => ?_⟩
    · rcases R with q | μ
      · obtain ⟨rfl, q0, w1, w2⟩ := p
        have ex32 : x32 = q.2 := e32.trans w2
        have ex35 : x35 = q.1 := by rw [e35, mm_i e33 (by omega)]; exact w1
        rw [ex35]
        have fb := FN_score (t := X.2.2.1) q es
        refine ⟨⟨by omega, by omega⟩, -q.1 - 10, rfl, hb_i hb12 e33, fr_i ff e33 (by decide), by rw [mm_i e33 (by omega)]; exact m1, by omega, q0, by rw [mv_i e33, ex32], fr_i (fr_t f10' f12 (fun a k w => Or.inl w)) e33 (Or.inr ⟨rfl, by omega⟩)⟩
      · exact absurd p.1 (by omega)
    · rcases R with q | μ
      · exact absurd p.1 c
      · obtain ⟨-, i, HS, HV⟩ := p
        refine con_mono (t_MD_keep hb12 HS.2.1 HV) ?_
        rintro r h15 ⟨rfl, hb15, f15, K, t1, t2⟩
        refine ⟨rfl, hb15, fun h18 e18 h20 e20 h22 e22 h24 e24 h26 e26 h28 e28 h30 e30 => ?_⟩
        have f30 : fr (fun a k => a = 170 ∧ (80 ≤ k ∧ k ≤ 105)) h15 h30 := fr_i (fr_i (fr_i (fr_i (fr_i (fr_i (fr_i fr_0 e18 (by omega)) e20 (by omega)) e22 (by omega)) e24 (by omega)) e26 (by omega)) e28 (by omega)) e30 (by omega)
        have W170 : ∀ a k, WKk a k → 171 ≤ a := by
          intro a k p
          rcases p with ⟨p1, p2⟩ | ⟨p1, p2⟩ | ⟨p1, p2⟩ | ⟨p1, p2⟩ | ⟨p1, p2⟩ | ⟨p1, p2⟩ | ⟨p1, p2⟩ | ⟨p1, p2⟩ <;> omega
        have g15 : ∀ k, h15.2.1 170 k = h12.2.1 170 k := fun k => fr_g f15 (fun w => by have := W170 _ _ w; omega)
        refine ⟨fr_t (fr_t ff f15 (fun a k w => by have := W170 _ _ w; omega)) f30 (fun a k w => by omega), by rw [fr_g f30 (by omega), g15]; exact m1, μ, 0, rfl, rfl, K.2.1.2.2.2.1, rfl, by rw [fr_g f30 (by omega), g15]; exact m13, KSn_g K (fun a k q => ?_), by rw [fr_g f30 (by omega)]; exact t1, by rw [fr_g f30 (by omega)]; exact t2, ?_, ?_, ?_, ?_, ?_, ?_, mv_i e30⟩
        · have := W170 a k q
          exact ⟨fr_g f30 (by omega), fr_gl f30 (by omega)⟩
        · rw [mm_i e30 (by omega), mm_i e28 (by omega), mm_i e26 (by omega), mm_i e24 (by omega), mm_i e22 (by omega), mm_i e20 (by omega), mv_i e18]
        · rw [mm_i e30 (by omega), mm_i e28 (by omega), mm_i e26 (by omega), mm_i e24 (by omega), mm_i e22 (by omega), mv_i e20]
        · rw [mm_i e30 (by omega), mm_i e28 (by omega), mm_i e26 (by omega), mm_i e24 (by omega), mv_i e22]
        · rw [mm_i e30 (by omega), mm_i e28 (by omega), mm_i e26 (by omega), mv_i e24]
        · rw [mm_i e30 (by omega), mm_i e28 (by omega), mv_i e26]
        · rw [mm_i e30 (by omega), mv_i e28]
