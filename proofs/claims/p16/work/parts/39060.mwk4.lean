/-! ===== the WALK, reference: marks asked for ===== -/
theorem t_MD_closing {G : cx_T} {s p : Nat} {h : ah_T} {x : Int} (hb0 : hb s h) (hp : p < 2100) (hx : h.2.1 210 p = x) : con G 0 0 0 m_MD_closing [av_R (some 170), av_I (p : Int)] h (fun r h' => hb s h' ∧ h' = h ∧ r = some (av_I x)) := by
  refine c_MD_closing hb0 (fun _ => ?_)
  unfold B_MD_closing_0
  rw [tn_c]
  exact ⟨⟨by omega, by omega⟩, fun x2 e2 _ _ => ⟨hb0, rfl, by rw [e2, hx]⟩⟩
theorem t_MD_opening {G : cx_T} {s p : Nat} {h : ah_T} {x : Int} (hb0 : hb s h) (hp : p < 2100) (hx : h.2.1 210 p = x) : con G 0 0 0 m_MD_opening [av_R (some 170), av_I (p : Int)] h (fun r h' => hb s h' ∧ h' = h ∧ r = some (av_I x)) := by
  refine c_MD_opening hb0 (fun _ => ?_)
  unfold B_MD_opening_0
  rw [tn_c]
  exact ⟨⟨by omega, by omega⟩, fun x2 e2 _ _ => ⟨hb0, rfl, by rw [e2, hx]⟩⟩
theorem t_MD_colons {G : cx_T} {s p : Nat} {h : ah_T} {x : Int} (hb0 : hb s h) (hp : p < 2100) (hx : h.2.1 214 p = x) : con G 0 0 0 m_MD_colons [av_R (some 170), av_I (p : Int)] h (fun r h' => hb s h' ∧ h' = h ∧ r = some (av_I x)) := by
  refine c_MD_colons hb0 (fun _ => ?_)
  unfold B_MD_colons_0
  rw [tn_c]
  exact ⟨⟨by omega, by omega⟩, fun x2 e2 _ _ => ⟨hb0, rfl, by rw [e2, hx]⟩⟩
theorem t_MD_isIn {G : cx_T} {s t : Nat} {h : ah_T} {a x : Int} (hb0 : hb s h) (ht : h.2.1 170 70 = (t : Int) + 1) (ht2 : t < 10) (hx : h.2.1 220 t = x) (hx2 : x = 0 ∨ x = 1) : con G 0 0 0 m_MD_isIn [av_R (some 170), av_I a] h (fun r h' => hb s h' ∧ h' = h ∧ r = some (av_I x)) := by
  refine c_MD_isIn hb0 (fun _ => ?_)
  unfold B_MD_isIn_0
  intro x2 e2 _ _
  have et : (x2 - 1).toNat = t := by omega
  rw [et]
  exact ⟨⟨by omega, by omega⟩, ⟨by omega, by omega⟩, fun x4 e4 _ => ⟨by rw [e4, hx]; exact hx2, hb0, rfl, by rw [e4, hx]⟩⟩
theorem t_MD_behindColon {G : cx_T} {s : Nat} {h : ah_T} {π : pm_T} {ow : Nat → Nat} {p C i : Nat} (hb0 : hb s h) (H : MKc π h ow p C) (hz : sz π ≤ 2000) (hp : p < sz π) (hi : 1 ≤ i ∧ i ≤ C) : con G 0 0 0 m_MD_behindColon [av_R (some 170), av_I (p : Int), av_I (i : Int)] h (fun r h' => hb s h' ∧ h' = h ∧ r = some (av_I ((mkn π p i : Nat) + 1 : Int))) := by
  have hin : ∀ j, 1 ≤ j → j ≤ C → mkn π p j < sz π := by
    intro j h1 h2
    obtain ⟨k, rfl⟩ : ∃ k, j = k + 1 := ⟨j - 1, by omega⟩
    exact (H.2.1 k (by omega)).2.1
  have hCn := MKc_n H C (Nat.le_refl _)
  have hCz := hin C (by omega) (Nat.le_refl _)
  refine c_MD_behindColon (X10 := fun v3 v4 hh => hh = h ∧ ∃ j : Nat, v4 = (j : Int) ∧ 1 ≤ j ∧ j ≤ i ∧ v3 = (mkn π p j : Int)) ?_ hb0 (fun _ _ => ?_)
  · refine lp_MD_behindColon_10 (a1 := (p : Int)) (a2 := (i : Int)) _ (fun _ v4 _ => (i - v4).toNat) ?_
    rintro v3 v4 hh hb1 ⟨rfl, j, rfl, h1, h2, rfl⟩
    have hj := hin j h1 (by omega)
    unfold B_MD_behindColon_10
    refine ⟨fun c => ⟨⟨by omega, by omega⟩, hb1, rfl, ?_⟩, fun c => ⟨⟨by omega, by omega⟩, ?_⟩⟩
    · have : j = i := by omega
      rw [this]
    · rw [tn_c]
      intro x3 e3 _ _
      exact ⟨⟨by omega, by omega⟩, ⟨rfl, j + 1, by omega, by omega, by omega, e3.trans (H.2.2.2 j h1 (by omega))⟩, by omega⟩
  · unfold B_MD_behindColon_0
    rw [tn_c]
    exact ⟨⟨by omega, by omega⟩, fun x2 e2 _ _ => ⟨rfl, 1, rfl, Nat.le_refl _, hi.1, e2.trans (H.2.2.1 (by omega)).1⟩⟩
theorem t_MD_turned {G : cx_T} {s t p : Nat} {h : ah_T} {i n c x : Int} (hb0 : hb s h) (hp : p < 2100) (ht : h.2.1 170 70 = (t : Int) + 1) (ht2 : t < 10) (hi : h.2.1 218 t = i) (hn : h.2.1 219 t = n) (hc : h.2.1 210 p = c) (hc2 : 0 ≤ c ∧ c ≤ 2100) (hx : h.2.1 170 71 = x) (hx2 : 0 ≤ x ∧ x ≤ 3000) (hi2 : 0 ≤ i ∧ i ≤ 3000) : con G 1 0 0 m_MD_turned [av_R (some 170), av_I (p : Int)] h (fun r h' => hb s h' ∧
    ((n ≤ i ∧ r = some (av_I (c + 1)) ∧ fr (fun a k => (a = 220 ∧ k = t) ∨ (a = 170 ∧ k = 70)) h h' ∧ h'.2.1 170 70 = (t : Int)) ∨
     (¬ n ≤ i ∧ r = some (av_I ((p : Int) + 1)) ∧ fr (fun a k => ((a = 218 ∨ a = 220) ∧ k = t) ∨ (a = 170 ∧ k = 71)) h h' ∧ h'.2.1 220 t = 0 ∧ h'.2.1 218 t = i + 1 ∧ h'.2.1 170 71 = x + 1 ∧ ∃ h1, fr (fun a k => (a = 218 ∨ a = 220) ∧ k = t) h h1 ∧ h' = st_i h1 170 71 (x + 1)))) := by
  refine c_MD_turned hb0 (fun _ => ?_)
  unfold B_MD_turned_0
  intro x2 e2 _ _
  have et : (x2 - 1).toNat = t := by omega
  rw [et]
  refine ⟨⟨by omega, by omega⟩, ⟨by omega, by omega⟩, fun h5 e5 x9 e9 _ _ x12 e12 _ _ => ?_⟩
  have ex9 : x9 = i := by rw [e9, mm_i e5 (by omega)]; exact hi
  have ex12 : x12 = n := by rw [e12, mm_i e5 (by omega)]; exact hn
  subst ex9 ex12
  refine ⟨fun d h14 e14 => ?_, fun d => ⟨⟨by omega, by omega⟩, fun h24 e24 x26 e26 _ _ => ?_⟩⟩
  · refine con_mono (t_MD_closing (x := c) (hb_i (hb_i hb0 e5) e14) hp (by rw [mm_i e14 (by omega), mm_i e5 (by omega)]; exact hc)) ?_
    rintro r h16 ⟨hb16, rfl, rfl⟩
    exact ⟨c, rfl, hb16, ⟨by omega, by omega⟩, hb16, Or.inl ⟨d, rfl, fr_i (fr_i fr_0 e5 (Or.inl ⟨rfl, rfl⟩)) e14 (Or.inr ⟨rfl, rfl⟩), by rw [mv_i e14]; omega⟩⟩
  · have ex26 : x26 = x := by rw [e26, mm_i e24 (by omega), mm_i e5 (by omega)]; exact hx
    subst ex26
    refine ⟨⟨by omega, by omega⟩, fun h28 e28 => ⟨⟨by omega, by omega⟩, hb_i (hb_i (hb_i hb0 e5) e24) e28, Or.inr ⟨d, rfl, fr_i (fr_i (fr_i fr_0 e5 (Or.inl ⟨Or.inr rfl, rfl⟩)) e24 (Or.inl ⟨Or.inl rfl, rfl⟩)) e28 (Or.inr ⟨rfl, rfl⟩), ?_, ?_, mv_i e28, h24, fr_i (fr_i fr_0 e5 ⟨Or.inr rfl, rfl⟩) e24 ⟨Or.inl rfl, rfl⟩, e28⟩⟩⟩
    · rw [mm_i e28 (by omega), mm_i e24 (by omega), mv_i e5]
    · rw [mm_i e28 (by omega), mv_i e24]
