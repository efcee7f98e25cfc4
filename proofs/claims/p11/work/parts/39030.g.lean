/-! ===== the class: a voice read, the WALK aside ===== -/
/-- a fault has a number -/
def NF {β : Type} (R : F_T ⊕ β) : Prop := ∀ q, R = .inl q → q.1 ≠ 0
theorem NF_r {β : Type} {x : β} : NF (.inr x : F_T ⊕ β) := fun q e => by cases e
theorem NF_l {β : Type} {a b : Int} (h : a ≠ 0) : NF (.inl (a, b) : F_T ⊕ β) := fun q e => by cases e; exact h
theorem NF_c {β : Type} {t : tk_T} {i : Nat} : NF (.inl (cn t i) : F_T ⊕ β) := NF_l (by split <;> decide)
theorem NF_b {β γ : Type} {x : F_T ⊕ β} {f : β → F_T ⊕ γ} (h : NF x) (h2 : ∀ b, NF (f b)) : NF (bnd x f) := by
  rcases x with q | b
  · intro q' e; cases e; exact h q rfl
  · exact h2 b
theorem NF_i {β : Type} {p : Prop} [Decidable p] {x y : F_T ⊕ β} (h : NF x) (h2 : NF y) : NF (if p then x else y) := by split <;> assumption
theorem NF_n {t : tk_T} {i : Nat} {most : Int} {pw : Bool} : NF (sp_num t i most pw) := NF_i (NF_i NF_r (NF_l (by decide))) NF_c
theorem NF_t {t : tk_T} {i : Nat} {k : Int} : NF (sp_take t i k) := NF_i NF_r NF_c
theorem NF_a {t : tk_T} {i : Nat} {π : pm_T} : NF (sp_adm t i π) := NF_i NF_r (NF_l (by decide))
theorem NF_ch {t : tk_T} : ∀ (f i : Nat) (π : pm_T), NF (sp_chord t f i π)
  | 0, _, _ => NF_l (by decide)
  | f + 1, i, π => NF_i (NF_i (NF_l (by decide)) (NF_i (NF_l (by split <;> decide)) (NF_b NF_a (fun _ => NF_i NF_r (NF_ch f _ _))))) NF_c
theorem NF_s {t : tk_T} {i : Nat} {π : pm_T} : NF (sp_sound t i π) := NF_i (NF_b NF_a (fun _ => NF_r)) (NF_i (NF_b NF_a (fun _ => NF_r)) (NF_ch _ _ _))
theorem NF_d {t : tk_T} : ∀ (f i : Nat) (d : Int), NF (sp_dots t f i d)
  | 0, _, _ => NF_l (by decide)
  | f + 1, i, d => NF_i (NF_i (NF_l (by decide)) (NF_d f _ _)) NF_r
theorem NF_e {t : tk_T} {i : Nat} {π : pm_T} : NF (sp_event t i π) := NF_b NF_s (fun _ => NF_b NF_n (fun _ => NF_b (NF_d _ _ _) (fun _ => NF_i (NF_i (NF_l (by decide)) NF_r) NF_r)))
theorem NF_x {t : tk_T} {i : Nat} {π : pm_T} : NF (sp_times t i π) := NF_b NF_n (fun _ => NF_b NF_t (fun _ => NF_b NF_n (fun _ => NF_b NF_t (fun _ => NF_r))))
theorem NF_p {t : tk_T} {i : Nat} {π : pm_T} : NF (sp_part t i π) := NF_i NF_r (NF_i (NF_i NF_e (NF_l (by decide))) (NF_i (NF_i NF_r (NF_l (by decide))) (NF_i (NF_i NF_r (NF_l (by decide))) (NF_i (NF_i NF_x (NF_l (by decide))) NF_c))))
theorem t_Score_newVoice {G : cx_T} {s : Nat} {h : ah_T} {t : tk_T} {m i : Nat} {μ : pm_T} (hb0 : hb s h) (H : RCs t m i μ s h) : con G 1 0 0 m_Score_newVoice [av_R (some s)] h (fun r h' => hb s h' ∧ ((∃ v, v = s + 7 + 14 * (μ 0 7).toNat ∧ isV v ∧ μ 0 7 < 4 ∧ r = some (av_R (some v)) ∧ RCs t m i (up2 μ 0 7 (μ 0 7 + 1)) s h' ∧ fr (fun a k => (a = s ∧ k = 1) ∨ (a = v ∧ (k = 2 ∨ k = 7)) ∨ (a = v + 3 ∧ k = 0)) h h' ∧ h'.2.1 v 2 = 0 ∧ h'.2.1 v 7 = 0 ∧ h'.2.1 (v + 3) 0 = 0) ∨ (¬ μ 0 7 < 4 ∧ r = some (av_R none) ∧ h' = h))) := by
  have hs : s = 17 ∨ s = 80 := hb0.2.1
  obtain ⟨⟨a0, a1, a2, a3, a4, a5, a6, a7⟩, ⟨b3, b4, b5, b6, b7⟩, l, ru, ro, na⟩ := H.2.1
  refine c_Score_newVoice hb0 ?_
  unfold B_Score_newVoice_0 B_Score_newVoice_44
  intro x1 e1 _ _
  have ex : x1 = μ 0 7 := e1.trans a7
  subst ex
  refine ⟨fun c => ⟨⟨by omega, by omega⟩, fun h5 e5 => ⟨⟨by omega, by omega⟩, ⟨by omega, by omega⟩, ?_⟩⟩, fun c => ⟨hb0, Or.inr ⟨c, rfl, rfl⟩⟩⟩
  have hv : isV (s + 7 + 14 * (μ 0 7).toNat) := by unfold isV; omega
  generalize ev : s + 7 + 14 * (μ 0 7).toNat = v at hv ⊢
  refine con_mono (t_Voice_clear hv (hb_i hb0 e5)) ?_
  rintro r h12 ⟨rfl, hb12, f12, q1, q2, q3⟩
  have hv' := hv
  unfold isV at hv'
  refine ⟨rfl, hb12, hb12, Or.inl ⟨v, rfl, hv, c, rfl, ?_, fr_t (fr_i fr_0 e5 (Or.inl ⟨rfl, rfl⟩)) f12 (fun a k w => Or.inr w), q1, q2, q3⟩⟩
  have g : ∀ x j, x ≤ 16 ∨ (s ≤ x ∧ x ≤ s + 6) → ¬ (x = s ∧ j = 1) → h12.2.1 x j = h.2.1 x j := fun x j q q2 => (fr_g f12 (by omega)).trans (mm_i e5 q2)
  have fx : fr (fun a k => (a = s ∧ k = 1) ∨ (a = v ∧ (k = 2 ∨ k = 7)) ∨ (a = v + 3 ∧ k = 0)) h h12 := fr_t (fr_i fr_0 e5 (Or.inl ⟨rfl, rfl⟩)) f12 (fun a k w => Or.inr w)
  have o : ∀ a k, ¬ (a = 0 ∧ k = 7) → up2 μ 0 7 (μ 0 7 + 1) a k = μ a k := fun a k q => up2_o q
  refine ⟨RCt_f H.1 fx (fun a k w => by omega), ⟨⟨?_, ?_, ?_, ?_, ?_, ?_, ?_, ?_⟩, ⟨b3, b4, b5, b6, ⟨?_, ?_⟩⟩, fun j hj => ?_, fun j hj => ?_, fun j hj => ?_, fun j hj => ?_⟩, (fr_g fx (by omega)).trans H.2.2⟩
  · rw [g _ _ (by omega) (by omega), o _ _ (by omega)]; exact a0
  · rw [g _ _ (by omega) (by omega), o _ _ (by omega)]; exact a1
  · rw [g _ _ (by omega) (by omega), o _ _ (by omega)]; exact a2
  · rw [g _ _ (by omega) (by omega), o _ _ (by omega)]; exact a3
  · rw [g _ _ (by omega) (by omega), o _ _ (by omega)]; exact a4
  · rw [g _ _ (by omega) (by omega), o _ _ (by omega)]; exact a5
  · rw [g _ _ (by omega) (by omega), o _ _ (by omega)]; exact a6
  · rw [fr_g f12 (by omega), mv_i e5, up2_at]
  · rw [up2_at]; omega
  · rw [up2_at]; omega
  · rw [g _ _ (by omega) (by omega), o _ _ (by omega)]; exact l j hj
  · rw [g _ _ (by omega) (by omega), g _ _ (by omega) (by omega), g _ _ (by omega) (by omega), o _ _ (by omega), o _ _ (by omega), o _ _ (by omega)]; exact ru j hj
  · rw [g _ _ (by omega) (by omega), o _ _ (by omega)]; exact ro j hj
  · rw [(fr_gl fx (by omega)), o _ _ (by omega)]; exact na j hj
theorem PW_0 : PW par0 := ⟨⟨by decide, ⟨by decide, by decide⟩, ⟨by decide, by decide⟩, ⟨by decide, by decide⟩, by decide, by decide⟩, fun d hd => absurd hd (by show ¬ (d : Int) < 0; omega), fun j hj => absurd hj (by show ¬ (j : Int) < 0; omega)⟩
/-- the WALK's answer -/
def wkF (π : pm_T) : Int := if 2000 < walk π 0 0 ∨ 300 < walk π 0 1 ∨ 100 < walk π 0 2 then 3 else if walk π 0 3 = 0 then 0 else 6
abbrev WQv (s v : Nat) : Nat → Nat → Prop := fun a k => WR s a k ∨ WP v a k ∨ (v ≤ a ∧ a ≤ v + 13)
abbrev WW (v : Nat) : Nat → Nat → Prop := fun a k => (a = 9 ∧ 8 ≤ k) ∨ (a = v ∧ (k = 14 ∨ k = 16)) ∨ (v + 7 ≤ a ∧ a ≤ v + 13)
theorem sp_parts_e {t : tk_T} {f i : Nat} {π : pm_T} (h : ¬ (tK t i = 59 ∧ π 0 1 ≤ 0)) : sp_parts t (f + 1) i π = bnd (sp_part t i π) fun q => sp_parts t f q.1 q.2 := by rw [sp_parts, if_neg h]
def PTc (t : tk_T) (m s : Nat) (T : pm_T → ah_T → Prop) (μ : pm_T) (R : F_T ⊕ (Nat × pm_T)) (z : Int) (h' : ah_T) : Prop := match R with
  | .inl q => z = 0 ∧ h'.2.1 2 6 = q.1 ∧ h'.2.1 2 7 = q.2
  | .inr q => z = 1 ∧ RCs t m q.1 q.2 s h' ∧ ∃ π, T π h' ∧ PW π ∧ q.2 = addV μ π (walk π)
theorem addV_7 {μ π α : pm_T} : addV μ π α 0 7 = μ 0 7 + 1 := by unfold addV; rw [if_pos ⟨rfl, rfl⟩]
theorem addV_o {μ π α : pm_T} {a k : Nat} (h : a ≤ 9) (h2 : ¬ (a = 0 ∧ k = 7)) : addV μ π α a k = μ a k := by
  unfold addV
  rw [if_neg h2, if_neg (by omega), if_neg (by omega), if_neg (by omega)]
/-- the memory of the score with one voice more tells the same of the rest -/
theorem RSc_v {μ π α : pm_T} {s : Nat} {h : ah_T} (H : RSc (up2 μ 0 7 (μ 0 7 + 1)) s h) : RSc (addV μ π α) s h := by
  have e : ∀ a k, a ≤ 9 → addV μ π α a k = up2 μ 0 7 (μ 0 7 + 1) a k := fun a k ha => by
    by_cases c : a = 0 ∧ k = 7
    · obtain ⟨rfl, rfl⟩ := c; rw [addV_7, up2_at]
    · rw [addV_o ha c, up2_o c]
  unfold RSc
  simp only [e _ _ (show (0:Nat) ≤ 9 by decide), e _ _ (show (1:Nat) ≤ 9 by decide), e _ _ (show (2:Nat) ≤ 9 by decide), e _ _ (show (3:Nat) ≤ 9 by decide), e _ _ (show (4:Nat) ≤ 9 by decide), e _ _ (show (5:Nat) ≤ 9 by decide), e _ _ (show (6:Nat) ≤ 9 by decide)]
  exact H
theorem sp_dots_i {t : tk_T} : ∀ (f i : Nat) (d : Int) (q : Nat × Int), sp_dots t f i d = .inr q → i ≤ q.1
  | 0, _, _, _, e => by rw [sp_dots] at e; cases e
  | f + 1, i, d, q, e => by
    rw [sp_dots] at e
    split at e
    · split at e
      · cases e
      · have := sp_dots_i f _ _ q e; omega
    · cases e; exact Nat.le_refl _
theorem bnd_r {β γ : Type} {x : F_T ⊕ β} {f : β → F_T ⊕ γ} {q : γ} (e : bnd x f = .inr q) : ∃ b, x = .inr b ∧ f b = .inr q := by
  rcases x with a | b
  · cases e
  · exact ⟨b, rfl, e⟩
theorem sp_part_i {t : tk_T} {i : Nat} {π : pm_T} {q : Nat × pm_T} (e : sp_part t i π = .inr q) : i + 1 ≤ q.1 := by
  unfold sp_part at e
  split at e
  · cases e; exact Nat.le_refl _
  split at e
  · split at e
    · rw [sp_event_e] at e
      obtain ⟨a, ea, e⟩ := bnd_r e
      obtain ⟨n, -, e⟩ := bnd_r e
      obtain ⟨d, ed, e⟩ := bnd_r e
      have h1 := (sp_sound_ok ea).1
      have h2 := sp_dots_i _ _ _ _ ed
      unfold sp_tie at e
      split at e
      · split at e
        · cases e
        · cases e; show i + 1 ≤ d.1 + 1; omega
      · cases e; show i + 1 ≤ d.1; omega
    · cases e
  split at e
  · split at e
    · cases e; exact Nat.le_refl _
    · cases e
  split at e
  · split at e
    · cases e; exact Nat.le_refl _
    · cases e
  split at e
  · split at e
    · unfold sp_times at e
      obtain ⟨a, -, e⟩ := bnd_r e
      obtain ⟨b, -, e⟩ := bnd_r e
      obtain ⟨c, -, e⟩ := bnd_r e
      obtain ⟨d, -, e⟩ := bnd_r e
      cases e; show i + 1 ≤ i + 5; omega
    · cases e
  · cases e
theorem WP_Q {s v : Nat} : ∀ a k, WP v a k → WQv s v a k := fun _ _ w => Or.inr (Or.inl w)
theorem t_Reader_readVoice {G : cx_T} {s : Nat} {h : ah_T} {t : tk_T} {m i : Nat} {μ : pm_T} {T : pm_T → ah_T → Prop} (hb0 : hb s h) (hT : TG t m) (H : RCs t m i μ s h) (hg : gk (tK t i))
    (hTf : ∀ π h h', T π h → fr WT h h' → T π h')
    (hwalk : ∀ (π : pm_T) (hh : ah_T) (j f : Nat), hb s hh → μ 0 7 < 4 → RPc π (s + 7 + 14 * (μ 0 7).toNat) hh → PW π → π 0 0 ≤ 2000 → sp_parts t f (i + 1) par0 = .inr (j, π) → con G 21 0 0 m_Parts_walkInto [av_R (some 9), av_R (some (s + 7 + 14 * (μ 0 7).toNat))] hh (fun r h' => ∃ z, r = some (av_I z) ∧ hb s h' ∧ fr (WW (s + 7 + 14 * (μ 0 7).toNat)) hh h' ∧ z = wkF π ∧ (z = 0 → T π h'))) :
    con G 22 0 0 m_Reader_readVoice [av_R (some 2)] h (fun r h' => ∃ z, r = some (av_I z) ∧ hb s h' ∧ fr (WQv s (s + 7 + 14 * (μ 0 7).toNat)) h h' ∧ (z = 0 ∨ z = 1) ∧ PTc t m s T μ (sp_voice t i μ) z h') := by
  have hs : s = 17 ∨ s = 80 := hb0.2.1
  obtain ⟨c9, c10, -, -⟩ := RCs_b H
  have b7 := H.2.1.2.1.2.2.2.2
  generalize evv : s + 7 + 14 * (μ 0 7).toNat = v at hwalk ⊢
  have e3 : sp_voice t i μ = if μ 0 7 < 4 then bnd (sp_parts t 3000 (i + 1) par0) (fun q => if 2000 < walk q.2 0 0 ∨ 300 < walk q.2 0 1 ∨ 100 < walk q.2 0 2 then .inl (3, tP t i) else if walk q.2 0 3 = 0 then .inr (q.1 + 1, addV μ q.2 (walk q.2)) else .inl (6, tP t i)) else .inl (3, tP t i) := rfl
  generalize ep : sp_parts t 3000 (i + 1) par0 = R at e3
  generalize eμ : up2 μ 0 7 (μ 0 7 + 1) = μ1
  refine c_Reader_readVoice (X51 := fun v1 v2 v3 v4 hh => v1 = tP t i ∧ v2 = v ∧ μ 0 7 < 4 ∧ fr (WQv s v) h hh ∧ 0 ≤ v4 ∧ ((v3 = 0 ∧ ∃ q : F_T, hh.2.1 2 6 = q.1 ∧ hh.2.1 2 7 = q.2 ∧ q.1 ≠ 0 ∧ R = .inl q) ∨ (v3 = 0 ∧ ∃ (j f : Nat) (π : pm_T), tK t j = 59 ∧ VE t m j μ1 s π v hh ∧ R = sp_parts t (f + 1) j π) ∨ (v3 = 1 ∧ ∃ (j f : Nat) (π : pm_T), VE t m j μ1 s π v hh ∧ v4 + i + 1 ≤ j ∧ (f : Int) + v4 = 2999 ∧ R = sp_parts t (f + 1) j π))) ?_ hb0 ?_
  · refine lp_Reader_readVoice_51 _ (fun _ _ v3 v4 _ => (2001 - v4).toNat) ?_
    rintro v1 v2 v3 v4 hh hv hb1 ⟨rfl, rfl, h4, hf, hv4, hc⟩
    have v24 := isV_24 hv
    have hv' := hv
    unfold isV at hv'
    rw [if_pos h4] at e3
    -- what is left of the voice
    have kA : ∀ q : F_T, hh.2.1 2 6 = q.1 → hh.2.1 2 7 = q.2 → q.1 ≠ 0 → R = .inl q → B_Reader_readVoice_125 G s (tP t i) v2 hh (fun r h' => ∃ z, r = some (av_I z) ∧ hb s h' ∧ fr (WQv s v2) h h' ∧ (z = 0 ∨ z = 1) ∧ PTc t m s T μ (sp_voice t i μ) z h') := by
      intro q q1 q2 q3 eR
      unfold B_Reader_readVoice_125
      intro x1 y1 _ _
      refine ⟨fun c => absurd (y1.symm.trans c) (by rw [q1]; exact q3), fun _ => ⟨0, rfl, hb1, hf, Or.inl rfl, ?_⟩⟩
      rw [e3, eR]; exact ⟨rfl, q1, q2⟩
    have kC : ∀ (j f : Nat) (π : pm_T), tK t j = 59 → VE t m j μ1 s π v2 hh → R = sp_parts t (f + 1) j π → B_Reader_readVoice_125 G s (tP t i) v2 hh (fun r h' => ∃ z, r = some (av_I z) ∧ hb s h' ∧ fr (WQv s v2) h h' ∧ (z = 0 ∨ z = 1) ∧ PTc t m s T μ (sp_voice t i μ) z h') := by
      intro j f π k59 ⟨H0, P, hB, hi⟩ eR
      obtain ⟨d9, d10, -, -⟩ := RCs_b H0.1
      unfold B_Reader_readVoice_125 B_Reader_readVoice_156
      intro x1 y1 _ _
      refine ⟨fun _ x3 y3 _ _ => ⟨fun _ x5 y5 _ _ => ⟨fun c5 => ?_, fun c5 => ?_⟩, fun c => absurd (y3.trans (d9.trans k59)) c⟩, fun c => absurd (y1.trans H0.1.2.2) c⟩
      · have c1 : π 0 1 ≤ 0 := by have := y5.trans H0.2.1.2.1; omega
        have eR2 : R = .inr (j, π) := by rw [eR, sp_parts, if_pos ⟨k59, c1⟩]
        rw [eR2] at e3
        simp only [bnd] at e3
        refine con_mono (hwalk π hh j 3000 hb1 h4 H0.2 P (by have := H0.1.1.2.2.1; have := H0.1.1.2.2.2.1; omega) (by rw [ep]; exact eR2)) ?_
        rintro r h7 ⟨z9, rfl, hb7, f7, ez, hz⟩
        have H7 := RCs_p H0.1 f7 hs hv (fun a k w => by omega)
        have fx := fr_t hf f7 (fun a k w => by omega)
        refine ⟨z9, rfl, hb7, fun c0 => ?_, fun c0 => ?_⟩
        · refine con_mono (tt_Reader_step hb7 H7 (hT.1 _ H7.1.2.2.1 (gk_of k59 (by decide) (by decide)))) ?_
          rintro r h11 ⟨rfl, hb11, f11, H11⟩
          refine ⟨rfl, hb11, 1, rfl, hb11, fr_t fx f11 (fun a k w => WP_Q a k (WT_P a k w)), Or.inr rfl, ?_⟩
          have ew : wkF π = 0 := by rw [← ez]; exact c0
          unfold wkF at ew
          split at ew
          · omega
          · rename_i nw
            rw [if_neg nw] at e3
            split at ew
            · rename_i w3
              rw [if_pos w3] at e3
              rw [e3]
              rw [← eμ] at H11
              exact ⟨rfl, ⟨H11.1, RSc_v H11.2.1, H11.2.2⟩, π, hTf π h7 h11 (hz c0) f11, P, rfl⟩
            · omega
        · refine con_mono (tt_Reader_blame hb7) ?_
          rintro r h14 ⟨z, rfl, hb14, f14, rfl, w1, w2⟩
          refine ⟨0, rfl, hb14, Or.inl rfl, 0, rfl, hb14, fr_t fx f14 (fun a k w => WP_Q a k (WT_P a k w)), Or.inl rfl, ?_⟩
          have : sp_voice t i μ = .inl (z9, tP t i) := by
            rw [e3, ez]
            unfold wkF
            rw [ez] at c0
            unfold wkF at c0
            split
            · rfl
            · rename_i nw
              rw [if_neg nw] at c0
              split
              · rename_i w3; rw [if_pos w3] at c0; exact absurd rfl c0
              · rfl
          rw [this]; exact ⟨rfl, w1, w2⟩
      · have c1 : ¬ π 0 1 ≤ 0 := by have := y5.trans H0.2.1.2.1; omega
        have eR2 : R = .inl (cn t j) := by
          rw [eR, sp_parts_e (fun w => c1 w.2), sp_part, if_neg (mkb_f (by omega)), if_neg (by omega), if_neg (by omega), if_neg (by omega), if_neg (by omega)]; rfl
        refine con_mono (tt_Reader_refuse hb1 H0.1.1) ?_
        rintro r h' ⟨z, rfl, hb2, f2, rfl, w1, w2⟩
        exact ⟨0, rfl, hb2, Or.inl rfl, 0, rfl, hb2, fr_t hf f2 (fun a k w => WP_Q a k (WT_P a k w)), Or.inl rfl, by rw [e3, eR2]; exact ⟨rfl, w1, w2⟩⟩
    unfold B_Reader_readVoice_51
    rcases hc with ⟨rfl, q, q1, q2, q3, eR⟩ | ⟨rfl, j, f, π, k59, HE, eR⟩ | ⟨rfl, j, f, π, HE, hj, hfu, eR⟩
    · exact ⟨fun _ => kA q q1 q2 q3 eR, fun _ => ⟨fun _ => kA q q1 q2 q3 eR, fun d => absurd rfl d⟩⟩
    · exact ⟨fun _ => kC j f π k59 HE eR, fun _ => ⟨fun _ => kC j f π k59 HE eR, fun d => absurd rfl d⟩⟩
    · have HE' := HE
      obtain ⟨H0, P, hB, hi⟩ := HE'
      have im : j < m ∧ m ≤ 2001 := ⟨H0.1.1.2.2.1, H0.1.1.2.2.2.1⟩
      refine ⟨fun c => by omega, fun c => ⟨fun d => absurd d (by decide), fun _ => ?_⟩⟩
      obtain ⟨f', rfl⟩ : ∃ f', f = f' + 1 := ⟨f - 1, by omega⟩
      -- the next turn, after a part read
      have nx0 : ∀ (h1 : ah_T) (q : F_T), hb s h1 → fr (WP v2) hh h1 → ¬ (tK t j = 59 ∧ π 0 1 ≤ 0) → sp_part t j π = .inl q → h1.2.1 2 6 = q.1 → h1.2.1 2 7 = q.2 → ((-2147483648 ≤ v4 + 1 ∧ v4 + 1 ≤ 2147483647) ∧ (tP t i = tP t i ∧ v2 = v2 ∧ μ 0 7 < 4 ∧ fr (WQv s v2) h h1 ∧ 0 ≤ v4 + 1 ∧ (((0 : Int) = 0 ∧ ∃ q : F_T, h1.2.1 2 6 = q.1 ∧ h1.2.1 2 7 = q.2 ∧ q.1 ≠ 0 ∧ R = .inl q) ∨ ((0 : Int) = 0 ∧ ∃ (j f : Nat) (π : pm_T), tK t j = 59 ∧ VE t m j μ1 s π v2 h1 ∧ R = sp_parts t (f + 1) j π) ∨ ((0 : Int) = 1 ∧ ∃ (j f : Nat) (π : pm_T), VE t m j μ1 s π v2 h1 ∧ v4 + 1 + i + 1 ≤ j ∧ (f : Int) + (v4 + 1) = 2999 ∧ R = sp_parts t (f + 1) j π))) ∧ (2001 - (v4 + 1)).toNat < (2001 - v4).toNat) := by
        intro h1 q hb2 f1 nn es w1 w2
        refine ⟨⟨by omega, by omega⟩, ⟨rfl, rfl, h4, fr_t hf f1 WP_Q, by omega, Or.inl ⟨rfl, q, w1, w2, NF_p q es, ?_⟩⟩, by omega⟩
        rw [eR, sp_parts_e nn, es]; rfl
      have nx1 : ∀ (h1 : ah_T) (q : Nat × pm_T), hb s h1 → fr (WP v2) hh h1 → ¬ (tK t j = 59 ∧ π 0 1 ≤ 0) → sp_part t j π = .inr q → VE t m q.1 μ1 s q.2 v2 h1 → ((-2147483648 ≤ v4 + 1 ∧ v4 + 1 ≤ 2147483647) ∧ (tP t i = tP t i ∧ v2 = v2 ∧ μ 0 7 < 4 ∧ fr (WQv s v2) h h1 ∧ 0 ≤ v4 + 1 ∧ (((1 : Int) = 0 ∧ ∃ q : F_T, h1.2.1 2 6 = q.1 ∧ h1.2.1 2 7 = q.2 ∧ q.1 ≠ 0 ∧ R = .inl q) ∨ ((1 : Int) = 0 ∧ ∃ (j f : Nat) (π : pm_T), tK t j = 59 ∧ VE t m j μ1 s π v2 h1 ∧ R = sp_parts t (f + 1) j π) ∨ ((1 : Int) = 1 ∧ ∃ (j f : Nat) (π : pm_T), VE t m j μ1 s π v2 h1 ∧ v4 + 1 + i + 1 ≤ j ∧ (f : Int) + (v4 + 1) = 2999 ∧ R = sp_parts t (f + 1) j π))) ∧ (2001 - (v4 + 1)).toNat < (2001 - v4).toNat) := by
        intro h1 q hb2 f1 nn es HE1
        have := sp_part_i es
        refine ⟨⟨by omega, by omega⟩, ⟨rfl, rfl, h4, fr_t hf f1 WP_Q, by omega, Or.inr (Or.inr ⟨rfl, q.1, f', q.2, HE1, by omega, by omega, ?_⟩)⟩, by omega⟩
        rw [eR, sp_parts_e nn, es]; rfl
      unfold B_Reader_readVoice_90 B_Reader_readVoice_89 B_Reader_readVoice_90 B_Reader_readVoice_117 B_Reader_readVoice_118 B_Reader_readVoice_119
      refine con_mono (t_Reader_beginsEvent hb1 H0.1) ?_
      rintro r h1 ⟨hb2, rfl, ⟨rfl, hk⟩ | ⟨rfl, hk⟩⟩
      · have nm : ¬ mkb π (tK t j) = true := mkb_f (by omega)
        refine ⟨1, rfl, hb2, fun d => absurd d (by decide), fun _ => ?_⟩
        refine con_mono (t_Reader_isShallow hb2 H0.1 H0.2.1.2.1) ?_
        rintro r h9 ⟨z, rfl, hb9, f9, ⟨c6, rfl, rfl⟩ | ⟨c6, rfl, w1, w2⟩⟩
        · have es : sp_part t j π = sp_event t j π := by rw [sp_part, if_neg nm, if_pos hk, if_pos c6]
          refine ⟨1, rfl, hb9, fun d => absurd d (by decide), fun _ => ?_⟩
          refine con_mono (t_Reader_readEvent hb9 hv hT HE hk) ?_
          rintro r h12 ⟨z14, rfl, hb12, f12, -, p12⟩
          rw [← es] at p12
          rcases n1 : sp_part t j π with q | q
          · rw [n1] at p12
            obtain ⟨rfl, w1, w2⟩ := p12
            exact ⟨0, rfl, hb12, fun _ => nx0 h12 q hb12 f12 (fun w => by omega) n1 w1 w2, fun d => absurd rfl d⟩
          · rw [n1] at p12
            obtain ⟨rfl, HE1⟩ := p12
            exact ⟨1, rfl, hb12, fun d => absurd d (by decide), fun _ => nx1 h12 q hb12 f12 (fun w => by omega) n1 HE1⟩
        · have es : sp_part t j π = .inl (3, tP t j) := by rw [sp_part, if_neg nm, if_pos hk, if_neg c6]
          exact ⟨0, rfl, hb9, fun _ => nx0 h9 _ hb9 (fr_w f9 WT_P) (fun w => by omega) es w1 w2, fun d => absurd rfl d⟩
      · refine ⟨0, rfl, hb2, fun _ x5 y5 _ _ => ⟨fun c5 => ?_, fun c5 => ?_⟩, fun d => absurd rfl d⟩
        · have k59 : tK t j = 59 := by have := y5.trans (RCs_b H0.1).1; omega
          exact ⟨⟨by omega, by omega⟩, ⟨rfl, rfl, h4, hf, by omega, Or.inr (Or.inl ⟨rfl, j, f' + 1, π, k59, HE, eR⟩)⟩, by omega⟩
        · have n59 : ¬ tK t j = 59 := by have := y5.trans (RCs_b H0.1).1; omega
          refine con_mono (t_Reader_readPart hb2 hv hT HE hk) ?_
          rintro r h12 ⟨z14, rfl, hb12, f12, -, p12⟩
          rcases n1 : sp_part t j π with q | q
          · rw [n1] at p12
            obtain ⟨rfl, w1, w2⟩ := p12
            exact ⟨0, rfl, hb12, fun _ => nx0 h12 q hb12 f12 (fun w => n59 w.1) n1 w1 w2, fun d => absurd rfl d⟩
          · rw [n1] at p12
            obtain ⟨rfl, HE1⟩ := p12
            exact ⟨1, rfl, hb12, fun d => absurd d (by decide), fun _ => nx1 h12 q hb12 f12 (fun w => n59 w.1) n1 HE1⟩
  · unfold B_Reader_readVoice_0
    intro x2 y2 _ _
    refine con_mono (t_Score_newVoice hb0 H) ?_
    rintro r h4 ⟨hb4, ⟨w, ew, hw, h7, rfl, H4, f4, q1, q2, q3⟩ | ⟨h7, rfl, rfl⟩⟩
    · have ew : w = v := ew.trans evv
      subst ew
      have w24 := isV_24 hw
      have hw' := hw
      unfold isV at hw'
      rw [eμ] at H4
      refine ⟨some w, rfl, hb4, Or.inr ⟨w, rfl, hw, ?_⟩⟩
      refine con_mono (tt_Reader_step hb4 H4 (hT.1 i H.1.2.2.1 hg)) ?_
      rintro r h11 ⟨rfl, hb11, f11, H11⟩
      refine ⟨rfl, hb11, ?_⟩
      refine con_mono (t_Parts_clear hb11) ?_
      rintro r h15 ⟨rfl, hb15, f15, p4, p7⟩
      refine ⟨rfl, hb15, fun h18 e18 => ?_⟩
      have fx : fr (WQv s w) h h18 := fr_i (fr_t (fr_t (fr_w f4 (fun a k q => by omega)) f11 (fun a k q => WP_Q a k (WT_P a k q))) f15 (fun a k q => by omega)) e18 (by omega)
      have f2 : fr (fun a k => (a = 9 ∧ (k = 4 ∨ k = 7)) ∨ (a = 2 ∧ k = 4)) h11 h18 := fr_i (fr_w f15 (fun a k q => Or.inl q)) e18 (Or.inr ⟨rfl, rfl⟩)
      have H18 := RCs_p H11 f2 hs hw (fun a k q => by omega)
      refine ⟨by rw [y2, c10], rfl, h7, fx, Int.le_refl _, Or.inr (Or.inr ⟨rfl, i + 1, 2999, par0, ⟨⟨H18, ⟨⟨?_, ?_, ?_, ?_, ?_⟩, fun d hd => absurd hd (by show ¬ (d : Int) < 0; omega), fun j hj => absurd hj (by show ¬ (j : Int) < 0; omega)⟩⟩, PW_0, ?_, by show (0 : Int) + 1 ≤ ((i + 1 : Nat) : Int); omega⟩, by omega, by decide, ep.symm⟩)⟩
      · rw [mm_i e18 (by omega)]; exact p4
      · rw [mm_i e18 (by omega)]; exact p7
      · rw [mv_i e18]; rfl
      · rw [fr_g f2 (by omega), fr_g f11 (by omega)]; exact q2
      · rw [fr_g f2 (by omega), fr_g f11 (by omega)]; exact q1
      · rw [fr_g f2 (by show ¬ _; have : (par0 0 3).toNat = 0 := rfl; omega), fr_g f11 (by omega)]; exact q3
    · rw [if_neg h7] at e3
      refine ⟨none, rfl, hb4, Or.inl ⟨rfl, ?_⟩⟩
      refine con_mono (tt_Reader_blame hb4) ?_
      rintro r h14 ⟨z, rfl, hb14, f14, rfl, w1, w2⟩
      exact ⟨0, rfl, hb14, Or.inl rfl, 0, rfl, hb14, fr_w f14 (fun a k w => WP_Q a k (WT_P a k w)), Or.inl rfl, by rw [e3]; exact ⟨rfl, w1, by rw [w2, y2, c10]⟩⟩
