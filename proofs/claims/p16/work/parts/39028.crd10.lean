/-! ===== the class: events, stretches, parts read ===== -/
theorem pch_0 {t : tk_T} {i : Nat} {g : Int} {π : pm_T} : pch t i g π 0 0 = π 0 0 := by
  unfold pch; rw [up2_o (by omega), up2_o (by omega), up2_o (by omega), up2_o (by omega), up2_o (by omega)]
theorem sp_chord_ok {t : tk_T} : ∀ (f i : Nat) (π : pm_T) (q : Nat × pm_T), sp_chord t f i π = .inr q → i + 2 ≤ q.1 ∧ q.2 0 0 = π 0 0
  | 0, _, _, _, e => by rw [sp_chord] at e; cases e
  | f + 1, i, π, q, e => by
    rw [sp_chord] at e
    split at e
    · split at e
      · cases e
      · split at e
        · cases e
        · by_cases h : π 0 2 < 300
          · rw [sp_adm_a h] at e
            simp only [bnd] at e
            split at e
            · cases e
              exact ⟨Nat.le_refl _, by show pch t i (sgt t i) (adm π) 0 0 = π 0 0; rw [pch_0, adm_o (by omega)]⟩
            · have := sp_chord_ok f (i + 1) _ q e
              exact ⟨by omega, by rw [this.2, pch_0, adm_o (by omega)]⟩
          · rw [sp_adm_n h] at e; cases e
    · cases e
theorem sp_sound_ok {t : tk_T} {i : Nat} {π : pm_T} {q : Nat × pm_T} (e : sp_sound t i π = .inr q) : i + 1 ≤ q.1 ∧ q.2 0 0 = π 0 0 := by
  have e0 : snd0 π 0 0 = π 0 0 := by unfold snd0; rw [up2_o (by omega), up2_o (by omega), up2_o (by omega)]
  rw [sp_sound] at e
  by_cases h : snd0 π 0 2 < 300
  · rw [sp_adm_a h] at e
    simp only [bnd] at e
    split at e
    · cases e
      exact ⟨Nat.le_refl _, by show adm (snd0 π) 0 0 = π 0 0; rw [adm_o (by omega), e0]⟩
    · split at e
      · cases e
        exact ⟨Nat.le_refl _, by show pch t i (sgt t i) (adm (snd0 π)) 0 0 = π 0 0; rw [pch_0, adm_o (by omega), e0]⟩
      · have := sp_chord_ok _ _ _ _ e
        exact ⟨by omega, by rw [this.2, e0]⟩
  · rw [sp_adm_n h] at e
    simp only [bnd] at e
    split at e
    · cases e
    · split at e
      · cases e
      · have := sp_chord_ok _ _ _ _ e
        exact ⟨by omega, by rw [this.2, e0]⟩
def PVc (t : tk_T) (m s : Nat) (μ : pm_T) (v : Nat) (R : F_T ⊕ (Nat × pm_T)) (z : Int) (h' : ah_T) : Prop := match R with
  | .inl q => z = 0 ∧ h'.2.1 2 6 = q.1 ∧ h'.2.1 2 7 = q.2
  | .inr q => z = 1 ∧ VE t m q.1 μ s q.2 v h'
abbrev QV (t : tk_T) (m s : Nat) (μ : pm_T) (v : Nat) (R : F_T ⊕ (Nat × pm_T)) (h : ah_T) : Option av_T → ah_T → Prop := fun r h' => ∃ z, r = some (av_I z) ∧ hb s h' ∧ fr (WP v) h h' ∧ (z = 0 ∨ z = 1) ∧ PVc t m s μ v R z h'
/-- an event's end: its tie -/
def sp_tie (t : tk_T) (i : Nat) (π : pm_T) (n : Int) (d : Nat × Int) : F_T ⊕ (Nat × pm_T) := if tK t d.1 = 126 then (if tK t i = 266 then .inl (7, tP t d.1) else .inr (d.1 + 1, addE π n d.2 1)) else .inr (d.1, addE π n d.2 0)
theorem sp_event_e {t : tk_T} {i : Nat} {π : pm_T} : sp_event t i π = bnd (sp_sound t i π) fun a => bnd (sp_num t a.1 64 true) fun n => bnd (sp_dots t 4 (a.1 + 1) 0) fun d => sp_tie t i a.2 n d := rfl
theorem t_Reader_readEvent {G : cx_T} {s v : Nat} {h : ah_T} {t : tk_T} {m i : Nat} {μ π : pm_T} (hb0 : hb s h) (hv : isV v) (hT : TG t m) (H : VE t m i μ s π v h) (hk : tK t i = 258 ∨ tK t i = 266 ∨ tK t i = 60) : con G 3 0 0 m_Reader_readEvent [av_R (some 2), av_R (some v)] h (QV t m s μ v (sp_event t i π) h) := by
  have hs : s = 17 ∨ s = 80 := hb0.2.1
  have v24 := isV_24 hv
  have gn : ∀ j, j < m → tK t j = 259 → j + 1 < m ∧ 0 ≤ tV' t j ∧ tV' t j ≤ 9999 := fun j hj hk => ⟨hT.1 j hj ⟨by omega, by omega⟩, hT.2.1 j hj hk⟩
  obtain ⟨H0, P, hB, hi⟩ := H
  have c9 := (RCs_b H0.1).1
  -- the tie and the end
  have k156 : ∀ (hh : ah_T) (ρ : pm_T) (n d w : Int) (j : Nat), hb s hh → fr (WP v) h hh → RCs t m j μ s hh → RSp ρ v hh → ρ 0 3 < ρ 0 2 → ρ 0 0 + 2 ≤ j → (1 ≤ n ∧ n ≤ 64) → (0 ≤ d ∧ d ≤ 3) → (w = 0 ∨ w = 1) → sp_event t i π = .inr (j, addE ρ n d w) → B_Reader_readEvent_156 G s v n d w hh (QV t m s μ v (sp_event t i π) h) := by
    intro hh ρ n d w j hb1 hf Hj R h32 hj hn hd hw es
    obtain ⟨r0, r1, r2, r3, r4⟩ := R.2.1.1
    obtain ⟨b, eb⟩ : ∃ b : Nat, ρ 0 3 = (b : Int) := ⟨(ρ 0 3).toNat, by omega⟩
    obtain ⟨k, ek⟩ : ∃ k : Nat, ρ 0 0 = (k : Int) := ⟨(ρ 0 0).toNat, by omega⟩
    have jm : j < m ∧ m ≤ 2001 := ⟨Hj.1.2.2.1, Hj.1.2.2.2.1⟩
    unfold B_Reader_readEvent_156
    refine con_mono (t_Voice_endSound hv hb1 (n := b) (R.1.1.2.2.2.1.trans eb) (by omega) hw) ?_
    rintro r h2 ⟨rfl, hb2, f2, g2⟩
    refine ⟨(b : Int), rfl, hb2, ?_⟩
    refine con_mono (t_Parts_add hb2 (n := k) ((fr_g f2 (by omega)).trans (R.1.1.1.trans ek)) (by omega) (by decide) (by decide)) ?_
    rintro r h3 ⟨rfl, hb3, f3, g3⟩
    obtain ⟨A, B⟩ := RPc_addE v24 R h32 eb ek f2 g2 f3 g3
    have Hx := RCs_p (RCs_p Hj f2 hs hv (fun a k w => by omega)) f3 hs hv (fun a k w => by omega)
    refine ⟨rfl, hb3, 1, rfl, hb3, fr_t (fr_t hf f2 (fun a k w => by omega)) f3 (fun a k w => by omega), Or.inr rfl, ?_⟩
    rw [es]
    exact ⟨rfl, ⟨Hx, A⟩, PW_addE R.2.1 R.2.2.1 h32 hn hd hw, B, by show addE ρ n d w 0 0 + 1 ≤ (j : Int); rw [addE_0.1]; omega⟩
  refine c_Reader_readEvent hv (X49 := fun v2 v3 v4 v5 hh => v5 = v4 ∧ fr (WP v) h hh ∧ v2 = (if tK t i = 266 then 1 else 0) ∧ (1 ≤ v3 ∧ v3 ≤ 64) ∧ (0 ≤ v4 ∧ v4 ≤ 3) ∧ ∃ (j : Nat) (ρ : pm_T) (f : Nat), RCs t m j μ s hh ∧ RSp ρ v hh ∧ ρ 0 3 < ρ 0 2 ∧ ρ 0 0 + 2 ≤ j ∧ (f : Int) = 4 - v4 ∧ sp_event t i π = bnd (sp_dots t f j v4) fun d => sp_tie t i ρ v3 d) ?_ hb0 ?_
  · refine lp_Reader_readEvent_49 hv _ (fun _ _ v4 _ _ => (4 - v4).toNat) ?_
    rintro v2 v3 v4 v5 hh hb1 ⟨rfl, hf, e2, h64, hd, j, ρ, f, Hj, R, h32, hj, ef, es⟩
    obtain ⟨d9, d10, d11, d12⟩ := RCs_b Hj
    obtain ⟨f', rfl⟩ : ∃ f', f = f' + 1 := ⟨f - 1, by omega⟩
    rw [sp_dots] at es
    unfold B_Reader_readEvent_49
    refine ⟨fun c => by omega, fun _ x2 y2 _ _ => ⟨fun c => ⟨fun c3 x10 y10 _ _ => ?_, fun c3 => ⟨⟨by omega, by omega⟩, ?_⟩⟩, fun c => ?_⟩⟩
    · rw [if_pos (by omega), if_pos c3] at es
      refine con_mono (tt_Reader_blame hb1) ?_
      rintro r h' ⟨z, rfl, hb2, f2, rfl, w1, w2⟩
      exact ⟨0, rfl, hb2, Or.inl rfl, 0, rfl, hb2, fr_t hf f2 WT_P, Or.inl rfl, by rw [es]; exact ⟨rfl, w1, by rw [w2, y10, d10]⟩⟩
    · have hk46 : tK t j = 46 := by omega
      rw [if_pos hk46, if_neg c3] at es
      refine con_mono (tt_Reader_step hb1 Hj (hT.1 _ Hj.1.2.2.1 (gk_of hk46 (by decide) (by decide)))) ?_
      rintro r h' ⟨rfl, hb2, f2, H2⟩
      exact ⟨rfl, hb2, ⟨by omega, by omega⟩, ⟨rfl, fr_t hf f2 WT_P, e2, h64, ⟨by omega, by omega⟩, j + 1, ρ, f', H2, RSp_t v24 R f2, h32, by omega, by omega, es⟩, by omega⟩
    · rw [if_neg (by omega)] at es
      simp only [bnd, sp_tie] at es
      unfold B_Reader_readEvent_102
      intro x y _ _
      have ex : x = tK t j := y.trans d9
      refine ⟨fun c2 => ?_, fun c2 => ?_⟩
      · have h126 : tK t j = 126 := by omega
        rw [if_pos h126] at es
        unfold B_Reader_readEvent_119
        refine ⟨fun d => absurd d (by decide), fun _ => ⟨fun d => ?_, fun d x3 y3 _ _ => ?_⟩⟩
        · have hr : ¬ tK t i = 266 := fun w => by rw [if_pos w] at e2; omega
          rw [if_neg hr] at es
          unfold B_Reader_readEvent_144
          refine ⟨fun d => absurd d (by decide), fun _ => ?_⟩
          refine con_mono (tt_Reader_step hb1 Hj (hT.1 _ Hj.1.2.2.1 (gk_of h126 (by decide) (by decide)))) ?_
          rintro r h' ⟨rfl, hb2, f2, H2⟩
          exact ⟨rfl, hb2, k156 h' ρ v3 _ 1 (j + 1) hb2 (fr_t hf f2 WT_P) H2 (RSp_t v24 R f2) h32 (by omega) h64 hd (Or.inr rfl) es⟩
        · have hr : tK t i = 266 := by
            by_cases w : tK t i = 266
            · exact w
            · rw [if_neg w] at e2; exact absurd e2 d
          rw [if_pos hr] at es
          refine con_mono (tt_Reader_blame hb1) ?_
          rintro r h' ⟨z, rfl, hb2, f2, rfl, w1, w2⟩
          exact ⟨0, rfl, hb2, Or.inl rfl, 0, rfl, hb2, fr_t hf f2 WT_P, Or.inl rfl, by rw [es]; exact ⟨rfl, w1, by rw [w2, y3, d10]⟩⟩
      · rw [if_neg (by omega)] at es
        unfold B_Reader_readEvent_119 B_Reader_readEvent_144
        exact ⟨fun _ => ⟨fun _ => k156 hh ρ v3 _ 0 j hb1 hf Hj R h32 hj h64 hd (Or.inl rfl) es, fun d => absurd rfl d⟩, fun d => absurd rfl d⟩
  · have k18 : ∀ t0, t0 = (if tK t i = 266 then 1 else 0) → B_Reader_readEvent_18 G s v t0 h (QV t m s μ v (sp_event t i π) h) (fun v2 v3 v4 v5 hh => v5 = v4 ∧ fr (WP v) h hh ∧ v2 = (if tK t i = 266 then 1 else 0) ∧ (1 ≤ v3 ∧ v3 ≤ 64) ∧ (0 ≤ v4 ∧ v4 ≤ 3) ∧ ∃ (j : Nat) (ρ : pm_T) (f : Nat), RCs t m j μ s hh ∧ RSp ρ v hh ∧ ρ 0 3 < ρ 0 2 ∧ ρ 0 0 + 2 ≤ j ∧ (f : Int) = 4 - v4 ∧ sp_event t i π = bnd (sp_dots t f j v4) fun d => sp_tie t i ρ v3 d) := by
      intro t0 et
      unfold B_Reader_readEvent_18
      have es := sp_event_e (t := t) (i := i) (π := π)
      refine con_mono (t_Reader_readSound hb0 hv hT H0 P hB hk) ?_
      rintro r h1 ⟨z, rfl, hb1, f1, z01, p1⟩
      rcases n1 : sp_sound t i π with q | a
      · rw [n1] at p1 es
        obtain ⟨rfl, p1⟩ := p1
        exact ⟨0, rfl, hb1, fun _ => ⟨0, rfl, hb1, f1, Or.inl rfl, by rw [es]; exact ⟨rfl, p1⟩⟩, fun d => absurd rfl d⟩
      rw [n1] at p1 es
      obtain ⟨rfl, H1, P1, S1, C1, h32⟩ := p1
      obtain ⟨o1, o2⟩ := sp_sound_ok n1
      simp only [bnd] at es
      refine ⟨1, rfl, hb1, fun d => absurd d (by decide), fun _ => ?_⟩
      refine con_mono (tt_Reader_readNumber (pw := true) hb1 H1.1 (gn _ H1.1.1.2.2.1) rfl (by decide)) ?_
      rintro r h4 ⟨z4, rfl, hb4, f4, p4⟩
      have fx := fr_t f1 f4 WT_P
      rcases n2 : sp_num t a.1 64 true with q | n
      · rw [n2] at p4 es
        obtain ⟨rfl, p4⟩ := p4
        exact ⟨0, rfl, hb4, fun _ => ⟨0, rfl, hb4, fx, Or.inl rfl, by rw [es]; exact ⟨rfl, p4⟩⟩, fun d => absurd rfl d⟩
      rw [n2] at p4 es
      obtain ⟨rfl, y1, y2, H4⟩ := p4
      refine ⟨z4, rfl, hb4, fun d => by omega, fun _ => ⟨rfl, fx, et, ⟨y1, y2⟩, ⟨by decide, by decide⟩, a.1 + 1, a.2, 4, H4, RSp_t v24 ⟨H1.2, P1, S1, C1⟩ f4, h32, by omega, by decide, es⟩⟩
    unfold B_Reader_readEvent_0
    intro x2 y2 _ _
    exact ⟨fun c => k18 1 (by rw [if_pos (by omega)]), fun c => k18 0 (by rw [if_neg (by omega)])⟩
theorem t_Reader_isShallow {G : cx_T} {s : Nat} {h : ah_T} {t : tk_T} {m i : Nat} {μ : pm_T} {d : Int} (hb0 : hb s h) (H : RCs t m i μ s h) (hd : h.2.1 9 7 = d) : con G 1 0 0 m_Reader_isShallow [av_R (some 2)] h (fun r h' => ∃ z, r = some (av_I z) ∧ hb s h' ∧ fr WT h h' ∧ ((d ≤ 6 ∧ z = 1 ∧ h' = h) ∨ (¬ d ≤ 6 ∧ z = 0 ∧ h'.2.1 2 6 = 3 ∧ h'.2.1 2 7 = tP t i))) := by
  refine c_Reader_isShallow hb0 ?_
  unfold B_Reader_isShallow_0 B_Reader_isShallow_27 B_Reader_isShallow_32
  intro x2 y2 _ _
  refine ⟨fun c => ⟨by omega, 1, rfl, hb0, fr_0, Or.inl ⟨by omega, rfl, rfl⟩⟩, fun c x4 y4 _ _ => ?_⟩
  refine con_mono (tt_Reader_blame hb0) ?_
  rintro r h' ⟨z, rfl, hb2, f2, rfl, w1, w2⟩
  exact ⟨0, rfl, hb2, fun _ => ⟨by omega, 0, rfl, hb2, f2, Or.inr ⟨by omega, rfl, w1, by rw [w2, y4, (RCs_b H).2.1]⟩⟩, fun d => absurd rfl d⟩
theorem t_Reader_beginsEvent {G : cx_T} {s : Nat} {h : ah_T} {t : tk_T} {m i : Nat} {μ : pm_T} (hb0 : hb s h) (H : RCs t m i μ s h) : con G 0 0 0 m_Reader_beginsEvent [av_R (some 2)] h (fun r h' => hb s h' ∧ h' = h ∧ ((r = some (av_I 1) ∧ (tK t i = 258 ∨ tK t i = 266 ∨ tK t i = 60)) ∨ (r = some (av_I 0) ∧ ¬ (tK t i = 258 ∨ tK t i = 266 ∨ tK t i = 60)))) := by
  refine c_Reader_beginsEvent hb0 ?_
  unfold B_Reader_beginsEvent_0 B_Reader_beginsEvent_38 B_Reader_beginsEvent_43
  intro x2 y2 _ _
  have ek : x2 = tK t i := y2.trans (RCs_b H).1
  exact ⟨fun c => ⟨by omega, hb0, rfl, Or.inl ⟨rfl, by omega⟩⟩, fun c => ⟨fun c1 => ⟨by omega, hb0, rfl, Or.inl ⟨rfl, by omega⟩⟩, fun c1 => ⟨fun c2 => ⟨by omega, hb0, rfl, Or.inl ⟨rfl, by omega⟩⟩, fun c2 => ⟨by omega, hb0, rfl, Or.inr ⟨rfl, by omega⟩⟩⟩⟩⟩
