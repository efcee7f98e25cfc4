/-! ===== the class: events, stretches, parts read ===== -/
theorem pch_0 {t : tk_T} {i : Nat} {g : Int} {π : pm_T} : pch t i g π 0 0 = π 0 0 := by
  unfold pch; rw [up2_o (by omega), up2_o (by omega), up2_o (by omega), up2_o (by omega), up2_o (by omega)]
theorem sp_chord_ok {t : tk_T} : ∀ (f i : Nat) (π : pm_T) (q : Nat × pm_T), sp_chord t f i π = .inr q → i + 2 ≤ q.1 ∧ q.2 0 0 = π 0 0
  | 0, _, _, _, e => by rw [sp_chord] at e; cases e
  | f + 1, i, π, q, e => by
    rw [sp_chord] at e
    split at e
    · split at e
      · cases e
      · split at e
        · cases e
        · by_cases h : π 0 2 < 300
          · rw [sp_adm_a h] at e
            simp only [bnd] at e
            split at e
            · cases e
              exact ⟨Nat.le_refl _, by show pch t i (sgt t i) (adm π) 0 0 = π 0 0; rw [pch_0, adm_o (by omega)]⟩
            · have := sp_chord_ok f (i + 1) _ q e
              exact ⟨by omega, by rw [this.2, pch_0, adm_o (by omega)]⟩
          · rw [sp_adm_n h] at e; cases e
    · cases e
theorem sp_sound_ok {t : tk_T} {i : Nat} {π : pm_T} {q : Nat × pm_T} (e : sp_sound t i π = .inr q) : i + 1 ≤ q.1 ∧ q.2 0 0 = π 0 0 := by
  have e0 : snd0 π 0 0 = π 0 0 := by unfold snd0; rw [up2_o (by omega), up2_o (by omega), up2_o (by omega)]
  rw [sp_sound] at e
  by_cases h : snd0 π 0 2 < 300
  · rw [sp_adm_a h] at e
    simp only [bnd] at e
    split at e
    · cases e
      exact ⟨Nat.le_refl _, by show adm (snd0 π) 0 0 = π 0 0; rw [adm_o (by omega), e0]⟩
    · split at e
      · cases e
        exact ⟨Nat.le_refl _, by show pch t i (sgt t i) (adm (snd0 π)) 0 0 = π 0 0; rw [pch_0, adm_o (by omega), e0]⟩
      · have := sp_chord_ok _ _ _ _ e
        exact ⟨by omega, by rw [this.2, e0]⟩
  · rw [sp_adm_n h] at e
    simp only [bnd] at e
    split at e
    · cases e
    · split at e
      · cases e
      · have := sp_chord_ok _ _ _ _ e
        exact ⟨by omega, by rw [this.2, e0]⟩
def PVc (t : tk_T) (m s : Nat) (μ : pm_T) (v : Nat) (R : F_T ⊕ (Nat × pm_T)) (z : Int) (h' : ah_T) : Prop := match R with
  | .inl q => z = 0 ∧ h'.2.1 2 6 = q.1 ∧ h'.2.1 2 7 = q.2
  | .inr q => z = 1 ∧ VE t m q.1 μ s q.2 v h'
abbrev QV (t : tk_T) (m s : Nat) (μ : pm_T) (v : Nat) (R : F_T ⊕ (Nat × pm_T)) (h : ah_T) : Option av_T → ah_T → Prop := fun r h' => ∃ z, r = some (av_I z) ∧ hb s h' ∧ fr (WP v) h h' ∧ (z = 0 ∨ z = 1) ∧ PVc t m s μ v R z h'
/-- an event's end: its tie -/
def sp_tie (t : tk_T) (i : Nat) (π : pm_T) (n : Int) (d : Nat × Int) : F_T ⊕ (Nat × pm_T) := if tK t d.1 = 126 then (if tK t i = 266 then .inl (7, tP t d.1) else .inr (d.1 + 1, addE π n d.2 1)) else .inr (d.1, addE π n d.2 0)
theorem sp_event_e {t : tk_T} {i : Nat} {π : pm_T} : sp_event t i π = bnd (sp_sound t i π) fun a => bnd (sp_num t a.1 64 true) fun n => bnd (sp_dots t 4 (a.1 + 1) 0) fun d => sp_tie t i a.2 n d := rfl
theorem t_Reader_readEvent {G : cx_T} {s v : Nat} {h : ah_T} {t : tk_T} {m i : Nat} {μ π : pm_T} (hb0 : hb s h) (hv : isV v) (hT : TG t m) (H : VE t m i μ s π v h) (hk : tK t i = 258 ∨ tK t i = 266 ∨ tK t i = 60) : con G 3 0 0 m_Reader_readEvent [av_R (some 2), av_R (some v)] h (QV t m s μ v (sp_event t i π) h) := by
  have hs : s = 17 ∨ s = 80 := hb0.2.1
  have v24 := isV_24 hv
  have gn : ∀ j, j < m → tK t j = 259 → j + 1 < m ∧ 0 ≤ tV' t j ∧ tV' t j ≤ 9999 := fun j hj hk => ⟨hT.1 j hj ⟨by omega, by omega⟩, hT.2.1 j hj hk⟩
  obtain ⟨H0, P, hB, hi⟩ := H
  have c9 := (RCs_b H0.1).1
  -- the tie and the end
  have k156 : ∀ (hh : ah_T) (ρ : pm_T) (n d w : Int) (j : Nat), hb s hh → fr (WP v) h hh → RCs t m j μ s hh → RSp ρ v hh → ρ 0 3 < ρ 0 2 → ρ 0 0 + 2 ≤ j → (1 ≤ n ∧ n ≤ 64) → (0 ≤ d ∧ d ≤ 3) → (w = 0 ∨ w = 1) → sp_event t i π = .inr (j, addE ρ n d w) → B_Reader_readEvent_156 G s v n d w hh (QV t m s μ v (sp_event t i π) h) := by
    intro hh ρ n d w j hb1 hf Hj R h32 hj hn hd hw es
    obtain ⟨r0, r1, r2, r3, r4⟩ := R.2.1.1
    obtain ⟨b, eb⟩ : ∃ b : Nat, ρ 0 3 = (b : Int) := ⟨(ρ 0 3).toNat, by omega⟩
    obtain ⟨k, ek⟩ : ∃ k : Nat, ρ 0 0 = (k : Int) := ⟨(ρ 0 0).toNat, by omega⟩
    have jm : j < m ∧ m ≤ 2001 := ⟨Hj.1.2.2.1, Hj.1.2.2.2.1⟩
    unfold B_Reader_readEvent_156
    refine con_mono (t_Voice_endSound hv hb1 (n := b) (R.1.1.2.2.2.1.trans eb) (by omega) hw) ?_
    rintro r h2 ⟨rfl, hb2, f2, g2⟩
    refine ⟨(b : Int), rfl, hb2, ?_⟩
    refine con_mono (t_Parts_add hb2 (n := k) ((fr_g f2 (by omega)).trans (R.1.1.1.trans ek)) (by omega) (by decide) (by decide)) ?_
    rintro r h3 ⟨rfl, hb3, f3, g3⟩
    obtain ⟨A, B⟩ := RPc_addE v24 R h32 eb ek f2 g2 f3 g3
    have Hx := RCs_p (RCs_p Hj f2 hs hv (fun a k w => by omega)) f3 hs hv (fun a k w => by omega)
    refine ⟨rfl, hb3, 1, rfl, hb3, fr_t (fr_t hf f2 (fun a k w => by omega)) f3 (fun a k w => by omega), Or.inr rfl, ?_⟩
    rw [es]
    exact ⟨rfl, ⟨Hx, A⟩, PW_addE R.2.1 R.2.2.1 h32 hn hd hw, B, by show addE ρ n d w 0 0 + 1 ≤ (j : Int); rw [addE_0.1]; omega⟩
  refine c_Reader_readEvent hv (X49 := fun v2 v3 v4 v5 hh => v5 = v4 ∧ fr (WP v) h hh ∧ v2 = (if tK t i = 266 then 1 else 0) ∧ (1 ≤ v3 ∧ v3 ≤ 64) ∧ (0 ≤ v4 ∧ v4 ≤ 3) ∧ ∃ (j : Nat) (ρ : pm_T) (f : Nat), RCs t m j μ s hh ∧ RSp ρ v hh ∧ ρ 0 3 < ρ 0 2 ∧ ρ 0 0 + 2 ≤ j ∧ (f : Int) = 4 - v4 ∧ sp_event t i π = bnd (sp_dots t f j v4) fun d => sp_tie t i ρ v3 d) ?_ hb0 ?_
  · refine lp_Reader_readEvent_49 hv _ (fun _ _ v4 _ _ => (4 - v4).toNat) ?_
    rintro v2 v3 v4 v5 hh hb1 ⟨rfl, hf, e2, h64, hd, j, ρ, f, Hj, R, h32, hj, ef, es⟩
    obtain ⟨d9, d10, d11, d12⟩ := RCs_b Hj
    obtain ⟨f', rfl⟩ : ∃ f', f = f' + 1 := ⟨f - 1, by omega⟩
    rw [sp_dots] at es
    unfold B_Reader_readEvent_49
    refine ⟨fun c => by omega, fun _ x2 y2 _ _ => ⟨fun c => ⟨fun c3 x10 y10 _ _ => ?_, fun c3 => ⟨⟨by omega, by omega⟩, ?_⟩⟩, fun c => ?_⟩⟩
    · rw [if_pos (by omega), if_pos c3] at es
      refine con_mono (tt_Reader_blame hb1) ?_
      rintro r h' ⟨z, rfl, hb2, f2, rfl, w1, w2⟩
      exact ⟨0, rfl, hb2, Or.inl rfl, 0, rfl, hb2, fr_t hf f2 WT_P, Or.inl rfl, by rw [es]; exact ⟨rfl, w1, by rw [w2, y10, d10]⟩⟩
    · have hk46 : tK t j = 46 := by omega
      rw [if_pos hk46, if_neg c3] at es
      refine con_mono (tt_Reader_step hb1 Hj (hT.1 _ Hj.1.2.2.1 (gk_of hk46 (by decide) (by decide)))) ?_
      rintro r h' ⟨rfl, hb2, f2, H2⟩
      exact ⟨rfl, hb2, ⟨by omega, by omega⟩, ⟨rfl, fr_t hf f2 WT_P, e2, h64, ⟨by omega, by omega⟩, j + 1, ρ, f', H2, RSp_t v24 R f2, h32, by omega, by omega, es⟩, by omega⟩
    · rw [if_neg (by omega)] at es
      simp only [bnd, sp_tie] at es
      unfold B_Reader_readEvent_102
      intro x y _ _
      have ex : x = tK t j := y.trans d9
      refine ⟨fun c2 => ?_, fun c2 => ?_⟩
      · have h126 : tK t j = 126 := by omega
        rw [if_pos h126] at es
        unfold B_Reader_readEvent_119
        refine ⟨fun d => absurd d (by decide), fun _ => ⟨fun d => ?_, fun d x3 y3 _ _ => ?_⟩⟩
        · have hr : ¬ tK t i = 266 := fun w => by rw [if_pos w] at e2; omega
          rw [if_neg hr] at es
          unfold B_Reader_readEvent_144
          refine ⟨fun d => absurd d (by decide), fun _ => ?_⟩
          refine con_mono (tt_Reader_step hb1 Hj (hT.1 _ Hj.1.2.2.1 (gk_of h126 (by decide) (by decide)))) ?_
          rintro r h' ⟨rfl, hb2, f2, H2⟩
          exact ⟨rfl, hb2, k156 h' ρ v3 _ 1 (j + 1) hb2 (fr_t hf f2 WT_P) H2 (RSp_t v24 R f2) h32 (by omega) h64 hd (Or.inr rfl) es⟩
        · have hr : tK t i = 266 := by
            by_cases w : tK t i = 266
            · exact w
            · rw [if_neg w] at e2; exact absurd e2 d
          rw [if_pos hr] at es
          refine con_mono (tt_Reader_blame hb1) ?_
          rintro r h' ⟨z, rfl, hb2, f2, rfl, w1, w2⟩
          exact ⟨0, rfl, hb2, Or.inl rfl, 0, rfl, hb2, fr_t hf f2 WT_P, Or.inl rfl, by rw [es]; exact ⟨rfl, w1, by rw [w2, y3, d10]⟩⟩
      · rw [if_neg (by omega)] at es
        unfold B_Reader_readEvent_119 B_Reader_readEvent_144
        exact ⟨fun _ => ⟨fun _ => k156 hh ρ v3 _ 0 j hb1 hf Hj R h32 hj h64 hd (Or.inl rfl) es, fun d => absurd rfl d⟩, fun d => absurd rfl d⟩
  · have k18 : ∀ t0, t0 = (if tK t i = 266 then 1 else 0) → B_Reader_readEvent_18 G s v t0 h (QV t m s μ v (sp_event t i π) h) (fun v2 v3 v4 v5 hh => v5 = v4 ∧ fr (WP v) h hh ∧ v2 = (if tK t i = 266 then 1 else 0) ∧ (1 ≤ v3 ∧ v3 ≤ 64) ∧ (0 ≤ v4 ∧ v4 ≤ 3) ∧ ∃ (j : Nat) (ρ : pm_T) (f : Nat), RCs t m j μ s hh ∧ RSp ρ v hh ∧ ρ 0 3 < ρ 0 2 ∧ ρ 0 0 + 2 ≤ j ∧ (f : Int) = 4 - v4 ∧ sp_event t i π = bnd (sp_dots t f j v4) fun d => sp_tie t i ρ v3 d) := by
      intro t0 et
      unfold B_Reader_readEvent_18
      have es := sp_event_e (t := t) (i := i) (π := π)
      refine con_mono (t_Reader_readSound hb0 hv hT H0 P hB hk) ?_
      rintro r h1 ⟨z, rfl, hb1, f1, z01, p1⟩
      rcases n1 : sp_sound t i π with q | a
      · rw [n1] at p1 es
        obtain ⟨rfl, p1⟩ := p1
        exact ⟨0, rfl, hb1, fun _ => ⟨0, rfl, hb1, f1, Or.inl rfl, by rw [es]; exact ⟨rfl, p1⟩⟩, fun d => absurd rfl d⟩
      rw [n1] at p1 es
      obtain ⟨rfl, H1, P1, S1, C1, h32⟩ := p1
      obtain ⟨o1, o2⟩ := sp_sound_ok n1
      simp only [bnd] at es
      refine ⟨1, rfl, hb1, fun d => absurd d (by decide), fun _ => ?_⟩
      refine con_mono (tt_Reader_readNumber (pw := true) hb1 H1.1 (gn _ H1.1.1.2.2.1) rfl (by decide)) ?_
      rintro r h4 ⟨z4, rfl, hb4, f4, p4⟩
      have fx := fr_t f1 f4 WT_P
      rcases n2 : sp_num t a.1 64 true with q | n
      · rw [n2] at p4 es
        obtain ⟨rfl, p4⟩ := p4
        exact ⟨0, rfl, hb4, fun _ => ⟨0, rfl, hb4, fx, Or.inl rfl, by rw [es]; exact ⟨rfl, p4⟩⟩, fun d => absurd rfl d⟩
      rw [n2] at p4 es
      obtain ⟨rfl, y1, y2, H4⟩ := p4
      refine ⟨z4, rfl, hb4, fun d => by omega, fun _ => ⟨rfl, fx, et, ⟨y1, y2⟩, ⟨by decide, by decide⟩, a.1 + 1, a.2, 4, H4, RSp_t v24 ⟨H1.2, P1, S1, C1⟩ f4, h32, by omega, by decide, es⟩⟩
    unfold B_Reader_readEvent_0
    intro x2 y2 _ _
    exact ⟨fun c => k18 1 (by rw [if_pos (by omega)]), fun c => k18 0 (by rw [if_neg (by omega)])⟩
theorem t_Reader_isShallow {G : cx_T} {s : Nat} {h : ah_T} {t : tk_T} {m i : Nat} {μ : pm_T} {d : Int} (hb0 : hb s h) (H : RCs t m i μ s h) (hd : h.2.1 9 7 = d) : con G 1 0 0 m_Reader_isShallow [av_R (some 2)] h (fun r h' => ∃ z, r = some (av_I z) ∧ hb s h' ∧ fr WT h h' ∧ ((d ≤ 6 ∧ z = 1 ∧ h' = h) ∨ (¬ d ≤ 6 ∧ z = 0 ∧ h'.2.1 2 6 = 3 ∧ h'.2.1 2 7 = tP t i))) := by
  refine c_Reader_isShallow hb0 ?_
  unfold B_Reader_isShallow_0 B_Reader_isShallow_27 B_Reader_isShallow_32
  intro x2 y2 _ _
  refine ⟨fun c => ⟨by omega, 1, rfl, hb0, fr_0, Or.inl ⟨by omega, rfl, rfl⟩⟩, fun c x4 y4 _ _ => ?_⟩
  refine con_mono (tt_Reader_blame hb0) ?_
  rintro r h' ⟨z, rfl, hb2, f2, rfl, w1, w2⟩
  exact ⟨0, rfl, hb2, fun _ => ⟨by omega, 0, rfl, hb2, f2, Or.inr ⟨by omega, rfl, w1, by rw [w2, y4, (RCs_b H).2.1]⟩⟩, fun d => absurd rfl d⟩
theorem t_Reader_beginsEvent {G : cx_T} {s : Nat} {h : ah_T} {t : tk_T} {m i : Nat} {μ : pm_T} (hb0 : hb s h) (H : RCs t m i μ s h) : con G 0 0 0 m_Reader_beginsEvent [av_R (some 2)] h (fun r h' => hb s h' ∧ h' = h ∧ ((r = some (av_I 1) ∧ (tK t i = 258 ∨ tK t i = 266 ∨ tK t i = 60)) ∨ (r = some (av_I 0) ∧ ¬ (tK t i = 258 ∨ tK t i = 266 ∨ tK t i = 60)))) := by
  refine c_Reader_beginsEvent hb0 ?_
  unfold B_Reader_beginsEvent_0 B_Reader_beginsEvent_38 B_Reader_beginsEvent_43
  intro x2 y2 _ _
  have ek : x2 = tK t i := y2.trans (RCs_b H).1
  exact ⟨fun c => ⟨by omega, hb0, rfl, Or.inl ⟨rfl, by omega⟩⟩, fun c => ⟨fun c1 => ⟨by omega, hb0, rfl, Or.inl ⟨rfl, by omega⟩⟩, fun c1 => ⟨fun c2 => ⟨by omega, hb0, rfl, Or.inl ⟨rfl, by omega⟩⟩, fun c2 => ⟨by omega, hb0, rfl, Or.inr ⟨rfl, by omega⟩⟩⟩⟩⟩

/-! ===== the class: stretches, parts read ===== -/
theorem sp_num_le {t : tk_T} {i : Nat} {most v : Int} {pw : Bool} (e : sp_num t i most pw = .inr v) : 1 ≤ v ∧ v ≤ most := by
  unfold sp_num at e
  split at e
  · split at e
    · rename_i h
      cases e; exact h.1
    · cases e
  · cases e
theorem t_Reader_readStretch {G : cx_T} {s v : Nat} {h : ah_T} {t : tk_T} {m i : Nat} {μ π : pm_T} (hb0 : hb s h) (hv : isV v) (hT : TG t m) (H : VE t m i μ s π v h) (hk : tK t i = 123) (h6 : π 0 1 ≤ 6) : con G 2 0 0 m_Reader_readStretch [av_R (some 2)] h (QV t m s μ v (sp_times t i π) h) := by
  have hs : s = 17 ∨ s = 80 := hb0.2.1
  have v24 := isV_24 hv
  have gn : ∀ j, j < m → tK t j = 259 → j + 1 < m ∧ 0 ≤ tV' t j ∧ tV' t j ≤ 9999 := fun j hj hk => ⟨hT.1 j hj ⟨by omega, by omega⟩, hT.2.1 j hj hk⟩
  obtain ⟨H0, P, hB, hi⟩ := H
  have ed : sp_times t i π = bnd (sp_num t (i + 1) 16 false) fun a => bnd (sp_take t (i + 2) 47) fun _ => bnd (sp_num t (i + 3) 16 false) fun b => bnd (sp_take t (i + 4) 58) fun _ => .inr (i + 5, addP (opn π) 123 a b) := rfl
  refine c_Reader_readStretch hb0 ?_
  unfold B_Reader_readStretch_0 B_Reader_readStretch_28 B_Reader_readStretch_51
  refine con_mono (tt_Reader_step hb0 H0.1 (hT.1 i H0.1.1.2.2.1 (gk_of hk (by decide) (by decide)))) ?_
  rintro r h2 ⟨rfl, hb2, f2, H2⟩
  refine ⟨rfl, hb2, ?_⟩
  refine con_mono (tt_Reader_readNumber (pw := false) hb2 H2 (gn _ H2.1.2.2.1) rfl (by decide)) ?_
  rintro r h5 ⟨z7, rfl, hb5, f5, p5⟩
  have f25 := fr_t f2 f5 (fun _ _ w => w)
  rcases n1 : sp_num t (i + 1) 16 false with q | a
  · rw [n1] at p5 ed
    obtain ⟨rfl, p5⟩ := p5
    exact ⟨0, rfl, hb5, fun _ => ⟨0, rfl, hb5, fr_w f25 WT_P, Or.inl rfl, by rw [ed]; exact ⟨rfl, p5⟩⟩, fun d => absurd rfl d⟩
  rw [n1] at p5 ed
  obtain ⟨rfl, -, -, H5⟩ := p5
  have b1 := sp_num_le n1
  simp only [bnd] at ed
  refine ⟨z7, rfl, hb5, fun d => by omega, fun _ => ?_⟩
  refine con_mono (tt_Reader_take (k := 47) hb5 H5 (fun w => hT.1 _ H5.1.2.2.1 (gk_of w (by decide) (by decide)))) ?_
  rintro r h8 ⟨z10, rfl, hb8, f8, -, p8⟩
  have f58 := fr_t f25 f8 (fun _ _ w => w)
  rcases t1 : sp_take t (i + 2) 47 with q | u
  · rw [t1] at p8 ed
    obtain ⟨rfl, p8⟩ := p8
    exact ⟨0, rfl, hb8, fun _ => ⟨0, rfl, hb8, fr_w f58 WT_P, Or.inl rfl, by rw [ed]; exact ⟨rfl, p8⟩⟩, fun d => absurd rfl d⟩
  rw [t1] at p8 ed
  obtain ⟨rfl, H8⟩ := p8
  dsimp only at ed
  refine ⟨1, rfl, hb8, fun d => absurd d (by decide), fun _ => ?_⟩
  refine con_mono (tt_Reader_readNumber (pw := false) hb8 H8 (gn _ H8.1.2.2.1) rfl (by decide)) ?_
  rintro r h11 ⟨z13, rfl, hb11, f11, p11⟩
  have f811 := fr_t f58 f11 (fun _ _ w => w)
  rcases n2 : sp_num t (i + 3) 16 false with q | b
  · rw [n2] at p11 ed
    obtain ⟨rfl, p11⟩ := p11
    exact ⟨0, rfl, hb11, fun _ => ⟨0, rfl, hb11, fr_w f811 WT_P, Or.inl rfl, by rw [ed]; exact ⟨rfl, p11⟩⟩, fun d => absurd rfl d⟩
  rw [n2] at p11 ed
  obtain ⟨rfl, -, -, H11⟩ := p11
  have b2 := sp_num_le n2
  dsimp only at ed
  refine ⟨z13, rfl, hb11, fun d => by omega, fun _ => ?_⟩
  refine con_mono (tt_Reader_take (k := 58) hb11 H11 (fun w => hT.1 _ H11.1.2.2.1 (gk_of w (by decide) (by decide)))) ?_
  rintro r h14 ⟨z16, rfl, hb14, f14, -, p14⟩
  have fx := fr_t f811 f14 (fun _ _ w => w)
  rcases t2 : sp_take t (i + 4) 58 with q | u
  · rw [t2] at p14 ed
    obtain ⟨rfl, p14⟩ := p14
    exact ⟨0, rfl, hb14, fun _ => ⟨0, rfl, hb14, fr_w fx WT_P, Or.inl rfl, by rw [ed]; exact ⟨rfl, p14⟩⟩, fun d => absurd rfl d⟩
  rw [t2] at p14 ed
  obtain ⟨rfl, H14⟩ := p14
  dsimp only at ed
  refine ⟨1, rfl, hb14, fun d => absurd d (by decide), fun _ => ?_⟩
  have R14 := RPc_t H0.2 P fx v24
  have B14 : h14.2.1 (v + 3) (π 0 3).toNat = π 0 4 := by rw [fr_g fx (by omega)]; exact hB
  obtain ⟨p0, p1, p2, p3, p4⟩ := P.1
  obtain ⟨k, ek⟩ : ∃ k : Nat, π 0 0 = (k : Int) := ⟨(π 0 0).toNat, by omega⟩
  obtain ⟨d, edd⟩ : ∃ d : Nat, π 0 1 = (d : Int) := ⟨(π 0 1).toNat, by omega⟩
  have im : i < m ∧ m ≤ 2001 := ⟨H0.1.1.2.2.1, H0.1.1.2.2.2.1⟩
  refine con_mono (t_Parts_open hb14 (n := k) (d := d) (R14.1.1.trans ek) (by omega) (R14.1.2.1.trans edd) (by omega) (Or.inr rfl)) ?_
  rintro r h18 ⟨rfl, hb18, f18, g18⟩
  obtain ⟨A, B⟩ := RPc_addO v24 R14 P B14 (Or.inr rfl) ek edd f18 g18
  have Hx := RCs_p H14 f18 hs hv (fun a k w => by omega)
  refine ⟨rfl, hb18, 1, rfl, hb18, fr_t (fr_w fx WT_P) f18 (fun a k w => by omega), Or.inr rfl, ?_⟩
  rw [ed]
  refine ⟨rfl, ⟨Hx, A⟩, PW_addO P h6 (Or.inr ⟨rfl, b1, b2⟩), B, ?_⟩
  show addP (opn π) 123 z7 z13 0 0 + 1 ≤ ((i + 5 : Nat) : Int)
  rw [addP_v.1, opn_o (by omega) (by omega)]; omega
theorem mkb_t {π : pm_T} {K : Int} (hK : K = 58 ∨ K = 93 ∨ K = 125) : mkb π K = true ↔ 0 < π 0 1 ∧ π 1 (top π) = (if K = 125 then 123 else 91) := by
  unfold mkb
  rcases hK with rfl | rfl | rfl <;> simp
theorem mkb_f {π : pm_T} {K : Int} (hK : ¬ (K = 58 ∨ K = 93 ∨ K = 125)) : ¬ mkb π K = true := by
  unfold mkb
  simp only [Bool.and_eq_true, Bool.or_eq_true, beq_iff_eq]
  omega
theorem t_Reader_readPart {G : cx_T} {s v : Nat} {h : ah_T} {t : tk_T} {m i : Nat} {μ π : pm_T} (hb0 : hb s h) (hv : isV v) (hT : TG t m) (H : VE t m i μ s π v h) (hk : ¬ (tK t i = 258 ∨ tK t i = 266 ∨ tK t i = 60)) : con G 3 0 0 m_Reader_readPart [av_R (some 2)] h (QV t m s μ v (sp_part t i π) h) := by
  have hs : s = 17 ∨ s = 80 := hb0.2.1
  have v24 := isV_24 hv
  have HH := H
  obtain ⟨H0, P, hB, hi⟩ := H
  obtain ⟨p0, p1, p2, p3, p4⟩ := P.1
  have im : i < m ∧ m ≤ 2001 := ⟨H0.1.1.2.2.1, H0.1.1.2.2.2.1⟩
  obtain ⟨k, ek⟩ : ∃ k : Nat, π 0 0 = (k : Int) := ⟨(π 0 0).toNat, by omega⟩
  obtain ⟨d, edd⟩ : ∃ d : Nat, π 0 1 = (d : Int) := ⟨(π 0 1).toNat, by omega⟩
  have edp : dp π = d := by unfold dp; omega
  have ek9 := (RCs_b H0.1).1
  -- a mark
  have k26 : (tK t i = 58 ∨ tK t i = 93 ∨ tK t i = 125) → B_Reader_readPart_26 G s (tK t i) h (QV t m s μ v (sp_part t i π) h) := by
    intro hK
    obtain ⟨o, l, hol⟩ : ∃ o l : Nat, 0 < d → π 15 (d - 1) = (o : Int) ∧ π 16 (d - 1) = (l : Int) ∧ o < k ∧ l < k := by
      by_cases c : 0 < d
      · have hD := P.2.1 (d - 1) (by omega)
        unfold PD at hD
        exact ⟨(π 15 (d - 1)).toNat, (π 16 (d - 1)).toNat, fun _ => by omega⟩
      · exact ⟨0, 0, fun w => absurd w c⟩
    unfold B_Reader_readPart_26
    refine con_mono (t_Parts_addMark hb0 (n := k) (d := d) (o := o) (l := l) (H0.2.1.1.trans ek) (by omega) (H0.2.1.2.1.trans edd) (by omega) hK (fun c => ?_)) ?_
    · obtain ⟨q1, q2, q3, q4⟩ := hol c
      have := H0.2.2.1 (d - 1) (by omega)
      exact ⟨this.1.trans q1, this.2.trans q2, q3, q4⟩
    · have ec : (0 < d ∧ h.2.1 10 o = (if tK t i = 125 then 123 else 91)) ↔ mkb π (tK t i) = true := by
        rw [mkb_t hK]
        constructor
        · rintro ⟨c, e⟩
          obtain ⟨q1, q2, q3, q4⟩ := hol c
          have et : top π = o := by unfold top; rw [edp, q1]; exact tn_c o
          rw [et, ← e, (H0.2.2.2 o (by omega)).1.1]; exact ⟨by omega, rfl⟩
        · rintro ⟨c, e⟩
          have c : 0 < d := by omega
          obtain ⟨q1, q2, q3, q4⟩ := hol c
          have et : top π = o := by unfold top; rw [edp, q1]; exact tn_c o
          rw [et] at e
          exact ⟨c, by rw [(H0.2.2.2 o (by omega)).1.1]; exact e⟩
      rintro r h2 ⟨hb2, ⟨rfl, rfl, nc⟩ | ⟨rfl, cc, f2, g2⟩⟩
      · have es : sp_part t i π = .inl (cn t i) := by
          rw [sp_part, if_neg (fun w => nc (ec.mpr w)), if_neg hk, if_neg (by omega), if_neg (by omega), if_neg (by omega)]
        refine ⟨0, rfl, hb2, fun _ => ?_, fun d => absurd rfl d⟩
        refine con_mono (tt_Reader_refuse hb2 H0.1.1) ?_
        rintro r h' ⟨z, rfl, hb1, f1, rfl, w1, w2⟩
        exact ⟨0, rfl, hb1, Or.inl rfl, 0, rfl, hb1, fr_w f1 WT_P, Or.inl rfl, by rw [es]; exact ⟨rfl, w1, w2⟩⟩
      · obtain ⟨q1, q2, q3, q4⟩ := hol cc.1
        have es : sp_part t i π = .inr (i + 1, addM π (tK t i)) := by rw [sp_part, if_pos (ec.mp cc)]
        have hD := P.2.1 (d - 1) (by omega)
        have el : (π 16 (dp π - 1)).toNat ≠ sz π := by rw [edp, q2]; unfold sz; omega
        have z1 := (addM_v (K := tK t i) el).2.1
        have z0 := (addM_v (K := tK t i) el).1
        obtain ⟨A, B⟩ := RPc_addM (K := tK t i) v24 H0.2 P hB ⟨by omega, by omega⟩ (by omega) ek edd q2 f2 ⟨g2.1, g2.2.1, g2.2.2.1, g2.2.2.2.1, g2.2.2.2.2.1, by rw [g2.2.2.2.2.2, z1, edd]⟩
        have H2 := RCs_p H0.1 f2 hs hv (fun a k w => by omega)
        have P2 := PW_addM (K := tK t i) P (by omega) hK
        refine ⟨1, rfl, hb2, fun d => absurd d (by decide), fun _ => ?_⟩
        refine con_mono (tt_Reader_step hb2 H2 (hT.1 i im.1 ⟨by omega, by omega⟩)) ?_
        rintro r h6 ⟨rfl, hb6, f6, H6⟩
        refine ⟨rfl, hb6, 1, rfl, hb6, fr_t (fr_w f2 (fun a k w => by omega)) f6 WT_P, Or.inr rfl, ?_⟩
        rw [es]
        refine ⟨rfl, ⟨H6, RPc_t A P2 f6 v24⟩, P2, by rw [fr_g f6 (by omega)]; exact B, ?_⟩
        show addM π (tK t i) 0 0 + 1 ≤ ((i + 1 : Nat) : Int)
        rw [z0]; omega
  -- a | or a bracket
  have k74 : (tK t i = 124 ∨ tK t i = 91 ∨ tK t i = 123) → B_Reader_readPart_74 G s (tK t i) h (QV t m s μ v (sp_part t i π) h) := by
    intro hK
    have nm : ¬ mkb π (tK t i) = true := mkb_f (by omega)
    unfold B_Reader_readPart_74
    refine con_mono (t_Reader_isShallow hb0 H0.1 H0.2.1.2.1) ?_
    rintro r h1 ⟨z, rfl, hb1, f1, ⟨c6, rfl, rfl⟩ | ⟨c6, rfl, w1, w2⟩⟩
    · refine ⟨1, rfl, hb1, fun d => absurd d (by decide), fun _ => ⟨fun c => ?_, fun c => ?_⟩⟩
      · have es : sp_part t i π = sp_times t i π := by rw [sp_part, if_neg nm, if_neg hk, if_neg (by omega), if_neg (by omega), if_pos c, if_pos c6]
        refine con_mono (t_Reader_readStretch hb1 hv hT HH c c6) ?_
        rintro r h' ⟨z, rfl, hb2, f2, z01, p2⟩
        exact ⟨z, rfl, hb2, z01, z, rfl, hb2, f2, z01, by rw [es]; exact p2⟩
      · -- | or [
        have fin : ∀ (π' : pm_T) (h5 : ah_T), hb s h5 → fr (WP v) h1 h5 → RCs t m i μ s h5 → RPc π' v h5 → PW π' → h5.2.1 (v + 3) (π' 0 3).toNat = π' 0 4 → π' 0 0 = π 0 0 + 1 → sp_part t i π = .inr (i + 1, π') → con G 0 0 0 m_Tokens_next [av_R (some 3)] h5 (fun r h9 => r = none ∧ hb s h9 ∧ QV t m s μ v (sp_part t i π) h1 (some (av_I 1)) h9) := by
          intro π' h5 hb5 f5 H5 R5 P5 B5 e0 es
          refine con_mono (tt_Reader_step hb5 H5 (hT.1 i im.1 ⟨by omega, by omega⟩)) ?_
          rintro r h9 ⟨rfl, hb9, f9, H9⟩
          refine ⟨rfl, hb9, 1, rfl, hb9, fr_t f5 f9 WT_P, Or.inr rfl, ?_⟩
          rw [es]
          exact ⟨rfl, ⟨H9, RPc_t R5 P5 f9 v24⟩, P5, by rw [fr_g f9 (by omega)]; exact B5, by show π' 0 0 + 1 ≤ ((i + 1 : Nat) : Int); omega⟩
        by_cases c91 : tK t i = 91
        · have es : sp_part t i π = .inr (i + 1, addP (opn π) (tK t i) 0 0) := by rw [sp_part, if_neg nm, if_neg hk, if_neg (by omega), if_pos c91, if_pos c6, c91]
          refine con_mono (t_Parts_open hb1 (n := k) (d := d) (H0.2.1.1.trans ek) (by omega) (H0.2.1.2.1.trans edd) (by omega) (Or.inl c91)) ?_
          rintro r h5 ⟨rfl, hb5, f5, g5⟩
          obtain ⟨A, B⟩ := RPc_addO v24 H0.2 P hB (Or.inl c91) ek edd f5 g5
          exact ⟨rfl, hb5, fin _ h5 hb5 (fr_w f5 (fun a k w => by omega)) (RCs_p H0.1 f5 hs hv (fun a k w => by omega)) A (PW_addO P c6 (Or.inl c91)) B (by rw [addP_v.1, opn_o (by omega) (by omega)]) es⟩
        · have es : sp_part t i π = .inr (i + 1, addP π (tK t i) 0 0) := by
            have c124 : tK t i = 124 := by omega
            rw [sp_part, if_neg nm, if_neg hk, if_pos c124, if_pos c6, c124]
          refine con_mono (t_Parts_add hb1 (n := k) (H0.2.1.1.trans ek) (by omega) c91 c) ?_
          rintro r h5 ⟨rfl, hb5, f5, g5⟩
          obtain ⟨A, B⟩ := RPc_addP v24 H0.2 P hB ⟨by omega, c⟩ ek f5 g5
          exact ⟨rfl, hb5, fin _ h5 hb5 (fr_w f5 (fun a k w => by omega)) (RCs_p H0.1 f5 hs hv (fun a k w => by omega)) A (PW_addP P ⟨by omega, c⟩) B addP_v.1 es⟩
    · have es : sp_part t i π = .inl (3, tP t i) := by
        rw [sp_part, if_neg nm, if_neg hk]
        rcases hK with c | c | c
        · rw [if_pos c, if_neg c6]
        · rw [if_neg (by omega), if_pos c, if_neg c6]
        · rw [if_neg (by omega), if_neg (by omega), if_pos c, if_neg c6]
      exact ⟨0, rfl, hb1, fun _ => ⟨0, rfl, hb1, fr_w f1 WT_P, Or.inl rfl, by rw [es]; exact ⟨rfl, w1, w2⟩⟩, fun d => absurd rfl d⟩
  refine c_Reader_readPart hb0 ?_
  unfold B_Reader_readPart_0
  intro x2 y2 _ _
  have ek : x2 = tK t i := y2.trans ek9
  subst ek
  refine ⟨fun c => k26 (by omega), fun c1 => ⟨fun c => k26 (by omega), fun c2 => ⟨fun c => k26 (by omega), fun c3 => ⟨fun c => k74 (by omega), fun c4 => ⟨fun c => k74 (by omega), fun c5 => ⟨fun c => k74 (by omega), fun c6 => ?_⟩⟩⟩⟩⟩⟩
  have es : sp_part t i π = .inl (cn t i) := by
    rw [sp_part, if_neg (mkb_f (by omega)), if_neg hk, if_neg c4, if_neg c5, if_neg c6]
  refine con_mono (tt_Reader_refuse hb0 H0.1.1) ?_
  rintro r h' ⟨z, rfl, hb1, f1, rfl, w1, w2⟩
  exact ⟨0, rfl, hb1, Or.inl rfl, 0, rfl, hb1, fr_w f1 WT_P, Or.inl rfl, by rw [es]; exact ⟨rfl, w1, w2⟩⟩
