/-! ===== the class: events, stretches, parts read ===== -/
theorem pch_0 {t : tk_T} {i : Nat} {g : Int} {π : pm_T} : pch t i g π 0 0 = π 0 0 := by
  unfold pch; rw [up2_o (by omega), up2_o (by omega), up2_o (by omega), up2_o (by omega), up2_o (by omega)]
theorem sp_chord_ok {t : tk_T} : ∀ (f i : Nat) (π : pm_T) (q : Nat × pm_T), sp_chord t f i π = .inr q → i + 2 ≤ q.1 ∧ q.2 0 0 = π 0 0
  | 0, _, _, _, e => by rw [sp_chord] at e; cases e
  | f + 1, i, π, q, e => by
    rw [sp_chord] at e
    split at e
    · split at e
      · cases e
      · split at e
        · cases e
        · by_cases h : π 0 2 < 300
          · rw [sp_adm_a h] at e
            simp only [bnd] at e
            split at e
            · cases e
              exact ⟨Nat.le_refl _, by show pch t i (sgt t i) (adm π) 0 0 = π 0 0; rw [pch_0, adm_o (by omega)]⟩
            · have := sp_chord_ok f (i + 1) _ q e
              exact ⟨by omega, by rw [this.2, pch_0, adm_o (by omega)]⟩
          · rw [sp_adm_n h] at e; cases e
    · cases e
theorem sp_sound_ok {t : tk_T} {i : Nat} {π : pm_T} {q : Nat × pm_T} (e : sp_sound t i π = .inr q) : i + 1 ≤ q.1 ∧ q.2 0 0 = π 0 0 := by
  have e0 : snd0 π 0 0 = π 0 0 := by unfold snd0; rw [up2_o (by omega), up2_o (by omega), up2_o (by omega)]
  rw [sp_sound] at e
  by_cases h : snd0 π 0 2 < 300
  · rw [sp_adm_a h] at e
    simp only [bnd] at e
    split at e
    · cases e
      exact ⟨Nat.le_refl _, by show adm (snd0 π) 0 0 = π 0 0; rw [adm_o (by omega), e0]⟩
    · split at e
      · cases e
        exact ⟨Nat.le_refl _, by show pch t i (sgt t i) (adm (snd0 π)) 0 0 = π 0 0; rw [pch_0, adm_o (by omega), e0]⟩
      · have := sp_chord_ok _ _ _ _ e
        exact ⟨by omega, by rw [this.2, e0]⟩
  · rw [sp_adm_n h] at e
    simp only [bnd] at e
    split at e
    · cases e
    · split at e
      · cases e
      · have := sp_chord_ok _ _ _ _ e
        exact ⟨by omega, by rw [this.2, e0]⟩
def PVc (t : tk_T) (m s : Nat) (μ : pm_T) (v : Nat) (R : F_T ⊕ (Nat × pm_T)) (z : Int) (h' : ah_T) : Prop := match R with
  | .inl q => z = 0 ∧ h'.2.1 2 6 = q.1 ∧ h'.2.1 2 7 = q.2
  | .inr q => z = 1 ∧ VE t m q.1 μ s q.2 v h'
abbrev QV (t : tk_T) (m s : Nat) (μ : pm_T) (v : Nat) (R : F_T ⊕ (Nat × pm_T)) (h : ah_T) : Option av_T → ah_T → Prop := fun r h' => ∃ z, r = some (av_I z) ∧ hb s h' ∧ fr (WP v) h h' ∧ (z = 0 ∨ z = 1) ∧ PVc t m s μ v R z h'
/-- an event's end: its tie -/
def sp_tie (t : tk_T) (i : Nat) (π : pm_T) (n : Int) (d : Nat × Int) : F_T ⊕ (Nat × pm_T) := if tK t d.1 = 126 then (if tK t i = 266 then .inl (7, tP t d.1) else .inr (d.1 + 1, addE π n d.2 1)) else .inr (d.1, addE π n d.2 0)
theorem sp_event_e {t : tk_T} {i : Nat} {π : pm_T} : sp_event t i π = bnd (sp_sound t i π) fun a => bnd (sp_num t a.1 64 true) fun n => bnd (sp_dots t 4 (a.1 + 1) 0) fun d => sp_tie t i a.2 n d := rfl
theorem t_Reader_readEvent {G : cx_T} {s v : Nat} {h : ah_T} {t : tk_T} {m i : Nat} {μ π : pm_T} (hb0 : hb s h) (hv : isV v) (hT : TG t m) (H : VE t m i μ s π v h) (hk : tK t i = 258 ∨ tK t i = 266 ∨ tK t i = 60) : con G 3 0 0 m_Reader_readEvent [av_R (some 2), av_R (some v)] h (QV t m s μ v (sp_event t i π) h) := by
  have hs : s = 17 ∨ s = 80 := hb0.2.1
  have v24 := isV_24 hv
  have gn : ∀ j, j < m → tK t j = 259 → j + 1 < m ∧ 0 ≤ tV' t j ∧ tV' t j ≤ 9999 := fun j hj hk => ⟨hT.1 j hj ⟨by omega, by omega⟩, hT.2.1 j hj hk⟩
  obtain ⟨H0, P, hB, hi⟩ := H
  have c9 := (RCs_b H0.1).1
  -- the tie and the end
  have k156 : ∀ (hh : ah_T) (ρ : pm_T) (n d w : Int) (j : Nat), hb s hh → fr (WP v) h hh → RCs t m j μ s hh → RSp ρ v hh → ρ 0 3 < ρ 0 2 → ρ 0 0 + 2 ≤ j → (1 ≤ n ∧ n ≤ 64) → (0 ≤ d ∧ d ≤ 3) → (w = 0 ∨ w = 1) → sp_event t i π = .inr (j, addE ρ n d w) → B_Reader_readEvent_156 G s v n d w hh (QV t m s μ v (sp_event t i π) h) := by
    intro hh ρ n d w j hb1 hf Hj R h32 hj hn hd hw es
    obtain ⟨r0, r1, r2, r3, r4⟩ := R.2.1.1
    obtain ⟨b, eb⟩ : ∃ b : Nat, ρ 0 3 = (b : Int) := ⟨(ρ 0 3).toNat, by omega⟩
    obtain ⟨k, ek⟩ : ∃ k : Nat, ρ 0 0 = (k : Int) := ⟨(ρ 0 0).toNat, by omega⟩
    have jm : j < m ∧ m ≤ 2001 := ⟨Hj.1.2.2.1, Hj.1.2.2.2.1⟩
    unfold B_Reader_readEvent_156
    refine con_mono (t_Voice_endSound hv hb1 (n := b) (R.1.1.2.2.2.1.trans eb) (by omega) hw) ?_
    rintro r h2 ⟨rfl, hb2, f2, g2⟩
    refine ⟨(b : Int), rfl, hb2, ?_⟩
    refine con_mono (t_Parts_add hb2 (n := k) ((fr_g f2 (by omega)).trans (R.1.1.1.trans ek)) (by omega) (by decide) (by decide)) ?_
    rintro r h3 ⟨rfl, hb3, f3, g3⟩
    obtain ⟨A, B⟩ := RPc_addE v24 R h32 eb ek f2 g2 f3 g3
    have Hx := RCs_p (RCs_p Hj f2 hs hv (fun a k w => by omega)) f3 hs hv (fun a k w => by omega)
    refine ⟨rfl, hb3, 1, rfl, hb3, fr_t (fr_t hf f2 (fun a k w => by omega)) f3 (fun a k w => by omega), Or.inr rfl, ?_⟩
    rw [es]
    exact ⟨rfl, ⟨Hx, A⟩, PW_addE R.2.1 R.2.2.1 h32 hn hd hw, B, by show addE ρ n d w 0 0 + 1 ≤ (j : Int); rw [addE_0.1]; omega⟩
  refine c_Reader_readEvent hv (X49 := fun v2 v3 v4 v5 hh => v5 = v4 ∧ fr (WP v) h hh ∧ v2 = (if tK t i = 266 then 1 else 0) ∧ (1 ≤ v3 ∧ v3 ≤ 64) ∧ (0 ≤ v4 ∧ v4 ≤ 3) ∧ ∃ (j : Nat) (ρ : pm_T) (f : Nat), RCs t m j μ s hh ∧ RSp ρ v hh ∧ ρ 0 3 < ρ 0 2 ∧ ρ 0 0 + 2 ≤ j ∧ (f : Int) = 4 - v4 ∧ sp_event t i π = bnd (sp_dots t f j v4) fun d => sp_tie t i ρ v3 d) ?_ hb0 ?_
  · refine lp_Reader_readEvent_49 hv _ (fun _ _ v4 _ _ => (4 - v4).toNat) ?_
    rintro v2 v3 v4 v5 hh hb1 ⟨rfl, hf, e2, h64, hd, j, ρ, f, Hj, R, h32, hj, ef, es⟩
    obtain ⟨d9, d10, d11, d12⟩ := RCs_b Hj
    obtain ⟨f', rfl⟩ : ∃ f', f = f' + 1 := ⟨f - 1, by omega⟩
    rw [sp_dots] at es
    unfold B_Reader_readEvent_49
    refine ⟨fun c => by omega, fun _ x2 y2 _ _ => ⟨fun c => ⟨fun c3 x10 y10 _ _ => ?_, fun c3 => ⟨⟨by omega, by omega⟩, ?_⟩⟩, fun c => ?_⟩⟩
    · rw [if_pos (by omega), if_pos c3] at es
      refine con_mono (tt_Reader_blame hb1) ?_
      rintro r h' ⟨z, rfl, hb2, f2, rfl, w1, w2⟩
      exact ⟨0, rfl, hb2, Or.inl rfl, 0, rfl, hb2, fr_t hf f2 WT_P, Or.inl rfl, by rw [es]; exact ⟨rfl, w1, by rw [w2, y10, d10]⟩⟩
    · have hk46 : tK t j = 46 := by omega
      rw [if_pos hk46, if_neg c3] at es
      refine con_mono (tt_Reader_step hb1 Hj (hT.1 _ Hj.1.2.2.1 (gk_of hk46 (by decide) (by decide)))) ?_
      rintro r h' ⟨rfl, hb2, f2, H2⟩
      exact ⟨rfl, hb2, ⟨by omega, by omega⟩, ⟨rfl, fr_t hf f2 WT_P, e2, h64, ⟨by omega, by omega⟩, j + 1, ρ, f', H2, RSp_t v24 R f2, h32, by omega, by omega, es⟩, by omega⟩
    · rw [if_neg (by omega)] at es
      simp only [bnd, sp_tie] at es
      unfold B_Reader_readEvent_102
      intro x y _ _
      have ex : x = tK t j := y.trans d9
      refine ⟨fun c2 => ?_, fun c2 => ?_⟩
      · have h126 : tK t j = 126 := by omega
        rw [if_pos h126] at es
        unfold B_Reader_readEvent_119
        refine ⟨fun d => absurd d (by decide), fun _ => ⟨fun d => ?_, fun d x3 y3 _ _ => ?_⟩⟩
        · have hr : ¬ tK t i = 266 := fun w => by rw [if_pos w] at e2; omega
          rw [if_neg hr] at es
          unfold B_Reader_readEvent_144
          refine ⟨fun d => absurd d (by decide), fun _ => ?_⟩
          refine con_mono (tt_Reader_step hb1 Hj (hT.1 _ Hj.1.2.2.1 (gk_of h126 (by decide) (by decide)))) ?_
          rintro r h' ⟨rfl, hb2, f2, H2⟩
          exact ⟨rfl, hb2, k156 h' ρ v3 _ 1 (j + 1) hb2 (fr_t hf f2 WT_P) H2 (RSp_t v24 R f2) h32 (by omega) h64 hd (Or.inr rfl) es⟩
        · have hr : tK t i = 266 := by
            by_cases w : tK t i = 266
            · exact w
            · rw [if_neg w] at e2; exact absurd e2 d
          rw [if_pos hr] at es
          refine con_mono (tt_Reader_blame hb1) ?_
          rintro r h' ⟨z, rfl, hb2, f2, rfl, w1, w2⟩
          exact ⟨0, rfl, hb2, Or.inl rfl, 0, rfl, hb2, fr_t hf f2 WT_P, Or.inl rfl, by rw [es]; exact ⟨rfl, w1, by rw [w2, y3, d10]⟩⟩
      · rw [if_neg (by omega)] at es
        unfold B_Reader_readEvent_119 B_Reader_readEvent_144
        exact ⟨fun _ => ⟨fun _ => k156 hh ρ v3 _ 0 j hb1 hf Hj R h32 hj h64 hd (Or.inl rfl) es, fun d => absurd rfl d⟩, fun d => absurd rfl d⟩
  · have k18 : ∀ t0, t0 = (if tK t i = 266 then 1 else 0) → B_Reader_readEvent_18 G s v t0 h (QV t m s μ v (sp_event t i π) h) (fun v2 v3 v4 v5 hh => v5 = v4 ∧ fr (WP v) h hh ∧ v2 = (if tK t i = 266 then 1 else 0) ∧ (1 ≤ v3 ∧ v3 ≤ 64) ∧ (0 ≤ v4 ∧ v4 ≤ 3) ∧ ∃ (j : Nat) (ρ : pm_T) (f : Nat), RCs t m j μ s hh ∧ RSp ρ v hh ∧ ρ 0 3 < ρ 0 2 ∧ ρ 0 0 + 2 ≤ j ∧ (f : Int) = 4 - v4 ∧ sp_event t i π = bnd (sp_dots t f j v4) fun d => sp_tie t i ρ v3 d) := by
      intro t0 et
      unfold B_Reader_readEvent_18
      have es := sp_event_e (t := t) (i := i) (π := π)
      refine con_mono (t_Reader_readSound hb0 hv hT H0 P hB hk) ?_
      rintro r h1 ⟨z, rfl, hb1, f1, z01, p1⟩
      rcases n1 : sp_sound t i π with q | a
      · rw [n1] at p1 es
        obtain ⟨rfl, p1⟩ := p1
        exact ⟨0, rfl, hb1, fun _ => ⟨0, rfl, hb1, f1, Or.inl rfl, by rw [es]; exact ⟨rfl, p1⟩⟩, fun d => absurd rfl d⟩
      rw [n1] at p1 es
      obtain ⟨rfl, H1, P1, S1, C1, h32⟩ := p1
      obtain ⟨o1, o2⟩ := sp_sound_ok n1
      simp only [bnd] at es
      refine ⟨1, rfl, hb1, fun d => absurd d (by decide), fun _ => ?_⟩
      refine con_mono (tt_Reader_readNumber (pw := true) hb1 H1.1 (gn _ H1.1.1.2.2.1) rfl (by decide)) ?_
      rintro r h4 ⟨z4, rfl, hb4, f4, p4⟩
      have fx := fr_t f1 f4 WT_P
      rcases n2 : sp_num t a.1 64 true with q | n
      · rw [n2] at p4 es
        obtain ⟨rfl, p4⟩ := p4
        exact ⟨0, rfl, hb4, fun _ => ⟨0, rfl, hb4, fx, Or.inl rfl, by rw [es]; exact ⟨rfl, p4⟩⟩, fun d => absurd rfl d⟩
      rw [n2] at p4 es
      obtain ⟨rfl, y1, y2, H4⟩ := p4
      refine ⟨z4, rfl, hb4, fun d => by omega, fun _ => ⟨rfl, fx, et, ⟨y1, y2⟩, ⟨by decide, by decide⟩, a.1 + 1, a.2, 4, H4, RSp_t v24 ⟨H1.2, P1, S1, C1⟩ f4, h32, by omega, by decide, es⟩⟩
    unfold B_Reader_readEvent_0
    intro x2 y2 _ _
    exact ⟨fun c => k18 1 (by rw [if_pos (by omega)]), fun c => k18 0 (by rw [if_neg (by omega)])⟩
theorem t_Reader_isShallow {G : cx_T} {s : Nat} {h : ah_T} {t : tk_T} {m i : Nat} {μ : pm_T} {d : Int} (hb0 : hb s h) (H : RCs t m i μ s h) (hd : h.2.1 9 7 = d) : con G 1 0 0 m_Reader_isShallow [av_R (some 2)] h (fun r h' => ∃ z, r = some (av_I z) ∧ hb s h' ∧ fr WT h h' ∧ ((d ≤ 6 ∧ z = 1 ∧ h' = h) ∨ (¬ d ≤ 6 ∧ z = 0 ∧ h'.2.1 2 6 = 3 ∧ h'.2.1 2 7 = tP t i))) := by
  refine c_Reader_isShallow hb0 ?_
  unfold B_Reader_isShallow_0 B_Reader_isShallow_27 B_Reader_isShallow_32
  intro x2 y2 _ _
  refine ⟨fun c => ⟨by omega, 1, rfl, hb0, fr_0, Or.inl ⟨by omega, rfl, rfl⟩⟩, fun c x4 y4 _ _ => ?_⟩
  refine con_mono (tt_Reader_blame hb0) ?_
  rintro r h' ⟨z, rfl, hb2, f2, rfl, w1, w2⟩
  exact ⟨0, rfl, hb2, fun _ => ⟨by omega, 0, rfl, hb2, f2, Or.inr ⟨by omega, rfl, w1, by rw [w2, y4, (RCs_b H).2.1]⟩⟩, fun d => absurd rfl d⟩
theorem t_Reader_beginsEvent {G : cx_T} {s : Nat} {h : ah_T} {t : tk_T} {m i : Nat} {μ : pm_T} (hb0 : hb s h) (H : RCs t m i μ s h) : con G 0 0 0 m_Reader_beginsEvent [av_R (some 2)] h (fun r h' => hb s h' ∧ h' = h ∧ ((r = some (av_I 1) ∧ (tK t i = 258 ∨ tK t i = 266 ∨ tK t i = 60)) ∨ (r = some (av_I 0) ∧ ¬ (tK t i = 258 ∨ tK t i = 266 ∨ tK t i = 60)))) := by
  refine c_Reader_beginsEvent hb0 ?_
  unfold B_Reader_beginsEvent_0 B_Reader_beginsEvent_38 B_Reader_beginsEvent_43
  intro x2 y2 _ _
  have ek : x2 = tK t i := y2.trans (RCs_b H).1
  exact ⟨fun c => ⟨by omega, hb0, rfl, Or.inl ⟨rfl, by omega⟩⟩, fun c => ⟨fun c1 => ⟨by omega, hb0, rfl, Or.inl ⟨rfl, by omega⟩⟩, fun c1 => ⟨fun c2 => ⟨by omega, hb0, rfl, Or.inl ⟨rfl, by omega⟩⟩, fun c2 => ⟨by omega, hb0, rfl, Or.inr ⟨rfl, by omega⟩⟩⟩⟩⟩

/-! ===== the class: stretches, parts read ===== -/
theorem sp_num_le {t : tk_T} {i : Nat} {most v : Int} {pw : Bool} (e : sp_num t i most pw = .inr v) : 1 ≤ v ∧ v ≤ most := by
  unfold sp_num at e
  split at e
  · split at e
    · rename_i h
      cases e; exact h.1
    · cases e
  · cases e
theorem t_Reader_readStretch {G : cx_T} {s v : Nat} {h : ah_T} {t : tk_T} {m i : Nat} {μ π : pm_T} (hb0 : hb s h) (hv : isV v) (hT : TG t m) (H : VE t m i μ s π v h) (hk : tK t i = 123) (h6 : π 0 1 ≤ 6) : con G 2 0 0 m_Reader_readStretch [av_R (some 2)] h (QV t m s μ v (sp_times t i π) h) := by
  have hs : s = 17 ∨ s = 80 := hb0.2.1
  have v24 := isV_24 hv
  have gn : ∀ j, j < m → tK t j = 259 → j + 1 < m ∧ 0 ≤ tV' t j ∧ tV' t j ≤ 9999 := fun j hj hk => ⟨hT.1 j hj ⟨by omega, by omega⟩, hT.2.1 j hj hk⟩
  obtain ⟨H0, P, hB, hi⟩ := H
  have ed : sp_times t i π = bnd (sp_num t (i + 1) 16 false) fun a => bnd (sp_take t (i + 2) 47) fun _ => bnd (sp_num t (i + 3) 16 false) fun b => bnd (sp_take t (i + 4) 58) fun _ => .inr (i + 5, addP (opn π) 123 a b) := rfl
  refine c_Reader_readStretch hb0 ?_
  unfold B_Reader_readStretch_0 B_Reader_readStretch_28 B_Reader_readStretch_51
  refine con_mono (tt_Reader_step hb0 H0.1 (hT.1 i H0.1.1.2.2.1 (gk_of hk (by decide) (by decide)))) ?_
  rintro r h2 ⟨rfl, hb2, f2, H2⟩
  refine ⟨rfl, hb2, ?_⟩
  refine con_mono (tt_Reader_readNumber (pw := false) hb2 H2 (gn _ H2.1.2.2.1) rfl (by decide)) ?_
  rintro r h5 ⟨z7, rfl, hb5, f5, p5⟩
  have f25 := fr_t f2 f5 (fun _ _ w => w)
  rcases n1 : sp_num t (i + 1) 16 false with q | a
  · rw [n1] at p5 ed
    obtain ⟨rfl, p5⟩ := p5
    exact ⟨0, rfl, hb5, fun _ => ⟨0, rfl, hb5, fr_w f25 WT_P, Or.inl rfl, by rw [ed]; exact ⟨rfl, p5⟩⟩, fun d => absurd rfl d⟩
  rw [n1] at p5 ed
  obtain ⟨rfl, -, -, H5⟩ := p5
  have b1 := sp_num_le n1
  simp only [bnd] at ed
  refine ⟨z7, rfl, hb5, fun d => by omega, fun _ => ?_⟩
  refine con_mono (tt_Reader_take (k := 47) hb5 H5 (fun w => hT.1 _ H5.1.2.2.1 (gk_of w (by decide) (by decide)))) ?_
  rintro r h8 ⟨z10, rfl, hb8, f8, -, p8⟩
  have f58 := fr_t f25 f8 (fun _ _ w => w)
  rcases t1 : sp_take t (i + 2) 47 with q | u
  · rw [t1] at p8 ed
    obtain ⟨rfl, p8⟩ := p8
    exact ⟨0, rfl, hb8, fun _ => ⟨0, rfl, hb8, fr_w f58 WT_P, Or.inl rfl, by rw [ed]; exact ⟨rfl, p8⟩⟩, fun d => absurd rfl d⟩
  rw [t1] at p8 ed
  obtain ⟨rfl, H8⟩ := p8
  dsimp only at ed
  refine ⟨1, rfl, hb8, fun d => absurd d (by decide), fun _ => ?_⟩
  refine con_mono (tt_Reader_readNumber (pw := false) hb8 H8 (gn _ H8.1.2.2.1) rfl (by decide)) ?_
  rintro r h11 ⟨z13, rfl, hb11, f11, p11⟩
  have f811 := fr_t f58 f11 (fun _ _ w => w)
  rcases n2 : sp_num t (i + 3) 16 false with q | b
  · rw [n2] at p11 ed
    obtain ⟨rfl, p11⟩ := p11
    exact ⟨0, rfl, hb11, fun _ => ⟨0, rfl, hb11, fr_w f811 WT_P, Or.inl rfl, by rw [ed]; exact ⟨rfl, p11⟩⟩, fun d => absurd rfl d⟩
  rw [n2] at p11 ed
  obtain ⟨rfl, -, -, H11⟩ := p11
  have b2 := sp_num_le n2
  dsimp only at ed
  refine ⟨z13, rfl, hb11, fun d => by omega, fun _ => ?_⟩
  refine con_mono (tt_Reader_take (k := 58) hb11 H11 (fun w => hT.1 _ H11.1.2.2.1 (gk_of w (by decide) (by decide)))) ?_
  rintro r h14 ⟨z16, rfl, hb14, f14, -, p14⟩
  have fx := fr_t f811 f14 (fun _ _ w => w)
  rcases t2 : sp_take t (i + 4) 58 with q | u
  · rw [t2] at p14 ed
    obtain ⟨rfl, p14⟩ := p14
    exact ⟨0, rfl, hb14, fun _ => ⟨0, rfl, hb14, fr_w fx WT_P, Or.inl rfl, by rw [ed]; exact ⟨rfl, p14⟩⟩, fun d => absurd rfl d⟩
  rw [t2] at p14 ed
  obtain ⟨rfl, H14⟩ := p14
  dsimp only at ed
  refine ⟨1, rfl, hb14, fun d => absurd d (by decide), fun _ => ?_⟩
  have R14 := RPc_t H0.2 P fx v24
  have B14 : h14.2.1 (v + 3) (π 0 3).toNat = π 0 4 := by rw [fr_g fx (by omega)]; exact hB
  obtain ⟨p0, p1, p2, p3, p4⟩ := P.1
  obtain ⟨k, ek⟩ : ∃ k : Nat, π 0 0 = (k : Int) := ⟨(π 0 0).toNat, by omega⟩
  obtain ⟨d, edd⟩ : ∃ d : Nat, π 0 1 = (d : Int) := ⟨(π 0 1).toNat, by omega⟩
  have im : i < m ∧ m ≤ 2001 := ⟨H0.1.1.2.2.1, H0.1.1.2.2.2.1⟩
  refine con_mono (t_Parts_open hb14 (n := k) (d := d) (R14.1.1.trans ek) (by omega) (R14.1.2.1.trans edd) (by omega) (Or.inr rfl)) ?_
  rintro r h18 ⟨rfl, hb18, f18, g18⟩
  obtain ⟨A, B⟩ := RPc_addO v24 R14 P B14 (Or.inr rfl) ek edd f18 g18
  have Hx := RCs_p H14 f18 hs hv (fun a k w => by omega)
  refine ⟨rfl, hb18, 1, rfl, hb18, fr_t (fr_w fx WT_P) f18 (fun a k w => by omega), Or.inr rfl, ?_⟩
  rw [ed]
  refine ⟨rfl, ⟨Hx, A⟩, PW_addO P h6 (Or.inr ⟨rfl, b1, b2⟩), B, ?_⟩
  show addP (opn π) 123 z7 z13 0 0 + 1 ≤ ((i + 5 : Nat) : Int)
  rw [addP_v.1, opn_o (by omega) (by omega)]; omega
theorem mkb_t {π : pm_T} {K : Int} (hK : K = 58 ∨ K = 93 ∨ K = 125) : mkb π K = true ↔ 0 < π 0 1 ∧ π 1 (top π) = (if K = 125 then 123 else 91) := by
  unfold mkb
  rcases hK with rfl | rfl | rfl <;> simp
theorem mkb_f {π : pm_T} {K : Int} (hK : ¬ (K = 58 ∨ K = 93 ∨ K = 125)) : ¬ mkb π K = true := by
  unfold mkb
  simp only [Bool.and_eq_true, Bool.or_eq_true, beq_iff_eq]
  omega
theorem t_Reader_readPart {G : cx_T} {s v : Nat} {h : ah_T} {t : tk_T} {m i : Nat} {μ π : pm_T} (hb0 : hb s h) (hv : isV v) (hT : TG t m) (H : VE t m i μ s π v h) (hk : ¬ (tK t i = 258 ∨ tK t i = 266 ∨ tK t i = 60)) : con G 3 0 0 m_Reader_readPart [av_R (some 2)] h (QV t m s μ v (sp_part t i π) h) := by
  have hs : s = 17 ∨ s = 80 := hb0.2.1
  have v24 := isV_24 hv
  have HH := H
  obtain ⟨H0, P, hB, hi⟩ := H
  obtain ⟨p0, p1, p2, p3, p4⟩ := P.1
  have im : i < m ∧ m ≤ 2001 := ⟨H0.1.1.2.2.1, H0.1.1.2.2.2.1⟩
  obtain ⟨k, ek⟩ : ∃ k : Nat, π 0 0 = (k : Int) := ⟨(π 0 0).toNat, by omega⟩
  obtain ⟨d, edd⟩ : ∃ d : Nat, π 0 1 = (d : Int) := ⟨(π 0 1).toNat, by omega⟩
  have edp : dp π = d := by unfold dp; omega
  have ek9 := (RCs_b H0.1).1
  -- a mark
  have k26 : (tK t i = 58 ∨ tK t i = 93 ∨ tK t i = 125) → B_Reader_readPart_26 G s (tK t i) h (QV t m s μ v (sp_part t i π) h) := by
    intro hK
    obtain ⟨o, l, hol⟩ : ∃ o l : Nat, 0 < d → π 15 (d - 1) = (o : Int) ∧ π 16 (d - 1) = (l : Int) ∧ o < k ∧ l < k := by
      by_cases c : 0 < d
      · have hD := P.2.1 (d - 1) (by omega)
        unfold PD at hD
        exact ⟨(π 15 (d - 1)).toNat, (π 16 (d - 1)).toNat, fun _ => by omega⟩
      · exact ⟨0, 0, fun w => absurd w c⟩
    unfold B_Reader_readPart_26
    refine con_mono (t_Parts_addMark hb0 (n := k) (d := d) (o := o) (l := l) (H0.2.1.1.trans ek) (by omega) (H0.2.1.2.1.trans edd) (by omega) hK (fun c => ?_)) ?_
    · obtain ⟨q1, q2, q3, q4⟩ := hol c
      have := H0.2.2.1 (d - 1) (by omega)
      exact ⟨this.1.trans q1, this.2.trans q2, q3, q4⟩
    · have ec : (0 < d ∧ h.2.1 10 o = (if tK t i = 125 then 123 else 91)) ↔ mkb π (tK t i) = true := by
        rw [mkb_t hK]
        constructor
        · rintro ⟨c, e⟩
          obtain ⟨q1, q2, q3, q4⟩ := hol c
          have et : top π = o := by unfold top; rw [edp, q1]; exact tn_c o
          rw [et, ← e, (H0.2.2.2 o (by omega)).1.1]; exact ⟨by omega, rfl⟩
        · rintro ⟨c, e⟩
          have c : 0 < d := by omega
          obtain ⟨q1, q2, q3, q4⟩ := hol c
          have et : top π = o := by unfold top; rw [edp, q1]; exact tn_c o
          rw [et] at e
          exact ⟨c, by rw [(H0.2.2.2 o (by omega)).1.1]; exact e⟩
      rintro r h2 ⟨hb2, ⟨rfl, rfl, nc⟩ | ⟨rfl, cc, f2, g2⟩⟩
      · have es : sp_part t i π = .inl (cn t i) := by
          rw [sp_part, if_neg (fun w => nc (ec.mpr w)), if_neg hk, if_neg (by omega), if_neg (by omega), if_neg (by omega)]
        refine ⟨0, rfl, hb2, fun _ => ?_, fun d => absurd rfl d⟩
        refine con_mono (tt_Reader_refuse hb2 H0.1.1) ?_
        rintro r h' ⟨z, rfl, hb1, f1, rfl, w1, w2⟩
        exact ⟨0, rfl, hb1, Or.inl rfl, 0, rfl, hb1, fr_w f1 WT_P, Or.inl rfl, by rw [es]; exact ⟨rfl, w1, w2⟩⟩
      · obtain ⟨q1, q2, q3, q4⟩ := hol cc.1
        have es : sp_part t i π = .inr (i + 1, addM π (tK t i)) := by rw [sp_part, if_pos (ec.mp cc)]
        have hD := P.2.1 (d - 1) (by omega)
        have el : (π 16 (dp π - 1)).toNat ≠ sz π := by rw [edp, q2]; unfold sz; omega
        have z1 := (addM_v (K := tK t i) el).2.1
        have z0 := (addM_v (K := tK t i) el).1
        obtain ⟨A, B⟩ := RPc_addM (K := tK t i) v24 H0.2 P hB ⟨by omega, by omega⟩ (by omega) ek edd q2 f2 ⟨g2.1, g2.2.1, g2.2.2.1, g2.2.2.2.1, g2.2.2.2.2.1, by rw [g2.2.2.2.2.2, z1, edd]⟩
        have H2 := RCs_p H0.1 f2 hs hv (fun a k w => by omega)
        have P2 := PW_addM (K := tK t i) P (by omega) hK
        refine ⟨1, rfl, hb2, fun d => absurd d (by decide), fun _ => ?_⟩
        refine con_mono (tt_Reader_step hb2 H2 (hT.1 i im.1 ⟨by omega, by omega⟩)) ?_
        rintro r h6 ⟨rfl, hb6, f6, H6⟩
        refine ⟨rfl, hb6, 1, rfl, hb6, fr_t (fr_w f2 (fun a k w => by omega)) f6 WT_P, Or.inr rfl, ?_⟩
        rw [es]
        refine ⟨rfl, ⟨H6, RPc_t A P2 f6 v24⟩, P2, by rw [fr_g f6 (by omega)]; exact B, ?_⟩
        show addM π (tK t i) 0 0 + 1 ≤ ((i + 1 : Nat) : Int)
        rw [z0]; omega
  -- a | or a bracket
  have k74 : (tK t i = 124 ∨ tK t i = 91 ∨ tK t i = 123) → B_Reader_readPart_74 G s (tK t i) h (QV t m s μ v (sp_part t i π) h) := by
    intro hK
    have nm : ¬ mkb π (tK t i) = true := mkb_f (by omega)
    unfold B_Reader_readPart_74
    refine con_mono (t_Reader_isShallow hb0 H0.1 H0.2.1.2.1) ?_
    rintro r h1 ⟨z, rfl, hb1, f1, ⟨c6, rfl, rfl⟩ | ⟨c6, rfl, w1, w2⟩⟩
    · refine ⟨1, rfl, hb1, fun d => absurd d (by decide), fun _ => ⟨fun c => ?_, fun c => ?_⟩⟩
      · have es : sp_part t i π = sp_times t i π := by rw [sp_part, if_neg nm, if_neg hk, if_neg (by omega), if_neg (by omega), if_pos c, if_pos c6]
        refine con_mono (t_Reader_readStretch hb1 hv hT HH c c6) ?_
        rintro r h' ⟨z, rfl, hb2, f2, z01, p2⟩
        exact ⟨z, rfl, hb2, z01, z, rfl, hb2, f2, z01, by rw [es]; exact p2⟩
      · -- | or [
        have fin : ∀ (π' : pm_T) (h5 : ah_T), hb s h5 → fr (WP v) h1 h5 → RCs t m i μ s h5 → RPc π' v h5 → PW π' → h5.2.1 (v + 3) (π' 0 3).toNat = π' 0 4 → π' 0 0 = π 0 0 + 1 → sp_part t i π = .inr (i + 1, π') → con G 0 0 0 m_Tokens_next [av_R (some 3)] h5 (fun r h9 => r = none ∧ hb s h9 ∧ QV t m s μ v (sp_part t i π) h1 (some (av_I 1)) h9) := by
          intro π' h5 hb5 f5 H5 R5 P5 B5 e0 es
          refine con_mono (tt_Reader_step hb5 H5 (hT.1 i im.1 ⟨by omega, by omega⟩)) ?_
          rintro r h9 ⟨rfl, hb9, f9, H9⟩
          refine ⟨rfl, hb9, 1, rfl, hb9, fr_t f5 f9 WT_P, Or.inr rfl, ?_⟩
          rw [es]
          exact ⟨rfl, ⟨H9, RPc_t R5 P5 f9 v24⟩, P5, by rw [fr_g f9 (by omega)]; exact B5, by show π' 0 0 + 1 ≤ ((i + 1 : Nat) : Int); omega⟩
        by_cases c91 : tK t i = 91
        · have es : sp_part t i π = .inr (i + 1, addP (opn π) (tK t i) 0 0) := by rw [sp_part, if_neg nm, if_neg hk, if_neg (by omega), if_pos c91, if_pos c6, c91]
          refine con_mono (t_Parts_open hb1 (n := k) (d := d) (H0.2.1.1.trans ek) (by omega) (H0.2.1.2.1.trans edd) (by omega) (Or.inl c91)) ?_
          rintro r h5 ⟨rfl, hb5, f5, g5⟩
          obtain ⟨A, B⟩ := RPc_addO v24 H0.2 P hB (Or.inl c91) ek edd f5 g5
          exact ⟨rfl, hb5, fin _ h5 hb5 (fr_w f5 (fun a k w => by omega)) (RCs_p H0.1 f5 hs hv (fun a k w => by omega)) A (PW_addO P c6 (Or.inl c91)) B (by rw [addP_v.1, opn_o (by omega) (by omega)]) es⟩
        · have es : sp_part t i π = .inr (i + 1, addP π (tK t i) 0 0) := by
            have c124 : tK t i = 124 := by omega
            rw [sp_part, if_neg nm, if_neg hk, if_pos c124, if_pos c6, c124]
          refine con_mono (t_Parts_add hb1 (n := k) (H0.2.1.1.trans ek) (by omega) c91 c) ?_
          rintro r h5 ⟨rfl, hb5, f5, g5⟩
          obtain ⟨A, B⟩ := RPc_addP v24 H0.2 P hB ⟨by omega, c⟩ ek f5 g5
          exact ⟨rfl, hb5, fin _ h5 hb5 (fr_w f5 (fun a k w => by omega)) (RCs_p H0.1 f5 hs hv (fun a k w => by omega)) A (PW_addP P ⟨by omega, c⟩) B addP_v.1 es⟩
    · have es : sp_part t i π = .inl (3, tP t i) := by
        rw [sp_part, if_neg nm, if_neg hk]
        rcases hK with c | c | c
        · rw [if_pos c, if_neg c6]
        · rw [if_neg (by omega), if_pos c, if_neg c6]
        · rw [if_neg (by omega), if_neg (by omega), if_pos c, if_neg c6]
      exact ⟨0, rfl, hb1, fun _ => ⟨0, rfl, hb1, fr_w f1 WT_P, Or.inl rfl, by rw [es]; exact ⟨rfl, w1, w2⟩⟩, fun d => absurd rfl d⟩
  refine c_Reader_readPart hb0 ?_
  unfold B_Reader_readPart_0
  intro x2 y2 _ _
  have ek : x2 = tK t i := y2.trans ek9
  subst ek
  refine ⟨fun c => k26 (by omega), fun c1 => ⟨fun c => k26 (by omega), fun c2 => ⟨fun c => k26 (by omega), fun c3 => ⟨fun c => k74 (by omega), fun c4 => ⟨fun c => k74 (by omega), fun c5 => ⟨fun c => k74 (by omega), fun c6 => ?_⟩⟩⟩⟩⟩⟩
  have es : sp_part t i π = .inl (cn t i) := by
    rw [sp_part, if_neg (mkb_f (by omega)), if_neg hk, if_neg c4, if_neg c5, if_neg c6]
  refine con_mono (tt_Reader_refuse hb0 H0.1.1) ?_
  rintro r h' ⟨z, rfl, hb1, f1, rfl, w1, w2⟩
  exact ⟨0, rfl, hb1, Or.inl rfl, 0, rfl, hb1, fr_w f1 WT_P, Or.inl rfl, by rw [es]; exact ⟨rfl, w1, w2⟩⟩

/-! ===== the class: a voice read, the WALK aside ===== -/
/-- a fault has a number -/
def NF {β : Type} (R : F_T ⊕ β) : Prop := ∀ q, R = .inl q → q.1 ≠ 0
theorem NF_r {β : Type} {x : β} : NF (.inr x : F_T ⊕ β) := fun q e => by cases e
theorem NF_l {β : Type} {a b : Int} (h : a ≠ 0) : NF (.inl (a, b) : F_T ⊕ β) := fun q e => by cases e; exact h
theorem NF_c {β : Type} {t : tk_T} {i : Nat} : NF (.inl (cn t i) : F_T ⊕ β) := NF_l (by split <;> decide)
theorem NF_b {β γ : Type} {x : F_T ⊕ β} {f : β → F_T ⊕ γ} (h : NF x) (h2 : ∀ b, NF (f b)) : NF (bnd x f) := by
  rcases x with q | b
  · intro q' e; cases e; exact h q rfl
  · exact h2 b
theorem NF_i {β : Type} {p : Prop} [Decidable p] {x y : F_T ⊕ β} (h : NF x) (h2 : NF y) : NF (if p then x else y) := by split <;> assumption
theorem NF_n {t : tk_T} {i : Nat} {most : Int} {pw : Bool} : NF (sp_num t i most pw) := NF_i (NF_i NF_r (NF_l (by decide))) NF_c
theorem NF_t {t : tk_T} {i : Nat} {k : Int} : NF (sp_take t i k) := NF_i NF_r NF_c
theorem NF_a {t : tk_T} {i : Nat} {π : pm_T} : NF (sp_adm t i π) := NF_i NF_r (NF_l (by decide))
theorem NF_ch {t : tk_T} : ∀ (f i : Nat) (π : pm_T), NF (sp_chord t f i π)
  | 0, _, _ => NF_l (by decide)
  | f + 1, i, π => NF_i (NF_i (NF_l (by decide)) (NF_i (NF_l (by split <;> decide)) (NF_b NF_a (fun _ => NF_i NF_r (NF_ch f _ _))))) NF_c
theorem NF_s {t : tk_T} {i : Nat} {π : pm_T} : NF (sp_sound t i π) := NF_i (NF_b NF_a (fun _ => NF_r)) (NF_i (NF_b NF_a (fun _ => NF_r)) (NF_ch _ _ _))
theorem NF_d {t : tk_T} : ∀ (f i : Nat) (d : Int), NF (sp_dots t f i d)
  | 0, _, _ => NF_l (by decide)
  | f + 1, i, d => NF_i (NF_i (NF_l (by decide)) (NF_d f _ _)) NF_r
theorem NF_e {t : tk_T} {i : Nat} {π : pm_T} : NF (sp_event t i π) := NF_b NF_s (fun _ => NF_b NF_n (fun _ => NF_b (NF_d _ _ _) (fun _ => NF_i (NF_i (NF_l (by decide)) NF_r) NF_r)))
theorem NF_x {t : tk_T} {i : Nat} {π : pm_T} : NF (sp_times t i π) := NF_b NF_n (fun _ => NF_b NF_t (fun _ => NF_b NF_n (fun _ => NF_b NF_t (fun _ => NF_r))))
theorem NF_p {t : tk_T} {i : Nat} {π : pm_T} : NF (sp_part t i π) := NF_i NF_r (NF_i (NF_i NF_e (NF_l (by decide))) (NF_i (NF_i NF_r (NF_l (by decide))) (NF_i (NF_i NF_r (NF_l (by decide))) (NF_i (NF_i NF_x (NF_l (by decide))) NF_c))))
theorem t_Score_newVoice {G : cx_T} {s : Nat} {h : ah_T} {t : tk_T} {m i : Nat} {μ : pm_T} (hb0 : hb s h) (H : RCs t m i μ s h) : con G 1 0 0 m_Score_newVoice [av_R (some s)] h (fun r h' => hb s h' ∧ ((∃ v, v = s + 7 + 14 * (μ 0 7).toNat ∧ isV v ∧ μ 0 7 < 4 ∧ r = some (av_R (some v)) ∧ RCs t m i (up2 μ 0 7 (μ 0 7 + 1)) s h' ∧ fr (fun a k => (a = s ∧ k = 1) ∨ (a = v ∧ (k = 2 ∨ k = 7)) ∨ (a = v + 3 ∧ k = 0)) h h' ∧ h'.2.1 v 2 = 0 ∧ h'.2.1 v 7 = 0 ∧ h'.2.1 (v + 3) 0 = 0) ∨ (¬ μ 0 7 < 4 ∧ r = some (av_R none) ∧ h' = h))) := by
  have hs : s = 17 ∨ s = 80 := hb0.2.1
  obtain ⟨⟨a0, a1, a2, a3, a4, a5, a6, a7⟩, ⟨b3, b4, b5, b6, b7⟩, l, ru, ro, na⟩ := H.2.1
  refine c_Score_newVoice hb0 ?_
  unfold B_Score_newVoice_0 B_Score_newVoice_44
  intro x1 e1 _ _
  have ex : x1 = μ 0 7 := e1.trans a7
  subst ex
  refine ⟨fun c => ⟨⟨by omega, by omega⟩, fun h5 e5 => ⟨⟨by omega, by omega⟩, ⟨by omega, by omega⟩, ?_⟩⟩, fun c => ⟨hb0, Or.inr ⟨c, rfl, rfl⟩⟩⟩
  have hv : isV (s + 7 + 14 * (μ 0 7).toNat) := by unfold isV; omega
  generalize ev : s + 7 + 14 * (μ 0 7).toNat = v at hv ⊢
  refine con_mono (t_Voice_clear hv (hb_i hb0 e5)) ?_
  rintro r h12 ⟨rfl, hb12, f12, q1, q2, q3⟩
  have hv' := hv
  unfold isV at hv'
  refine ⟨rfl, hb12, hb12, Or.inl ⟨v, rfl, hv, c, rfl, ?_, fr_t (fr_i fr_0 e5 (Or.inl ⟨rfl, rfl⟩)) f12 (fun a k w => Or.inr w), q1, q2, q3⟩⟩
  have g : ∀ x j, x ≤ 16 ∨ (s ≤ x ∧ x ≤ s + 6) → ¬ (x = s ∧ j = 1) → h12.2.1 x j = h.2.1 x j := fun x j q q2 => (fr_g f12 (by omega)).trans (mm_i e5 q2)
  have fx : fr (fun a k => (a = s ∧ k = 1) ∨ (a = v ∧ (k = 2 ∨ k = 7)) ∨ (a = v + 3 ∧ k = 0)) h h12 := fr_t (fr_i fr_0 e5 (Or.inl ⟨rfl, rfl⟩)) f12 (fun a k w => Or.inr w)
  have o : ∀ a k, ¬ (a = 0 ∧ k = 7) → up2 μ 0 7 (μ 0 7 + 1) a k = μ a k := fun a k q => up2_o q
  refine ⟨RCt_f H.1 fx (fun a k w => by omega), ⟨⟨?_, ?_, ?_, ?_, ?_, ?_, ?_, ?_⟩, ⟨b3, b4, b5, b6, ⟨?_, ?_⟩⟩, fun j hj => ?_, fun j hj => ?_, fun j hj => ?_, fun j hj => ?_⟩, (fr_g fx (by omega)).trans H.2.2⟩
  · rw [g _ _ (by omega) (by omega), o _ _ (by omega)]; exact a0
  · rw [g _ _ (by omega) (by omega), o _ _ (by omega)]; exact a1
  · rw [g _ _ (by omega) (by omega), o _ _ (by omega)]; exact a2
  · rw [g _ _ (by omega) (by omega), o _ _ (by omega)]; exact a3
  · rw [g _ _ (by omega) (by omega), o _ _ (by omega)]; exact a4
  · rw [g _ _ (by omega) (by omega), o _ _ (by omega)]; exact a5
  · rw [g _ _ (by omega) (by omega), o _ _ (by omega)]; exact a6
  · rw [fr_g f12 (by omega), mv_i e5, up2_at]
  · rw [up2_at]; omega
  · rw [up2_at]; omega
  · rw [g _ _ (by omega) (by omega), o _ _ (by omega)]; exact l j hj
  · rw [g _ _ (by omega) (by omega), g _ _ (by omega) (by omega), g _ _ (by omega) (by omega), o _ _ (by omega), o _ _ (by omega), o _ _ (by omega)]; exact ru j hj
  · rw [g _ _ (by omega) (by omega), o _ _ (by omega)]; exact ro j hj
  · rw [(fr_gl fx (by omega)), o _ _ (by omega)]; exact na j hj
theorem PW_0 : PW par0 := ⟨⟨by decide, ⟨by decide, by decide⟩, ⟨by decide, by decide⟩, ⟨by decide, by decide⟩, by decide, by decide⟩, fun d hd => absurd hd (by show ¬ (d : Int) < 0; omega), fun j hj => absurd hj (by show ¬ (j : Int) < 0; omega)⟩
/-- the WALK's answer -/
def wkF (π : pm_T) : Int := if 2000 < walk π 0 0 ∨ 300 < walk π 0 1 ∨ 100 < walk π 0 2 then 3 else if walk π 0 3 = 0 then 0 else 6
abbrev WQv (s v : Nat) : Nat → Nat → Prop := fun a k => WR s a k ∨ WP v a k ∨ (v ≤ a ∧ a ≤ v + 13)
abbrev WW (v : Nat) : Nat → Nat → Prop := fun a k => (a = 9 ∧ 8 ≤ k) ∨ (a = v ∧ (k = 14 ∨ k = 16)) ∨ (v + 7 ≤ a ∧ a ≤ v + 13)
theorem sp_parts_e {t : tk_T} {f i : Nat} {π : pm_T} (h : ¬ (tK t i = 59 ∧ π 0 1 ≤ 0)) : sp_parts t (f + 1) i π = bnd (sp_part t i π) fun q => sp_parts t f q.1 q.2 := by rw [sp_parts, if_neg h]
def PTc (t : tk_T) (m s : Nat) (T : pm_T → ah_T → Prop) (μ : pm_T) (R : F_T ⊕ (Nat × pm_T)) (z : Int) (h' : ah_T) : Prop := match R with
  | .inl q => z = 0 ∧ h'.2.1 2 6 = q.1 ∧ h'.2.1 2 7 = q.2
  | .inr q => z = 1 ∧ RCs t m q.1 q.2 s h' ∧ ∃ π, T π h' ∧ PW π ∧ q.2 = addV μ π (walk π)
theorem addV_7 {μ π α : pm_T} : addV μ π α 0 7 = μ 0 7 + 1 := by unfold addV; rw [if_pos ⟨rfl, rfl⟩]
theorem addV_o {μ π α : pm_T} {a k : Nat} (h : a ≤ 9) (h2 : ¬ (a = 0 ∧ k = 7)) : addV μ π α a k = μ a k := by
  unfold addV
  rw [if_neg h2, if_neg (by omega), if_neg (by omega), if_neg (by omega)]
/-- the memory of the score with one voice more tells the same of the rest -/
theorem RSc_v {μ π α : pm_T} {s : Nat} {h : ah_T} (H : RSc (up2 μ 0 7 (μ 0 7 + 1)) s h) : RSc (addV μ π α) s h := by
  have e : ∀ a k, a ≤ 9 → addV μ π α a k = up2 μ 0 7 (μ 0 7 + 1) a k := fun a k ha => by
    by_cases c : a = 0 ∧ k = 7
    · obtain ⟨rfl, rfl⟩ := c; rw [addV_7, up2_at]
    · rw [addV_o ha c, up2_o c]
  unfold RSc
  simp only [e _ _ (show (0:Nat) ≤ 9 by decide), e _ _ (show (1:Nat) ≤ 9 by decide), e _ _ (show (2:Nat) ≤ 9 by decide), e _ _ (show (3:Nat) ≤ 9 by decide), e _ _ (show (4:Nat) ≤ 9 by decide), e _ _ (show (5:Nat) ≤ 9 by decide), e _ _ (show (6:Nat) ≤ 9 by decide)]
  exact H
theorem sp_dots_i {t : tk_T} : ∀ (f i : Nat) (d : Int) (q : Nat × Int), sp_dots t f i d = .inr q → i ≤ q.1
  | 0, _, _, _, e => by rw [sp_dots] at e; cases e
  | f + 1, i, d, q, e => by
    rw [sp_dots] at e
    split at e
    · split at e
      · cases e
      · have := sp_dots_i f _ _ q e; omega
    · cases e; exact Nat.le_refl _
theorem bnd_r {β γ : Type} {x : F_T ⊕ β} {f : β → F_T ⊕ γ} {q : γ} (e : bnd x f = .inr q) : ∃ b, x = .inr b ∧ f b = .inr q := by
  rcases x with a | b
  · cases e
  · exact ⟨b, rfl, e⟩
theorem sp_part_i {t : tk_T} {i : Nat} {π : pm_T} {q : Nat × pm_T} (e : sp_part t i π = .inr q) : i + 1 ≤ q.1 := by
  unfold sp_part at e
  split at e
  · cases e; exact Nat.le_refl _
  split at e
  · split at e
    · rw [sp_event_e] at e
      obtain ⟨a, ea, e⟩ := bnd_r e
      obtain ⟨n, -, e⟩ := bnd_r e
      obtain ⟨d, ed, e⟩ := bnd_r e
      have h1 := (sp_sound_ok ea).1
      have h2 := sp_dots_i _ _ _ _ ed
      unfold sp_tie at e
      split at e
      · split at e
        · cases e
        · cases e; show i + 1 ≤ d.1 + 1; omega
      · cases e; show i + 1 ≤ d.1; omega
    · cases e
  split at e
  · split at e
    · cases e; exact Nat.le_refl _
    · cases e
  split at e
  · split at e
    · cases e; exact Nat.le_refl _
    · cases e
  split at e
  · split at e
    · unfold sp_times at e
      obtain ⟨a, -, e⟩ := bnd_r e
      obtain ⟨b, -, e⟩ := bnd_r e
      obtain ⟨c, -, e⟩ := bnd_r e
      obtain ⟨d, -, e⟩ := bnd_r e
      cases e; show i + 1 ≤ i + 5; omega
    · cases e
  · cases e
theorem WP_Q {s v : Nat} : ∀ a k, WP v a k → WQv s v a k := fun _ _ w => Or.inr (Or.inl w)
theorem t_Reader_readVoice {G : cx_T} {s : Nat} {h : ah_T} {t : tk_T} {m i : Nat} {μ : pm_T} {T : pm_T → ah_T → Prop} (hb0 : hb s h) (hT : TG t m) (H : RCs t m i μ s h) (hg : gk (tK t i))
    (hTf : ∀ π h h', T π h → fr WT h h' → T π h')
    (hwalk : ∀ (π : pm_T) (hh : ah_T) (j f : Nat), hb s hh → μ 0 7 < 4 → RPc π (s + 7 + 14 * (μ 0 7).toNat) hh → PW π → π 0 0 ≤ 2000 → sp_parts t f (i + 1) par0 = .inr (j, π) → con G 21 0 0 m_Parts_walkInto [av_R (some 9), av_R (some (s + 7 + 14 * (μ 0 7).toNat))] hh (fun r h' => ∃ z, r = some (av_I z) ∧ hb s h' ∧ fr (WW (s + 7 + 14 * (μ 0 7).toNat)) hh h' ∧ z = wkF π ∧ (z = 0 → T π h'))) :
    con G 22 0 0 m_Reader_readVoice [av_R (some 2)] h (fun r h' => ∃ z, r = some (av_I z) ∧ hb s h' ∧ fr (WQv s (s + 7 + 14 * (μ 0 7).toNat)) h h' ∧ (z = 0 ∨ z = 1) ∧ PTc t m s T μ (sp_voice t i μ) z h') := by
  have hs : s = 17 ∨ s = 80 := hb0.2.1
  obtain ⟨c9, c10, -, -⟩ := RCs_b H
  have b7 := H.2.1.2.1.2.2.2.2
  generalize evv : s + 7 + 14 * (μ 0 7).toNat = v at hwalk ⊢
  have e3 : sp_voice t i μ = if μ 0 7 < 4 then bnd (sp_parts t 3000 (i + 1) par0) (fun q => if 2000 < walk q.2 0 0 ∨ 300 < walk q.2 0 1 ∨ 100 < walk q.2 0 2 then .inl (3, tP t i) else if walk q.2 0 3 = 0 then .inr (q.1 + 1, addV μ q.2 (walk q.2)) else .inl (6, tP t i)) else .inl (3, tP t i) := rfl
  generalize ep : sp_parts t 3000 (i + 1) par0 = R at e3
  generalize eμ : up2 μ 0 7 (μ 0 7 + 1) = μ1
  refine c_Reader_readVoice (X51 := fun v1 v2 v3 v4 hh => v1 = tP t i ∧ v2 = v ∧ μ 0 7 < 4 ∧ fr (WQv s v) h hh ∧ 0 ≤ v4 ∧ ((v3 = 0 ∧ ∃ q : F_T, hh.2.1 2 6 = q.1 ∧ hh.2.1 2 7 = q.2 ∧ q.1 ≠ 0 ∧ R = .inl q) ∨ (v3 = 0 ∧ ∃ (j f : Nat) (π : pm_T), tK t j = 59 ∧ VE t m j μ1 s π v hh ∧ R = sp_parts t (f + 1) j π) ∨ (v3 = 1 ∧ ∃ (j f : Nat) (π : pm_T), VE t m j μ1 s π v hh ∧ v4 + i + 1 ≤ j ∧ (f : Int) + v4 = 2999 ∧ R = sp_parts t (f + 1) j π))) ?_ hb0 ?_
  · refine lp_Reader_readVoice_51 _ (fun _ _ v3 v4 _ => (2001 - v4).toNat) ?_
    rintro v1 v2 v3 v4 hh hv hb1 ⟨rfl, rfl, h4, hf, hv4, hc⟩
    have v24 := isV_24 hv
    have hv' := hv
    unfold isV at hv'
    rw [if_pos h4] at e3
    -- what is left of the voice
    have kA : ∀ q : F_T, hh.2.1 2 6 = q.1 → hh.2.1 2 7 = q.2 → q.1 ≠ 0 → R = .inl q → B_Reader_readVoice_125 G s (tP t i) v2 hh (fun r h' => ∃ z, r = some (av_I z) ∧ hb s h' ∧ fr (WQv s v2) h h' ∧ (z = 0 ∨ z = 1) ∧ PTc t m s T μ (sp_voice t i μ) z h') := by
      intro q q1 q2 q3 eR
      unfold B_Reader_readVoice_125
      intro x1 y1 _ _
      refine ⟨fun c => absurd (y1.symm.trans c) (by rw [q1]; exact q3), fun _ => ⟨0, rfl, hb1, hf, Or.inl rfl, ?_⟩⟩
      rw [e3, eR]; exact ⟨rfl, q1, q2⟩
    have kC : ∀ (j f : Nat) (π : pm_T), tK t j = 59 → VE t m j μ1 s π v2 hh → R = sp_parts t (f + 1) j π → B_Reader_readVoice_125 G s (tP t i) v2 hh (fun r h' => ∃ z, r = some (av_I z) ∧ hb s h' ∧ fr (WQv s v2) h h' ∧ (z = 0 ∨ z = 1) ∧ PTc t m s T μ (sp_voice t i μ) z h') := by
      intro j f π k59 ⟨H0, P, hB, hi⟩ eR
      obtain ⟨d9, d10, -, -⟩ := RCs_b H0.1
      unfold B_Reader_readVoice_125 B_Reader_readVoice_156
      intro x1 y1 _ _
      refine ⟨fun _ x3 y3 _ _ => ⟨fun _ x5 y5 _ _ => ⟨fun c5 => ?_, fun c5 => ?_⟩, fun c => absurd (y3.trans (d9.trans k59)) c⟩, fun c => absurd (y1.trans H0.1.2.2) c⟩
      · have c1 : π 0 1 ≤ 0 := by have := y5.trans H0.2.1.2.1; omega
        have eR2 : R = .inr (j, π) := by rw [eR, sp_parts, if_pos ⟨k59, c1⟩]
        rw [eR2] at e3
        simp only [bnd] at e3
        refine con_mono (hwalk π hh j 3000 hb1 h4 H0.2 P (by have := H0.1.1.2.2.1; have := H0.1.1.2.2.2.1; omega) (by rw [ep]; exact eR2)) ?_
        rintro r h7 ⟨z9, rfl, hb7, f7, ez, hz⟩
        have H7 := RCs_p H0.1 f7 hs hv (fun a k w => by omega)
        have fx := fr_t hf f7 (fun a k w => by omega)
        refine ⟨z9, rfl, hb7, fun c0 => ?_, fun c0 => ?_⟩
        · refine con_mono (tt_Reader_step hb7 H7 (hT.1 _ H7.1.2.2.1 (gk_of k59 (by decide) (by decide)))) ?_
          rintro r h11 ⟨rfl, hb11, f11, H11⟩
          refine ⟨rfl, hb11, 1, rfl, hb11, fr_t fx f11 (fun a k w => WP_Q a k (WT_P a k w)), Or.inr rfl, ?_⟩
          have ew : wkF π = 0 := by rw [← ez]; exact c0
          unfold wkF at ew
          split at ew
          · omega
          · rename_i nw
            rw [if_neg nw] at e3
            split at ew
            · rename_i w3
              rw [if_pos w3] at e3
              rw [e3]
              rw [← eμ] at H11
              exact ⟨rfl, ⟨H11.1, RSc_v H11.2.1, H11.2.2⟩, π, hTf π h7 h11 (hz c0) f11, P, rfl⟩
            · omega
        · refine con_mono (tt_Reader_blame hb7) ?_
          rintro r h14 ⟨z, rfl, hb14, f14, rfl, w1, w2⟩
          refine ⟨0, rfl, hb14, Or.inl rfl, 0, rfl, hb14, fr_t fx f14 (fun a k w => WP_Q a k (WT_P a k w)), Or.inl rfl, ?_⟩
          have : sp_voice t i μ = .inl (z9, tP t i) := by
            rw [e3, ez]
            unfold wkF
            rw [ez] at c0
            unfold wkF at c0
            split
            · rfl
            · rename_i nw
              rw [if_neg nw] at c0
              split
              · rename_i w3; rw [if_pos w3] at c0; exact absurd rfl c0
              · rfl
          rw [this]; exact ⟨rfl, w1, w2⟩
      · have c1 : ¬ π 0 1 ≤ 0 := by have := y5.trans H0.2.1.2.1; omega
        have eR2 : R = .inl (cn t j) := by
          rw [eR, sp_parts_e (fun w => c1 w.2), sp_part, if_neg (mkb_f (by omega)), if_neg (by omega), if_neg (by omega), if_neg (by omega), if_neg (by omega)]; rfl
        refine con_mono (tt_Reader_refuse hb1 H0.1.1) ?_
        rintro r h' ⟨z, rfl, hb2, f2, rfl, w1, w2⟩
        exact ⟨0, rfl, hb2, Or.inl rfl, 0, rfl, hb2, fr_t hf f2 (fun a k w => WP_Q a k (WT_P a k w)), Or.inl rfl, by rw [e3, eR2]; exact ⟨rfl, w1, w2⟩⟩
    unfold B_Reader_readVoice_51
    rcases hc with ⟨rfl, q, q1, q2, q3, eR⟩ | ⟨rfl, j, f, π, k59, HE, eR⟩ | ⟨rfl, j, f, π, HE, hj, hfu, eR⟩
    · exact ⟨fun _ => kA q q1 q2 q3 eR, fun _ => ⟨fun _ => kA q q1 q2 q3 eR, fun d => absurd rfl d⟩⟩
    · exact ⟨fun _ => kC j f π k59 HE eR, fun _ => ⟨fun _ => kC j f π k59 HE eR, fun d => absurd rfl d⟩⟩
    · have HE' := HE
      obtain ⟨H0, P, hB, hi⟩ := HE'
      have im : j < m ∧ m ≤ 2001 := ⟨H0.1.1.2.2.1, H0.1.1.2.2.2.1⟩
      refine ⟨fun c => by omega, fun c => ⟨fun d => absurd d (by decide), fun _ => ?_⟩⟩
      obtain ⟨f', rfl⟩ : ∃ f', f = f' + 1 := ⟨f - 1, by omega⟩
      -- the next turn, after a part read
      have nx0 : ∀ (h1 : ah_T) (q : F_T), hb s h1 → fr (WP v2) hh h1 → ¬ (tK t j = 59 ∧ π 0 1 ≤ 0) → sp_part t j π = .inl q → h1.2.1 2 6 = q.1 → h1.2.1 2 7 = q.2 → ((-2147483648 ≤ v4 + 1 ∧ v4 + 1 ≤ 2147483647) ∧ (tP t i = tP t i ∧ v2 = v2 ∧ μ 0 7 < 4 ∧ fr (WQv s v2) h h1 ∧ 0 ≤ v4 + 1 ∧ (((0 : Int) = 0 ∧ ∃ q : F_T, h1.2.1 2 6 = q.1 ∧ h1.2.1 2 7 = q.2 ∧ q.1 ≠ 0 ∧ R = .inl q) ∨ ((0 : Int) = 0 ∧ ∃ (j f : Nat) (π : pm_T), tK t j = 59 ∧ VE t m j μ1 s π v2 h1 ∧ R = sp_parts t (f + 1) j π) ∨ ((0 : Int) = 1 ∧ ∃ (j f : Nat) (π : pm_T), VE t m j μ1 s π v2 h1 ∧ v4 + 1 + i + 1 ≤ j ∧ (f : Int) + (v4 + 1) = 2999 ∧ R = sp_parts t (f + 1) j π))) ∧ (2001 - (v4 + 1)).toNat < (2001 - v4).toNat) := by
        intro h1 q hb2 f1 nn es w1 w2
        refine ⟨⟨by omega, by omega⟩, ⟨rfl, rfl, h4, fr_t hf f1 WP_Q, by omega, Or.inl ⟨rfl, q, w1, w2, NF_p q es, ?_⟩⟩, by omega⟩
        rw [eR, sp_parts_e nn, es]; rfl
      have nx1 : ∀ (h1 : ah_T) (q : Nat × pm_T), hb s h1 → fr (WP v2) hh h1 → ¬ (tK t j = 59 ∧ π 0 1 ≤ 0) → sp_part t j π = .inr q → VE t m q.1 μ1 s q.2 v2 h1 → ((-2147483648 ≤ v4 + 1 ∧ v4 + 1 ≤ 2147483647) ∧ (tP t i = tP t i ∧ v2 = v2 ∧ μ 0 7 < 4 ∧ fr (WQv s v2) h h1 ∧ 0 ≤ v4 + 1 ∧ (((1 : Int) = 0 ∧ ∃ q : F_T, h1.2.1 2 6 = q.1 ∧ h1.2.1 2 7 = q.2 ∧ q.1 ≠ 0 ∧ R = .inl q) ∨ ((1 : Int) = 0 ∧ ∃ (j f : Nat) (π : pm_T), tK t j = 59 ∧ VE t m j μ1 s π v2 h1 ∧ R = sp_parts t (f + 1) j π) ∨ ((1 : Int) = 1 ∧ ∃ (j f : Nat) (π : pm_T), VE t m j μ1 s π v2 h1 ∧ v4 + 1 + i + 1 ≤ j ∧ (f : Int) + (v4 + 1) = 2999 ∧ R = sp_parts t (f + 1) j π))) ∧ (2001 - (v4 + 1)).toNat < (2001 - v4).toNat) := by
        intro h1 q hb2 f1 nn es HE1
        have := sp_part_i es
        refine ⟨⟨by omega, by omega⟩, ⟨rfl, rfl, h4, fr_t hf f1 WP_Q, by omega, Or.inr (Or.inr ⟨rfl, q.1, f', q.2, HE1, by omega, by omega, ?_⟩)⟩, by omega⟩
        rw [eR, sp_parts_e nn, es]; rfl
      unfold B_Reader_readVoice_90 B_Reader_readVoice_89 B_Reader_readVoice_90 B_Reader_readVoice_117 B_Reader_readVoice_118 B_Reader_readVoice_119
      refine con_mono (t_Reader_beginsEvent hb1 H0.1) ?_
      rintro r h1 ⟨hb2, rfl, ⟨rfl, hk⟩ | ⟨rfl, hk⟩⟩
      · have nm : ¬ mkb π (tK t j) = true := mkb_f (by omega)
        refine ⟨1, rfl, hb2, fun d => absurd d (by decide), fun _ => ?_⟩
        refine con_mono (t_Reader_isShallow hb2 H0.1 H0.2.1.2.1) ?_
        rintro r h9 ⟨z, rfl, hb9, f9, ⟨c6, rfl, rfl⟩ | ⟨c6, rfl, w1, w2⟩⟩
        · have es : sp_part t j π = sp_event t j π := by rw [sp_part, if_neg nm, if_pos hk, if_pos c6]
          refine ⟨1, rfl, hb9, fun d => absurd d (by decide), fun _ => ?_⟩
          refine con_mono (t_Reader_readEvent hb9 hv hT HE hk) ?_
          rintro r h12 ⟨z14, rfl, hb12, f12, -, p12⟩
          rw [← es] at p12
          rcases n1 : sp_part t j π with q | q
          · rw [n1] at p12
            obtain ⟨rfl, w1, w2⟩ := p12
            exact ⟨0, rfl, hb12, fun _ => nx0 h12 q hb12 f12 (fun w => by omega) n1 w1 w2, fun d => absurd rfl d⟩
          · rw [n1] at p12
            obtain ⟨rfl, HE1⟩ := p12
            exact ⟨1, rfl, hb12, fun d => absurd d (by decide), fun _ => nx1 h12 q hb12 f12 (fun w => by omega) n1 HE1⟩
        · have es : sp_part t j π = .inl (3, tP t j) := by rw [sp_part, if_neg nm, if_pos hk, if_neg c6]
          exact ⟨0, rfl, hb9, fun _ => nx0 h9 _ hb9 (fr_w f9 WT_P) (fun w => by omega) es w1 w2, fun d => absurd rfl d⟩
      · refine ⟨0, rfl, hb2, fun _ x5 y5 _ _ => ⟨fun c5 => ?_, fun c5 => ?_⟩, fun d => absurd rfl d⟩
        · have k59 : tK t j = 59 := by have := y5.trans (RCs_b H0.1).1; omega
          exact ⟨⟨by omega, by omega⟩, ⟨rfl, rfl, h4, hf, by omega, Or.inr (Or.inl ⟨rfl, j, f' + 1, π, k59, HE, eR⟩)⟩, by omega⟩
        · have n59 : ¬ tK t j = 59 := by have := y5.trans (RCs_b H0.1).1; omega
          refine con_mono (t_Reader_readPart hb2 hv hT HE hk) ?_
          rintro r h12 ⟨z14, rfl, hb12, f12, -, p12⟩
          rcases n1 : sp_part t j π with q | q
          · rw [n1] at p12
            obtain ⟨rfl, w1, w2⟩ := p12
            exact ⟨0, rfl, hb12, fun _ => nx0 h12 q hb12 f12 (fun w => n59 w.1) n1 w1 w2, fun d => absurd rfl d⟩
          · rw [n1] at p12
            obtain ⟨rfl, HE1⟩ := p12
            exact ⟨1, rfl, hb12, fun d => absurd d (by decide), fun _ => nx1 h12 q hb12 f12 (fun w => n59 w.1) n1 HE1⟩
  · unfold B_Reader_readVoice_0
    intro x2 y2 _ _
    refine con_mono (t_Score_newVoice hb0 H) ?_
    rintro r h4 ⟨hb4, ⟨w, ew, hw, h7, rfl, H4, f4, q1, q2, q3⟩ | ⟨h7, rfl, rfl⟩⟩
    · have ew : w = v := ew.trans evv
      subst ew
      have w24 := isV_24 hw
      have hw' := hw
      unfold isV at hw'
      rw [eμ] at H4
      refine ⟨some w, rfl, hb4, Or.inr ⟨w, rfl, hw, ?_⟩⟩
      refine con_mono (tt_Reader_step hb4 H4 (hT.1 i H.1.2.2.1 hg)) ?_
      rintro r h11 ⟨rfl, hb11, f11, H11⟩
      refine ⟨rfl, hb11, ?_⟩
      refine con_mono (t_Parts_clear hb11) ?_
      rintro r h15 ⟨rfl, hb15, f15, p4, p7⟩
      refine ⟨rfl, hb15, fun h18 e18 => ?_⟩
      have fx : fr (WQv s w) h h18 := fr_i (fr_t (fr_t (fr_w f4 (fun a k q => by omega)) f11 (fun a k q => WP_Q a k (WT_P a k q))) f15 (fun a k q => by omega)) e18 (by omega)
      have f2 : fr (fun a k => (a = 9 ∧ (k = 4 ∨ k = 7)) ∨ (a = 2 ∧ k = 4)) h11 h18 := fr_i (fr_w f15 (fun a k q => Or.inl q)) e18 (Or.inr ⟨rfl, rfl⟩)
      have H18 := RCs_p H11 f2 hs hw (fun a k q => by omega)
      refine ⟨by rw [y2, c10], rfl, h7, fx, Int.le_refl _, Or.inr (Or.inr ⟨rfl, i + 1, 2999, par0, ⟨⟨H18, ⟨⟨?_, ?_, ?_, ?_, ?_⟩, fun d hd => absurd hd (by show ¬ (d : Int) < 0; omega), fun j hj => absurd hj (by show ¬ (j : Int) < 0; omega)⟩⟩, PW_0, ?_, by show (0 : Int) + 1 ≤ ((i + 1 : Nat) : Int); omega⟩, by omega, by decide, ep.symm⟩)⟩
      · rw [mm_i e18 (by omega)]; exact p4
      · rw [mm_i e18 (by omega)]; exact p7
      · rw [mv_i e18]; rfl
      · rw [fr_g f2 (by omega), fr_g f11 (by omega)]; exact q2
      · rw [fr_g f2 (by omega), fr_g f11 (by omega)]; exact q1
      · rw [fr_g f2 (by show ¬ _; have : (par0 0 3).toNat = 0 := rfl; omega), fr_g f11 (by omega)]; exact q3
    · rw [if_neg h7] at e3
      refine ⟨none, rfl, hb4, Or.inl ⟨rfl, ?_⟩⟩
      refine con_mono (tt_Reader_blame hb4) ?_
      rintro r h14 ⟨z, rfl, hb14, f14, rfl, w1, w2⟩
      exact ⟨0, rfl, hb14, Or.inl rfl, 0, rfl, hb14, fr_w f14 (fun a k w => WP_Q a k (WT_P a k w)), Or.inl rfl, by rw [e3]; exact ⟨rfl, w1, by rw [w2, y2, c10]⟩⟩

/-! ===== parts of a voice: how brackets stand ===== -/
def RGc (π : pm_T) (P : Bool → Nat → Nat → Nat → Prop) : Prop :=
  (∀ d x : Nat, P true d x x) ∧
  (∀ d x y : Nat, π 1 x = 256 → P true d (x + 1) y → P true d x y) ∧
  (∀ d x y : Nat, π 1 x = 124 → P true d (x + 1) y → P true d x y) ∧
  (∀ d x y : Nat, π 1 x = 123 → x < lk π x → π 1 (lk π x) = 125 → P true d (x + 1) (lk π x) → P true (d + 1) (lk π x + 1) y → P true (d + 1) x y) ∧
  (∀ d x c y : Nat, π 1 x = 91 → P false d x c → P true (d + 1) (c + 1) y → P true (d + 1) x y) ∧
  (∀ d p : Nat, p < lk π p → π 1 (lk π p) = 93 → P true d (p + 1) (lk π p) → P false d p (lk π p)) ∧
  (∀ d p c : Nat, p < lk π p → π 1 (lk π p) = 58 → P true d (p + 1) (lk π p) → P false d (lk π p) c → P false d p c)
/-- the least that is closed under these -/
def RG (π : pm_T) (b : Bool) (d x y : Nat) : Prop := ∀ P : Bool → Nat → Nat → Nat → Prop, RGc π P → P b d x y
theorem RG.nil {π : pm_T} (d x : Nat) : RG π true d x x := fun _ h => h.1 d x
theorem RG.ev {π : pm_T} {d x y : Nat} (h : π 1 x = 256) (r : RG π true d (x + 1) y) : RG π true d x y := fun P c => c.2.1 d x y h (r P c)
theorem RG.ln {π : pm_T} {d x y : Nat} (h : π 1 x = 124) (r : RG π true d (x + 1) y) : RG π true d x y := fun P c => c.2.2.1 d x y h (r P c)
theorem RG.st {π : pm_T} {d x y : Nat} (h : π 1 x = 123) (hl : x < lk π x) (hk : π 1 (lk π x) = 125) (r : RG π true d (x + 1) (lk π x)) (r2 : RG π true (d + 1) (lk π x + 1) y) : RG π true (d + 1) x y := fun P c => c.2.2.2.1 d x y h hl hk (r P c) (r2 P c)
theorem RG.rp {π : pm_T} {d x c y : Nat} (h : π 1 x = 91) (r : RG π false d x c) (r2 : RG π true (d + 1) (c + 1) y) : RG π true (d + 1) x y := fun P q => q.2.2.2.2.1 d x c y h (r P q) (r2 P q)
theorem RG.m1 {π : pm_T} {d p : Nat} (h : p < lk π p) (hk : π 1 (lk π p) = 93) (r : RG π true d (p + 1) (lk π p)) : RG π false d p (lk π p) := fun P c => c.2.2.2.2.2.1 d p h hk (r P c)
theorem RG.m2 {π : pm_T} {d p c : Nat} (h : p < lk π p) (hk : π 1 (lk π p) = 58) (r : RG π true d (p + 1) (lk π p)) (r2 : RG π false d (lk π p) c) : RG π false d p c := fun P q => q.2.2.2.2.2.2 d p c h hk (r P q) (r2 P q)
theorem RG.rc {π : pm_T} {motive : ∀ (b : Bool) (d x y : Nat), RG π b d x y → Prop}
    (nil : ∀ d x : Nat, motive true d x x (RG.nil d x))
    (ev : ∀ {d x y : Nat} (h : π 1 x = 256) (r : RG π true d (x + 1) y), motive true d (x + 1) y r → motive true d x y (RG.ev h r))
    (ln : ∀ {d x y : Nat} (h : π 1 x = 124) (r : RG π true d (x + 1) y), motive true d (x + 1) y r → motive true d x y (RG.ln h r))
    (st : ∀ {d x y : Nat} (h : π 1 x = 123) (hl : x < lk π x) (hk : π 1 (lk π x) = 125) (r : RG π true d (x + 1) (lk π x)) (r2 : RG π true (d + 1) (lk π x + 1) y), motive true d (x + 1) (lk π x) r → motive true (d + 1) (lk π x + 1) y r2 → motive true (d + 1) x y (RG.st h hl hk r r2))
    (rp : ∀ {d x c y : Nat} (h : π 1 x = 91) (r : RG π false d x c) (r2 : RG π true (d + 1) (c + 1) y), motive false d x c r → motive true (d + 1) (c + 1) y r2 → motive true (d + 1) x y (RG.rp h r r2))
    (m1 : ∀ {d p : Nat} (h : p < lk π p) (hk : π 1 (lk π p) = 93) (r : RG π true d (p + 1) (lk π p)), motive true d (p + 1) (lk π p) r → motive false d p (lk π p) (RG.m1 h hk r))
    (m2 : ∀ {d p c : Nat} (h : p < lk π p) (hk : π 1 (lk π p) = 58) (r : RG π true d (p + 1) (lk π p)) (r2 : RG π false d (lk π p) c), motive true d (p + 1) (lk π p) r → motive false d (lk π p) c r2 → motive false d p c (RG.m2 h hk r r2))
    {b : Bool} {d x y : Nat} (H : RG π b d x y) : motive b d x y H := by
  obtain ⟨_, q⟩ := H (fun b d x y => ∃ H : RG π b d x y, motive b d x y H) ⟨fun d x => ⟨_, nil d x⟩, fun d x y h ⟨r, i⟩ => ⟨_, ev h r i⟩, fun d x y h ⟨r, i⟩ => ⟨_, ln h r i⟩, fun d x y h hl hk ⟨r, i⟩ ⟨r2, i2⟩ => ⟨_, st h hl hk r r2 i i2⟩, fun d x c y h ⟨r, i⟩ ⟨r2, i2⟩ => ⟨_, rp h r r2 i i2⟩, fun d p h hk ⟨r, i⟩ => ⟨_, m1 h hk r i⟩, fun d p c h hk ⟨r, i⟩ ⟨r2, i2⟩ => ⟨_, m2 h hk r r2 i i2⟩⟩
  exact q
theorem RG_le {π : pm_T} {b : Bool} {d x y : Nat} (H : RG π b d x y) : x ≤ y ∧ (b = false → x < y) := by
  induction H using RG.rc with
  | nil d x => exact ⟨Nat.le_refl _, fun q => by cases q⟩
  | ev _ _ ih => exact ⟨by omega, fun q => by cases q⟩
  | ln _ _ ih => exact ⟨by omega, fun q => by cases q⟩
  | st _ _ _ _ _ _ ih => exact ⟨by omega, fun q => by cases q⟩
  | rp _ _ _ i1 ih => exact ⟨by have := i1.1; omega, fun q => by cases q⟩
  | m1 h _ _ _ => exact ⟨by omega, fun _ => h⟩
  | m2 h _ _ _ _ ih => exact ⟨by have := ih.1; omega, fun _ => by have := ih.1; omega⟩
theorem RG_c {π π' : pm_T} {b : Bool} {d x y : Nat} (H : RG π b d x y) : (∀ j, x ≤ j → j < y → π' 1 j = π 1 j ∧ π' 14 j = π 14 j) → (b = false → π' 1 y = π 1 y) → RG π' b d x y := by
  induction H using RG.rc with
  | nil d x => intro _ _; exact RG.nil d x
  | ev h r ih =>
    intro q _
    have := (RG_le r).1
    exact RG.ev ((q _ (Nat.le_refl _) (by omega)).1.trans h) (ih (fun j a c => q j (by omega) c) (fun w => by cases w))
  | ln h r ih =>
    intro q _
    have := (RG_le r).1
    exact RG.ln ((q _ (Nat.le_refl _) (by omega)).1.trans h) (ih (fun j a c => q j (by omega) c) (fun w => by cases w))
  | @st d x y h hl hk r1 r2 i1 i2 =>
    intro q _
    have := (RG_le r2).1
    have el : lk π' x = lk π x := by unfold lk; rw [(q x (Nat.le_refl _) (by omega)).2]
    refine RG.st ((q _ (Nat.le_refl _) (by omega)).1.trans h) (by omega) (by rw [el, (q _ (by omega) (by omega)).1]; exact hk) ?_ ?_
    · rw [el]; exact i1 (fun j a c => q j (by omega) (by omega)) (fun w => by cases w)
    · rw [el]; exact i2 (fun j a c => q j (by omega) c) (fun w => by cases w)
  | @rp d x c y h r1 r2 i1 i2 =>
    intro q _
    have e1 := (RG_le r1).2 rfl
    have e2 := (RG_le r2).1
    exact RG.rp ((q _ (Nat.le_refl _) (by omega)).1.trans h) (i1 (fun j a c => q j a (by omega)) (fun _ => (q _ (by omega) (by omega)).1)) (i2 (fun j a c => q j (by omega) c) (fun w => by cases w))
  | @m1 d p h hk r ih =>
    intro q q2
    have el : lk π' p = lk π p := by unfold lk; rw [(q p (Nat.le_refl _) h).2]
    have := RG.m1 (π := π') (d := d) (p := p) (by omega) (by rw [el, q2 rfl]; exact hk) (by rw [el]; exact ih (fun j a c => q j (by omega) c) (fun w => by cases w))
    rw [el] at this; exact this
  | @m2 d p c h hk r r2 ih i2 =>
    intro q q2
    have e2 := (RG_le r2).2 rfl
    have el : lk π' p = lk π p := by unfold lk; rw [(q p (Nat.le_refl _) (by omega)).2]
    exact RG.m2 (by omega) (by rw [el, (q _ (by omega) e2).1]; exact hk) (by rw [el]; exact ih (fun j a c => q j (by omega) (by omega)) (fun w => by cases w)) (by rw [el]; exact i2 (fun j a c => q j (by omega) c) q2)
theorem RG_app {π : pm_T} {b : Bool} {d x y : Nat} (H : RG π b d x y) : b = true → ∀ z, RG π true d y z → RG π true d x z := by
  induction H using RG.rc with
  | nil d x => intro _ z r; exact r
  | ev h _ ih => intro _ z r; exact RG.ev h (ih rfl z r)
  | ln h _ ih => intro _ z r; exact RG.ln h (ih rfl z r)
  | st h hl hk r1 _ _ i2 => intro _ z r; exact RG.st h hl hk r1 (i2 rfl z r)
  | rp h r1 _ _ i2 => intro _ z r; exact RG.rp h r1 (i2 rfl z r)
  | m1 _ _ _ _ => intro w; cases w
  | m2 _ _ _ _ _ _ => intro w; cases w
/-- the marks of a [ so far -/
def PCh (π : pm_T) (d o l : Nat) : Prop := ∀ P : Nat → Prop, P o ∧ (∀ l, P l → l < lk π l → π 1 (lk π l) = 58 → RG π true d (l + 1) (lk π l) → P (lk π l)) → P l
theorem PCh.nil {π : pm_T} {d o : Nat} : PCh π d o o := fun _ h => h.1
theorem PCh.step {π : pm_T} {d o l : Nat} (r : PCh π d o l) (h : l < lk π l) (hk : π 1 (lk π l) = 58) (rg : RG π true d (l + 1) (lk π l)) : PCh π d o (lk π l) := fun P c => c.2 l (r P c) h hk rg
theorem PCh.rc {π : pm_T} {d o : Nat} {motive : ∀ l : Nat, PCh π d o l → Prop} (nil : motive o PCh.nil)
    (step : ∀ {l : Nat} (r : PCh π d o l) (h : l < lk π l) (hk : π 1 (lk π l) = 58) (rg : RG π true d (l + 1) (lk π l)), motive l r → motive (lk π l) (PCh.step r h hk rg)) {l : Nat} (H : PCh π d o l) : motive l H := by
  obtain ⟨_, q⟩ := H (fun l => ∃ H : PCh π d o l, motive l H) ⟨⟨_, nil⟩, fun l ⟨r, i⟩ h hk rg => ⟨_, step r h hk rg i⟩⟩
  exact q
theorem PCh_le {π : pm_T} {d o l : Nat} (H : PCh π d o l) : o ≤ l := by
  induction H using PCh.rc with
  | nil => exact Nat.le_refl _
  | step _ h _ _ ih => omega
theorem PCh_c {π π' : pm_T} {d o l : Nat} (H : PCh π d o l) : (∀ j, o ≤ j → j < l → π' 1 j = π 1 j ∧ π' 14 j = π 14 j) → π' 1 l = π 1 l → PCh π' d o l := by
  induction H using PCh.rc with
  | nil => intro _ _; exact PCh.nil
  | @step l r h hk rg ih =>
    intro q q2
    have := PCh_le r
    have el : lk π' l = lk π l := by unfold lk; rw [(q l this h).2]
    have := PCh.step (ih (fun j a c => q j a (by omega)) (q l this h).1) (by omega) (by rw [el, q2]; exact hk) (by rw [el]; exact RG_c rg (fun j a c => q j (by omega) c) (fun w => by cases w))
    rw [el] at this; exact this
theorem PCh_end {π : pm_T} {d o l : Nat} (H : PCh π d o l) : ∀ c, RG π false d l c → RG π false d o c := by
  induction H using PCh.rc with
  | nil => intro c r; exact r
  | step r h hk rg ih => intro c r2; exact ih c (RG.m2 h hk rg r2)
def oo (π : pm_T) (d : Nat) : Nat := (π 15 d).toNat
def ll (π : pm_T) (d : Nat) : Nat := (π 16 d).toNat
def ss (π : pm_T) : Nat → Nat
  | 0 => 0
  | d + 1 => ll π d + 1
def WBd (π : pm_T) (d : Nat) : Prop := (oo π d ≤ ll π d ∧ ll π d < sz π) ∧ ss π d ≤ oo π d ∧ RG π true (7 - d) (ss π d) (oo π d) ∧ ((π 1 (oo π d) = 91 ∧ PCh π (6 - d) (oo π d) (ll π d)) ∨ (π 1 (oo π d) = 123 ∧ ll π d = oo π d))
/-- the brackets of the parts so far -/
def WBp (π : pm_T) : Prop := (∀ d, d < dp π → WBd π d) ∧ ss π (dp π) ≤ sz π ∧ RG π true (7 - dp π) (ss π (dp π)) (sz π)
theorem ss_c {π π' : pm_T} {d : Nat} (h : ∀ e, e < d → π' 16 e = π 16 e) : ss π' d = ss π d := by
  cases d with
  | zero => rfl
  | succ d => show ll π' d + 1 = ll π d + 1; unfold ll; rw [h d (by omega)]
/-- a level, where what changes stands behind it -/
theorem WBd_c {π π' : pm_T} {d : Nat} (H : WBd π d) (h15 : π' 15 d = π 15 d) (h16 : ∀ e, e ≤ d → π' 16 e = π 16 e) (hz : sz π ≤ sz π') (q : ∀ j, j < ll π d → π' 1 j = π 1 j ∧ π' 14 j = π 14 j) (q2 : ∀ j, j < sz π → π' 1 j = π 1 j) : WBd π' d := by
  obtain ⟨⟨a1, a2⟩, a3, a4, a5⟩ := H
  have eo : oo π' d = oo π d := by unfold oo; rw [h15]
  have el : ll π' d = ll π d := by unfold ll; rw [h16 d (Nat.le_refl _)]
  have es : ss π' d = ss π d := ss_c (fun e he => h16 e (by omega))
  unfold WBd
  rw [eo, el, es]
  refine ⟨⟨a1, by omega⟩, a3, RG_c a4 (fun j _ c => q j (by omega)) (fun w => by cases w), ?_⟩
  rw [q2 _ (by omega)]
  rcases a5 with ⟨b1, b2⟩ | b
  · exact Or.inl ⟨b1, PCh_c b2 (fun j _ c => q j c) (q2 _ a2)⟩
  · exact Or.inr b
theorem ll_mono {π : pm_T} : ∀ n, (∀ d, d < n → WBd π d) → ∀ d, d < n → ll π d ≤ ll π (n - 1)
  | 0, _, d, h => by omega
  | n + 1, H, d, h => by
    by_cases c : d = n
    · subst c; exact Nat.le_refl _
    · have := ll_mono n (fun d hd => H d (by omega)) d (by omega)
      have h1 := H n (by omega)
      obtain ⟨⟨a1, a2⟩, a3, -, -⟩ := h1
      obtain ⟨k, rfl⟩ : ∃ k, n = k + 1 := ⟨n - 1, by omega⟩
      have e : ss π (k + 1) = ll π k + 1 := rfl
      show ll π d ≤ ll π (k + 1)
      have : ll π d ≤ ll π k := this
      omega
/-- a part more in the innermost run -/
theorem WB_add {π π' : pm_T} (H : WBp π) (e0 : sz π' = sz π + 1) (e1 : dp π' = dp π) (h : ∀ a k, k ≠ sz π → a = 1 ∨ a = 14 → π' a k = π a k) (h15 : ∀ d, π' 15 d = π 15 d ∧ π' 16 d = π 16 d) (hk : π' 1 (sz π) = 256 ∨ π' 1 (sz π) = 124) : WBp π' := by
  obtain ⟨a1, a2, a3⟩ := H
  have es : ss π' (dp π) = ss π (dp π) := ss_c (fun e _ => (h15 e).2)
  refine ⟨fun d hd => ?_, by rw [e1, es]; omega, ?_⟩
  · have W := a1 d (by omega)
    have := W.1.2
    exact WBd_c W (h15 d).1 (fun e _ => (h15 e).2) (by omega) (fun j hj => ⟨h _ _ (by omega) (Or.inl rfl), h _ _ (by omega) (Or.inr rfl)⟩) (fun j hj => h _ _ (by omega) (Or.inl rfl))
  · rw [e1, es, e0]
    refine RG_app (RG_c a3 (fun j _ c => ⟨h _ _ (by omega) (Or.inl rfl), h _ _ (by omega) (Or.inr rfl)⟩) (fun w => by cases w)) rfl _ ?_
    rcases hk with hk | hk
    · exact RG.ev hk (RG.nil _ _)
    · exact RG.ln hk (RG.nil _ _)
/-- a bracket opened -/
theorem WB_opn {π π' : pm_T} (H : WBp π) (e0 : sz π' = sz π + 1) (e1 : dp π' = dp π + 1) (h : ∀ a k, k ≠ sz π → a = 1 ∨ a = 14 → π' a k = π a k) (h15 : ∀ d, d < dp π → π' 15 d = π 15 d ∧ π' 16 d = π 16 d) (ho : oo π' (dp π) = sz π ∧ ll π' (dp π) = sz π) (hk : π' 1 (sz π) = 91 ∨ π' 1 (sz π) = 123) : WBp π' := by
  obtain ⟨a1, a2, a3⟩ := H
  have es : ss π' (dp π) = ss π (dp π) := ss_c (fun e he => (h15 e he).2)
  refine ⟨fun d hd => ?_, ?_, ?_⟩
  · by_cases c : d = dp π
    · subst c
      unfold WBd
      rw [ho.1, ho.2, es]
      refine ⟨⟨Nat.le_refl _, by omega⟩, a2, RG_c a3 (fun j _ c => ⟨h _ _ (by omega) (Or.inl rfl), h _ _ (by omega) (Or.inr rfl)⟩) (fun w => by cases w), ?_⟩
      rcases hk with hk | hk
      · exact Or.inl ⟨hk, PCh.nil⟩
      · exact Or.inr ⟨hk, rfl⟩
    · have W := a1 d (by omega)
      have := W.1.2
      exact WBd_c W (h15 d (by omega)).1 (fun e he => (h15 e (by omega)).2) (by omega) (fun j hj => ⟨h _ _ (by omega) (Or.inl rfl), h _ _ (by omega) (Or.inr rfl)⟩) (fun j hj => h _ _ (by omega) (Or.inl rfl))
  · rw [e1]; show ll π' (dp π) + 1 ≤ _; rw [ho.2]; omega
  · rw [e1]; show RG π' true _ (ll π' (dp π) + 1) _; rw [ho.2, e0]; exact RG.nil _ _
/-- a mark : of the innermost [ -/
theorem WB_col {π π' : pm_T} (H : WBp π) (hD : 0 < dp π ∧ dp π ≤ 7) (e0 : sz π' = sz π + 1) (e1 : dp π' = dp π) (h : ∀ k, k ≠ sz π → π' 1 k = π 1 k) (h14 : ∀ k, k ≠ sz π → k ≠ ll π (dp π - 1) → π' 14 k = π 14 k) (hl : lk π' (ll π (dp π - 1)) = sz π) (h15 : ∀ d, d < dp π → π' 15 d = π 15 d) (h16 : ∀ d, d < dp π - 1 → π' 16 d = π 16 d) (hn : ll π' (dp π - 1) = sz π) (hk : π' 1 (sz π) = 58) (ho : π 1 (oo π (dp π - 1)) = 91) : WBp π' := by
  obtain ⟨a1, a2, a3⟩ := H
  obtain ⟨D, eD⟩ : ∃ D, dp π = D + 1 := ⟨dp π - 1, by omega⟩
  rw [eD] at a1 a2 a3 h14 hl h16 hn ho h15
  simp only [Nat.add_sub_cancel] at h14 hl h16 hn ho
  have a2' : ll π D + 1 ≤ sz π := a2
  have a3' : RG π true (7 - (D + 1)) (ll π D + 1) (sz π) := a3
  refine ⟨fun d hd => ?_, ?_, ?_⟩
  · by_cases c : d = D
    · subst c
      obtain ⟨⟨b1, b2⟩, b3, b4, b5⟩ := a1 d (by omega)
      have eo : oo π' d = oo π d := by unfold oo; rw [h15 d (by omega)]
      have es : ss π' d = ss π d := ss_c (fun e he => h16 e he)
      unfold WBd
      rw [eo, es, hn]
      refine ⟨⟨by omega, by omega⟩, b3, RG_c b4 (fun j _ c => ⟨h _ (by omega), h14 _ (by omega) (by omega)⟩) (fun w => by cases w), Or.inl ⟨by rw [h _ (by omega)]; exact ho, ?_⟩⟩
      rcases b5 with ⟨-, b6⟩ | ⟨b6, -⟩
      · have p := PCh_c (π' := π') b6 (fun j _ c => ⟨h _ (by omega), h14 _ (by omega) (by omega)⟩) (h _ (by omega))
        have r : RG π' true (6 - d) (ll π d + 1) (sz π) := by
          have e7 : 7 - (d + 1) = 6 - d := by omega
          rw [e7] at a3'
          exact RG_c a3' (fun j _ c => ⟨h _ (by omega), h14 _ (by omega) (by omega)⟩) (fun w => by cases w)
        have := PCh.step p (by rw [hl]; omega) (by rw [hl]; exact hk) (by rw [hl]; exact r)
        rw [hl] at this; exact this
      · rw [ho] at b6; cases b6
    · have W := a1 d (by omega)
      have m := ll_mono (D + 1) a1 d (by omega)
      simp only [Nat.add_sub_cancel] at m
      have s1 := W.1.2
      exact WBd_c W (h15 d (by omega)) (fun e he => h16 e (by omega)) (by omega) (fun j hj => ⟨h _ (by omega), h14 _ (by omega) (by omega)⟩) (fun j hj => h _ (by omega))
  · rw [e1, eD]; show ll π' D + 1 ≤ _; rw [hn]; omega
  · rw [e1, eD]; show RG π' true _ (ll π' D + 1) _; rw [hn, e0]; exact RG.nil _ _
/-- the end of the innermost bracket -/
theorem WB_end {π π' : pm_T} (H : WBp π) (hD : 0 < dp π ∧ dp π ≤ 7) (e0 : sz π' = sz π + 1) (e1 : dp π' = dp π - 1) (h : ∀ k, k ≠ sz π → π' 1 k = π 1 k) (h14 : ∀ k, k ≠ sz π → k ≠ ll π (dp π - 1) → π' 14 k = π 14 k) (hl : lk π' (ll π (dp π - 1)) = sz π) (h15 : ∀ d, d < dp π → π' 15 d = π 15 d) (h16 : ∀ d, d < dp π - 1 → π' 16 d = π 16 d) (hk : (π' 1 (sz π) = 93 ∧ π 1 (oo π (dp π - 1)) = 91) ∨ (π' 1 (sz π) = 125 ∧ π 1 (oo π (dp π - 1)) = 123)) : WBp π' := by
  obtain ⟨a1, a2, a3⟩ := H
  obtain ⟨D, eD⟩ : ∃ D, dp π = D + 1 := ⟨dp π - 1, by omega⟩
  rw [eD] at a1 a2 a3 h14 hl h16 hk h15 e1
  simp only [Nat.add_sub_cancel] at h14 hl h16 hk e1
  have a2' : ll π D + 1 ≤ sz π := a2
  have e7 : 7 - (D + 1) = 6 - D := by omega
  have a3' : RG π true (6 - D) (ll π D + 1) (sz π) := by rw [← e7]; exact a3
  have r : RG π' true (6 - D) (ll π D + 1) (sz π) := RG_c a3' (fun j _ c => ⟨h _ (by omega), h14 _ (by omega) (by omega)⟩) (fun w => by cases w)
  have es : ss π' D = ss π D := ss_c (fun e he => h16 e he)
  obtain ⟨⟨b1, b2⟩, b3, b4, b5⟩ := a1 D (by omega)
  have r4 : RG π' true (7 - D) (ss π D) (oo π D) := RG_c b4 (fun j _ c => ⟨h _ (by omega), h14 _ (by omega) (by omega)⟩) (fun w => by cases w)
  refine ⟨fun d hd => ?_, by rw [e1, es]; omega, ?_⟩
  · have W := a1 d (by omega)
    have m := ll_mono (D + 1) a1 d (by omega)
    simp only [Nat.add_sub_cancel] at m
    have s1 := W.1.2
    exact WBd_c W (h15 d (by omega)) (fun e he => h16 e (by omega)) (by omega) (fun j hj => ⟨h _ (by omega), h14 _ (by omega) (by omega)⟩) (fun j hj => h _ (by omega))
  · rw [e1, es, e0]
    refine RG_app r4 rfl _ ?_
    have e8 : 7 - D = (6 - D) + 1 := by omega
    rw [e8]
    rcases hk with ⟨k1, k2⟩ | ⟨k1, k2⟩
    · refine RG.rp (by rw [h _ (by omega)]; exact k2) ?_ (RG.nil _ _)
      rcases b5 with ⟨-, b6⟩ | ⟨b6, -⟩
      · have p := PCh_c (π' := π') b6 (fun j _ c => ⟨h _ (by omega), h14 _ (by omega) (by omega)⟩) (h _ (by omega))
        have := RG.m1 (π := π') (d := 6 - D) (p := ll π D) (by rw [hl]; omega) (by rw [hl]; exact k1) (by rw [hl]; exact r)
        rw [hl] at this
        exact PCh_end p _ this
      · rw [k2] at b6; cases b6
    · rcases b5 with ⟨b6, -⟩ | ⟨-, b6⟩
      · rw [k2] at b6; cases b6
      · rw [b6] at hl r
        have := RG.st (π := π') (d := 6 - D) (x := oo π D) (y := sz π + 1) (by rw [h _ (by omega)]; exact k2) (by rw [hl]; omega) (by rw [hl]; exact k1) (by rw [hl]; exact r) (by rw [hl]; exact RG.nil _ _)
        exact this

/-! ===== brackets through the reading of parts ===== -/
def WC (π : pm_T) : Prop := 0 ≤ π 0 0 ∧ (0 ≤ π 0 1 ∧ π 0 1 ≤ 7) ∧ WBp π
/-- what a sound leaves -/
def sk (π π' : pm_T) : Prop := ∀ a k, (a = 0 ∧ k ≤ 1) ∨ a = 1 ∨ (14 ≤ a ∧ a ≤ 16) → π' a k = π a k
theorem sk_t {π π' π'' : pm_T} (h : sk π π') (h2 : sk π' π'') : sk π π'' := fun a k q => (h2 a k q).trans (h a k q)
theorem sk_adm {π : pm_T} : sk π (adm π) := fun a k q => adm_o (by omega)
theorem sk_pch {t : tk_T} {i : Nat} {g : Int} {π : pm_T} (h : 0 ≤ π 5 (sz π) ∧ π 5 (sz π) ≤ 3) : sk π (pch t i g π) := fun a k q => by
  obtain ⟨n, en⟩ : ∃ n : Nat, π 5 (sz π) = (n : Int) := ⟨(π 5 (sz π)).toNat, by omega⟩
  exact pch_o en (by omega) (by omega)
theorem sk_snd0 {π : pm_T} : sk π (snd0 π) := fun a k q => by
  unfold snd0; rw [up2_o (by omega), up2_o (by omega), up2_o (by omega)]
theorem sp_chord_s {t : tk_T} : ∀ (f i : Nat) (π : pm_T) (q : Nat × pm_T), 0 ≤ π 5 (sz π) → π 5 (sz π) ≤ 4 → sp_chord t f i π = .inr q → sk π q.2
  | 0, _, _, _, _, _, e => by rw [sp_chord] at e; cases e
  | f + 1, i, π, q, h0, h4, e => by
    rw [sp_chord] at e
    split at e
    · split at e
      · cases e
      · rename_i n4
        split at e
        · cases e
        · by_cases h : π 0 2 < 300
          · rw [sp_adm_a h] at e
            simp only [bnd] at e
            have a5 : adm π 5 (sz (adm π)) = π 5 (sz π) := by rw [sz_adm, adm_o (by omega)]
            have s1 : sk π (pch t i (sgt t i) (adm π)) := sk_t sk_adm (sk_pch (by rw [a5]; omega))
            have b5 : pch t i (sgt t i) (adm π) 5 (sz (pch t i (sgt t i) (adm π))) = π 5 (sz π) + 1 := by rw [sz_pch, pch_5, a5]
            split at e
            · cases e; exact s1
            · exact sk_t s1 (sp_chord_s f (i + 1) _ q (by rw [b5]; omega) (by rw [b5]; omega) e)
          · rw [sp_adm_n h] at e; cases e
    · cases e
theorem sp_sound_s {t : tk_T} {i : Nat} {π : pm_T} {q : Nat × pm_T} (e : sp_sound t i π = .inr q) : sk π q.2 := by
  have es : sz (snd0 π) = sz π := by unfold snd0; rw [sz_up (by omega), sz_up (by omega), sz_up (by omega)]
  have e5 : snd0 π 5 (sz (snd0 π)) = 0 := by rw [es]; unfold snd0; rw [up2_o (by omega), up2_o (by omega), up2_at]
  have a5 : adm (snd0 π) 5 (sz (adm (snd0 π))) = 0 := by rw [sz_adm, adm_o (by omega)]; exact e5
  rw [sp_sound] at e
  split at e
  · obtain ⟨b, eb, e⟩ := bnd_r e
    cases e
    by_cases h : snd0 π 0 2 < 300
    · rw [sp_adm_a h] at eb; cases eb; exact sk_t sk_snd0 sk_adm
    · rw [sp_adm_n h] at eb; cases eb
  · split at e
    · obtain ⟨b, eb, e⟩ := bnd_r e
      cases e
      by_cases h : snd0 π 0 2 < 300
      · rw [sp_adm_a h] at eb; cases eb
        exact sk_t (sk_t sk_snd0 sk_adm) (sk_pch (by rw [a5]; omega))
      · rw [sp_adm_n h] at eb; cases eb
    · exact sk_t sk_snd0 (sp_chord_s _ _ _ _ (by rw [e5]; omega) (by rw [e5]; omega) e)
theorem WC_addE {π ρ : pm_T} {n d w : Int} (H : WC π) (s : sk π ρ) : WC (addE ρ n d w) := by
  obtain ⟨h0, h1, W⟩ := H
  have r0 : ρ 0 0 = π 0 0 := s _ _ (by omega)
  have r1 : ρ 0 1 = π 0 1 := s _ _ (by omega)
  have o1 : addE ρ n d w 0 1 = π 0 1 := by rw [addE_o (by omega) (by omega), r1]
  have z : sz ρ = sz π := by unfold sz; rw [r0]
  have k0 : addE ρ n d w 0 0 = π 0 0 + 1 := by rw [addE_0.1, r0]
  refine ⟨by omega, by omega, WB_add W (by unfold sz; omega) (by unfold dp; rw [o1]) (fun a k hk ha => ?_) (fun d' => ⟨?_, ?_⟩) (Or.inl (by rw [← z]; exact addE_v.1))⟩
  · rw [addE_o (by omega) (by omega)]; exact s _ _ (by omega)
  · rw [addE_o (by omega) (by omega)]; exact s _ _ (by omega)
  · rw [addE_o (by omega) (by omega)]; exact s _ _ (by omega)
theorem WC_addL {π : pm_T} (H : WC π) : WC (addP π 124 0 0) := by
  obtain ⟨h0, h1, W⟩ := H
  have o1 : addP π 124 0 0 0 1 = π 0 1 := addP_o (by omega) (by omega)
  have k0 := (addP_v (π := π) (c := 124) (x := 0) (y := 0)).1
  exact ⟨by omega, by omega, WB_add W (by unfold sz; omega) (by unfold dp; rw [o1]) (fun a k hk ha => addP_o (by omega) (by omega)) (fun d' => ⟨addP_o (by omega) (by omega), addP_o (by omega) (by omega)⟩) (Or.inr addP_v.2.1)⟩
theorem WC_addO {π : pm_T} {c x y : Int} (H : WC π) (h6 : π 0 1 ≤ 6) (hc : c = 91 ∨ c = 123) : WC (addP (opn π) c x y) := by
  obtain ⟨h0, h1, W⟩ := H
  obtain ⟨z0, v1, v2, v3, v14⟩ := addP_v (π := opn π) (c := c) (x := x) (y := y)
  obtain ⟨w1, w15, w16⟩ := opn_v (π := π)
  rw [sz_opn] at v1
  rw [opn_o (by omega) (by omega)] at z0
  have o1 : addP (opn π) c x y 0 1 = π 0 1 + 1 := by rw [addP_o (by omega) (by omega), w1]
  have r : ∀ a d, a = 15 ∨ a = 16 → addP (opn π) c x y a d = opn π a d := fun a d ha => addP_o (by omega) (by omega)
  refine ⟨by omega, by omega, WB_opn W (by unfold sz; omega) (by unfold dp; omega) (fun a k hk ha => ?_) (fun d hd => ⟨?_, ?_⟩) ⟨?_, ?_⟩ (by rw [v1]; exact hc)⟩
  · rw [addP_o (by omega) (by rw [sz_opn]; omega), opn_o (by omega) (by omega)]
  · rw [r _ _ (Or.inl rfl), opn_o (by omega) (by omega)]
  · rw [r _ _ (Or.inr rfl), opn_o (by omega) (by omega)]
  · unfold oo; rw [r _ _ (Or.inl rfl), w15]; rfl
  · unfold ll; rw [r _ _ (Or.inr rfl), w16]; rfl
theorem WC_addM {π : pm_T} {K : Int} (H : WC π) (hm : mkb π K = true) : WC (addM π K) := by
  obtain ⟨h0, h1, W⟩ := H
  have hK : K = 58 ∨ K = 93 ∨ K = 125 := by
    by_cases c : K = 58 ∨ K = 93 ∨ K = 125
    · exact c
    · exact absurd hm (mkb_f c)
  obtain ⟨m1, m2⟩ := (mkb_t hK).mp hm
  have hD : 0 < dp π ∧ dp π ≤ 7 := by unfold dp; omega
  have hl := (W.1 (dp π - 1) (by omega)).1.2
  obtain ⟨z0, z1, v1, v14, l14, l16⟩ := addM_v (π := π) (K := K) (show ll π (dp π - 1) ≠ sz π by omega)
  have ez : sz (addM π K) = sz π + 1 := by unfold sz; omega
  have a1 : ∀ k, k ≠ sz π → addM π K 1 k = π 1 k := fun k hk => addM_o (by omega) (by omega) (by omega) (by omega)
  have a14 : ∀ k, k ≠ sz π → k ≠ ll π (dp π - 1) → addM π K 14 k = π 14 k := fun k hk hk2 => addM_o (by omega) (by omega) (by unfold ll at hk2; omega) (by omega)
  have a15 : ∀ d, d < dp π → addM π K 15 d = π 15 d := fun d _ => addM_o (by omega) (by omega) (by omega) (by omega)
  have a16 : ∀ d, d < dp π - 1 → addM π K 16 d = π 16 d := fun d hd => addM_o (by omega) (by omega) (by omega) (by omega)
  have lk14 : lk (addM π K) (ll π (dp π - 1)) = sz π := by unfold lk ll; rw [l14]; rfl
  by_cases c : K = 58
  · rw [if_pos c] at z1
    refine ⟨by omega, by omega, WB_col W hD ez (by unfold dp; rw [z1]) a1 a14 lk14 a15 a16 (by unfold ll; rw [l16]; rfl) (by rw [v1]; exact c) ?_⟩
    rw [if_neg (by omega)] at m2; exact m2
  · rw [if_neg c] at z1
    refine ⟨by omega, by omega, WB_end W hD ez (by unfold dp; omega) a1 a14 lk14 a15 a16 ?_⟩
    rw [v1]
    by_cases c2 : K = 125
    · rw [if_pos c2] at m2; exact Or.inr ⟨c2, m2⟩
    · rw [if_neg c2] at m2; exact Or.inl ⟨by omega, m2⟩
theorem sp_part_WC {t : tk_T} {i : Nat} {π : pm_T} {q : Nat × pm_T} (H : WC π) (e : sp_part t i π = .inr q) : WC q.2 := by
  unfold sp_part at e
  split at e
  · rename_i hm; cases e; exact WC_addM H hm
  split at e
  · split at e
    · rw [sp_event_e] at e
      obtain ⟨a, ea, e⟩ := bnd_r e
      obtain ⟨n, -, e⟩ := bnd_r e
      obtain ⟨d, ed, e⟩ := bnd_r e
      have s := sp_sound_s ea
      unfold sp_tie at e
      split at e
      · split at e
        · cases e
        · cases e; exact WC_addE H s
      · cases e; exact WC_addE H s
    · cases e
  split at e
  · split at e
    · cases e; exact WC_addL H
    · cases e
  split at e
  · split at e
    · rename_i h6; cases e; exact WC_addO H h6 (Or.inl rfl)
    · cases e
  split at e
  · split at e
    · rename_i h6
      unfold sp_times at e
      obtain ⟨a, -, e⟩ := bnd_r e
      obtain ⟨b, -, e⟩ := bnd_r e
      obtain ⟨c, -, e⟩ := bnd_r e
      obtain ⟨d, -, e⟩ := bnd_r e
      cases e; exact WC_addO H h6 (Or.inr rfl)
    · cases e
  · cases e
theorem sp_parts_WC {t : tk_T} : ∀ (f i : Nat) (π : pm_T) (q : Nat × pm_T), WC π → sp_parts t f i π = .inr q → WC q.2 ∧ q.2 0 1 ≤ 0
  | 0, _, _, _, _, e => by rw [sp_parts] at e; cases e
  | f + 1, i, π, q, H, e => by
    rw [sp_parts] at e
    split at e
    · rename_i h; cases e; exact ⟨H, h.2⟩
    · obtain ⟨b, eb, e⟩ := bnd_r e
      exact sp_parts_WC f b.1 b.2 q (sp_part_WC H eb) e
theorem WC_0 : WC par0 := ⟨Int.le_refl _, ⟨Int.le_refl _, by decide⟩, fun d hd => absurd hd (Nat.not_lt_zero d), Nat.le_refl _, RG.nil _ _⟩
/-- a voice's parts are well nested -/
theorem sp_parts_RG {t : tk_T} {f i : Nat} {q : Nat × pm_T} (e : sp_parts t f i par0 = .inr q) : RG q.2 true 7 0 (sz q.2) ∧ 0 ≤ q.2 0 0 := by
  obtain ⟨⟨h0, h1, W⟩, h2⟩ := sp_parts_WC f i par0 q WC_0 e
  have e0 : dp q.2 = 0 := by unfold dp; omega
  have := W.2.2
  rw [e0] at this
  exact ⟨this, h0⟩

/-! ===== the WALK, class: small things ===== -/
theorem wk_ev_0 {π : pm_T} {j : Nat} {sT sB : Int} {α : pm_T} : wk_ev π j sT sB α 0 0 = α 0 0 := by
  unfold wk_ev
  dsimp only
  split
  · split
    · rw [up2_o (by omega), up2_o (by omega), up2_o (by omega), up2_o (by omega), up2_o (by omega), up2_o (by omega), up2_o (by omega), up2_o (by omega)]
    · rw [up2_o (by omega), up2_o (by omega), up2_o (by omega), up2_o (by omega), up2_o (by omega), up2_o (by omega), up2_o (by omega), up2_o (by omega), up2_o (by omega), up2_o (by omega)]
  · rw [up2_o (by omega)]
theorem wk_ln_0 {α : pm_T} : wk_ln α 0 0 = α 0 0 := by
  unfold wk_ln
  rw [up2_o (by omega)]
  split
  · rw [up2_o (by omega)]
  · rfl
theorem wk_st_0 {α : pm_T} : wk_st α 0 0 = α 0 0 + 1 := by unfold wk_st; rw [up2_at]
theorem wk_mono {π : pm_T} : ∀ (f : Nat) (b : Bool) (x y : Nat) (sT sB : Int) (α : pm_T), α 0 0 ≤ wk π f b x y sT sB α 0 0
  | 0, _, _, _, _, _, _ => by rw [wk]; exact Int.le_refl _
  | f + 1, true, x, y, sT, sB, α => by
    have s1 := wk_st_0 (α := α)
    have s2 := wk_st_0 (α := wk_st α)
    rw [wk]
    split
    · exact Int.le_refl _
    split
    · refine Int.le_trans ?_ (wk_mono f true _ y sT sB _)
      split
      · exact Int.le_trans (by omega) (wk_mono f false x _ sT sB _)
      · refine Int.le_trans ?_ (wk_mono f true (x + 1) _ sT sB _)
        rw [wk_st_0]
        have := wk_mono (π := π) f true (x + 1) (lk π x) sT sB (wk_st (wk_st α))
        omega
    split
    · refine Int.le_trans ?_ (wk_mono f true _ y sT sB _)
      exact Int.le_trans (by omega) (wk_mono f true (x + 1) _ _ _ _)
    split
    · refine Int.le_trans ?_ (wk_mono f true _ y sT sB _)
      rw [wk_ln_0]; omega
    split
    · refine Int.le_trans ?_ (wk_mono f true _ y sT sB _)
      rw [wk_ev_0]; omega
    · exact Int.le_trans (by omega) (wk_mono f true _ y sT sB _)
  | f + 1, false, x, y, sT, sB, α => by
    have s1 := wk_st_0 (α := α)
    rw [wk]
    split
    · refine Int.le_trans ?_ (wk_mono f false x _ sT sB _)
      refine Int.le_trans ?_ (wk_mono f true (y + 1) _ sT sB _)
      exact Int.le_trans (by omega) (wk_mono f true (x + 1) _ sT sB _)
    · exact Int.le_refl _
theorem t_Voice_beginWalk {G : cx_T} {s v : Nat} {h : ah_T} (hv : isV v) (hb0 : hb s h) : con G 0 0 0 m_Voice_beginWalk [av_R (some v)] h (fun r h' => r = none ∧ hb s h' ∧ fr (WW v) h h' ∧ h'.2.1 v 14 = 0 ∧ h'.2.1 v 16 = 1 ∧ h'.2.2.1 (v + 9) 0 = 0 ∧ h'.2.2.1 (v + 10) 0 = 1 ∧ h'.2.1 (v + 13) 0 = 0) := by
  have v24 := isV_24 hv
  refine c_Voice_beginWalk hv hb0 ?_
  unfold B_Voice_beginWalk_0
  intro h1 e1 h4 e4 h7 e7 h10 e10 h12 e12
  refine ⟨rfl, hb_i (hb_i (hb_l (hb_l (hb_i hb0 e1) e4) e7) e10) e12, fr_i (fr_i (fr_l (fr_l (fr_i fr_0 e1 (by omega)) e4 (by omega)) e7 (by omega)) e10 (by omega)) e12 (by omega), ?_, mv_i e12, ?_, ?_, ?_⟩
  · rw [mm_i e12 (by omega), mm_i e10 (by omega), mm_lo e7, mm_lo e4, mv_i e1]
  · rw [mm_io e12, mm_io e10, mm_l e7 (by omega), mv_l e4]
  · rw [mm_io e12, mm_io e10, mv_l e7]
  · rw [mm_i e12 (by omega), mv_i e10]
theorem t_Voice_endWalk {G : cx_T} {s v b : Nat} {h : ah_T} (hv : isV v) (hb0 : hb s h) (hb1 : h.2.1 v 16 = (b : Int)) : con G 0 0 0 m_Voice_endWalk [av_R (some v)] h (fun r h' => r = none ∧ hb s h' ∧ fr (fun a k => a = v + 13 ∧ k = b) h h' ∧ (b < 102 → h'.2.1 (v + 13) b = h.2.1 v 14)) := by
  have v24 := isV_24 hv
  refine c_Voice_endWalk hv hb0 ?_
  unfold B_Voice_endWalk_0 B_Voice_endWalk_25
  intro x1 e1 _ _
  obtain rfl : x1 = (b : Int) := e1.trans hb1
  refine ⟨fun c => ⟨rfl, hb0, fr_0, fun d => by omega⟩, fun c x5 e5 _ _ => ⟨⟨by omega, by omega⟩, ?_⟩⟩
  rw [tn_c]
  intro h7 e7
  exact ⟨rfl, hb_i hb0 e7, fr_i fr_0 e7 ⟨rfl, rfl⟩, fun _ => by rw [mv_i e7, e5]⟩
theorem t_Voice_addBar {G : cx_T} {s v b : Nat} {h : ah_T} (hv : isV v) (hb0 : hb s h) (hb1 : h.2.1 v 16 = (b : Int)) (hb2 : b < 102) : con G 0 0 0 m_Voice_addBar [av_R (some v)] h (fun r h' => r = none ∧ hb s h' ∧ fr (fun a k => (a = v + 13 ∧ k = b) ∨ (a = v ∧ k = 16)) h h' ∧ h'.2.1 (v + 13) b = h.2.1 v 14 ∧ h'.2.1 v 16 = (b : Int) + 1) := by
  have v24 := isV_24 hv
  refine c_Voice_addBar hv hb0 ?_
  unfold B_Voice_addBar_0 B_Voice_addBar_35
  intro x1 e1 _ _
  obtain rfl : x1 = (b : Int) := e1.trans hb1
  refine ⟨fun c => by omega, fun c x5 e5 _ _ => ⟨⟨by omega, by omega⟩, ?_⟩⟩
  rw [tn_c]
  intro h7 e7
  refine ⟨⟨by omega, by omega⟩, fun h11 e11 => ⟨rfl, hb_i (hb_i hb0 e7) e11, fr_i (fr_i fr_0 e7 (Or.inl ⟨rfl, rfl⟩)) e11 (Or.inr ⟨rfl, rfl⟩), ?_, mv_i e11⟩⟩
  rw [mm_i e11 (by omega), mv_i e7, e5]
theorem t_Parts_meetLine {G : cx_T} {s v b l : Nat} {h : ah_T} (hv : isV v) (hb0 : hb s h) (hl : h.2.1 9 10 = (l : Int)) (hl2 : l < 100000) (hb1 : h.2.1 v 16 = (b : Int)) (hb2 : l < 100 → b < 102) : con G 1 0 0 m_Parts_meetLine [av_R (some 9), av_R (some v)] h (fun r h' => r = none ∧ hb s h' ∧ fr (fun a k => (a = 9 ∧ k = 10) ∨ (a = v + 13 ∧ k = b) ∨ (a = v ∧ k = 16)) h h' ∧ h'.2.1 9 10 = (l : Int) + 1 ∧ (l < 100 → h'.2.1 (v + 13) b = h.2.1 v 14 ∧ h'.2.1 v 16 = (b : Int) + 1) ∧ (¬ l < 100 → h'.2.1 v 16 = (b : Int) ∧ ∀ k, h'.2.1 (v + 13) k = h.2.1 (v + 13) k)) := by
  have v24 := isV_24 hv
  refine c_Parts_meetLine hv hb0 ?_
  unfold B_Parts_meetLine_0 B_Parts_meetLine_23
  intro x1 e1 _ _
  obtain rfl : x1 = (l : Int) := e1.trans hl
  refine ⟨⟨by omega, by omega⟩, fun h3 e3 => ⟨fun c => ?_, fun c => ?_⟩⟩
  · refine ⟨rfl, hb_i hb0 e3, fr_i fr_0 e3 (Or.inl ⟨rfl, rfl⟩), mv_i e3, fun d => by omega, fun _ => ⟨by rw [mm_i e3 (by omega)]; exact hb1, fun k => mm_i e3 (by omega)⟩⟩
  · refine con_mono (t_Voice_addBar (b := b) hv (hb_i hb0 e3) (by rw [mm_i e3 (by omega)]; exact hb1) (hb2 (by omega))) ?_
    rintro r h6 ⟨rfl, hb6, f6, g1, g2⟩
    refine ⟨rfl, hb6, rfl, hb6, fr_t (fr_i fr_0 e3 (Or.inl ⟨rfl, rfl⟩)) f6 (fun a k w => Or.inr w), ?_, fun _ => ⟨by rw [g1, mm_i e3 (by omega)], g2⟩, fun d => by omega⟩
    rw [fr_g f6 (by omega), mv_i e3]
theorem t_Voice_isTold {G : cx_T} {s : Nat} {h : ah_T} {a b : Int} (hb0 : hb s h) (hb1 : 0 ≤ b) : con G 0 0 0 m_Voice_isTold [av_L a, av_L b] h (fun r h' => hb s h' ∧ h' = h ∧ r = some (av_I (if isFr a b = true then 0 else 1))) := by
  refine c_Voice_isTold hb0 (fun _ _ => ?_)
  unfold B_Voice_isTold_0 B_Voice_isTold_22 B_Voice_isTold_23
  have e : isFr a b = true ↔ (1000 * b < a ∨ 1000000 < b) := by unfold isFr; simp
  refine ⟨fun c => ⟨Or.inl rfl, hb0, rfl, by rw [if_pos (e.mpr (Or.inr c))]⟩, fun c => ⟨⟨by omega, by omega⟩, fun d => ⟨Or.inl rfl, hb0, rfl, by rw [if_pos (e.mpr (Or.inl d))]⟩, fun d => ⟨Or.inr rfl, hb0, rfl, ?_⟩⟩⟩
  rw [if_neg (fun w => by rcases e.mp w with w | w <;> omega)]

/-! ===== the WALK, class: divisors, events ===== -/
theorem t_PM_greatestDivisor {G : cx_T} {s : Nat} {h : ah_T} {a b : Int} (hb0 : hb s h) (ha : 0 ≤ a) (hb1 : 0 ≤ b) : con G 0 0 0 m_PM_greatestDivisor [av_L a, av_L b] h (fun r h' => ∃ z, r = some (av_L z) ∧ hb s h' ∧ h' = h ∧ z = gdv a b) := by
  refine c_PM_greatestDivisor (X9 := fun v4 v6 v8 hh => hh = h ∧ (0 ≤ v8 ∧ v8 ≤ 200) ∧ (-9223372036854775808 ≤ v6 ∧ v6 ≤ 9223372036854775807) ∧ gdi a b v4 v6 v8) ?_ hb0 (fun h1 h2 => ?_)
  · refine lp_PM_greatestDivisor_9 (a0 := a) (a1 := b) _ (fun _ _ v8 _ => (200 - v8).toNat) ?_
    rintro v4 v6 v8 hh hb2 ⟨rfl, h8, h6, hg⟩
    have fin : (v6 = 0 ∨ 200 ≤ v8) → B_PM_greatestDivisor_45 G s a b v4 hh (fun r h' => ∃ z, r = some (av_L z) ∧ hb s h' ∧ h' = hh ∧ z = gdv a b) := by
      intro hc
      obtain ⟨q1, q2⟩ := gdi_e hg hc
      unfold B_PM_greatestDivisor_45 B_PM_greatestDivisor_58
      exact ⟨fun c => ⟨v4, rfl, hb2, rfl, q2 c⟩, fun c => ⟨1, rfl, hb2, rfl, q1 (by omega)⟩⟩
    unfold B_PM_greatestDivisor_9
    refine ⟨fun c => fin (Or.inr c), fun c => ⟨fun c2 => fin (Or.inl c2), fun c2 => ⟨c2, fun x2 e2 l2 u2 => ⟨⟨by omega, by omega⟩, ⟨rfl, ⟨by omega, by omega⟩, ⟨l2, u2⟩, gdi_s hg h8.1 c2 e2⟩, by omega⟩⟩⟩⟩
  · unfold B_PM_greatestDivisor_0
    unfold i64 at h1 h2
    exact ⟨rfl, ⟨by decide, by decide⟩, ⟨by omega, by omega⟩, gdi_0 ha hb1 (by omega) (by omega)⟩
theorem gdv_p {a b : Int} (ha : 1 ≤ a) : gdv a b = (Int.gcd a b : Int) ∧ 1 ≤ (Int.gcd a b : Int) ∧ (Int.gcd a b : Int) ≤ a := by
  have h : Int.gcd a b ≠ 0 := fun w => by have := (Int.gcd_eq_zero_iff.mp w).1; omega
  have h2 := Int.gcd_le_left (a := a) b (by omega)
  refine ⟨?_, by omega, h2⟩
  unfold gdv; rw [if_neg (by omega)]
theorem gcd_r {a b : Int} (hb : 1 ≤ b) : 1 ≤ (Int.gcd a b : Int) ∧ (Int.gcd a b : Int) ≤ b := by
  rw [Int.gcd_comm]; exact ⟨(gdv_p hb).2.1, (gdv_p hb).2.2⟩
theorem w64_d {x z : Int} (h0 : 0 ≤ x) (h1 : x ≤ 9223372036854775807) (hz : 1 ≤ z) : w64 (x.tdiv z) = x / z := by
  rw [Int.tdiv_eq_ediv_of_nonneg h0]
  have a := Int.ediv_le_self z h0
  have b : 0 ≤ x / z := Int.ediv_nonneg h0 (by omega)
  exact w64_id ⟨by omega, by omega⟩
theorem ediv_1 {x z : Int} (hz : 1 ≤ z) (h : z ≤ x) : 1 ≤ x / z := (Int.le_ediv_iff_mul_le (by omega)).mpr (by omega)
theorem rdT_b {a b : Int} (ha : 1 ≤ a) (hb : 1 ≤ b) : 1 ≤ rdT a b ∧ rdT a b ≤ a := by
  obtain ⟨-, g1, g2⟩ := gdv_p (b := b) ha
  exact ⟨ediv_1 g1 g2, Int.ediv_le_self _ (by omega)⟩
theorem rdB_b {a b : Int} (ha : 1 ≤ a) (hb : 1 ≤ b) : 1 ≤ rdB a b ∧ rdB a b ≤ b := by
  obtain ⟨g1, g2⟩ := gcd_r (a := a) hb
  exact ⟨ediv_1 g1 g2, Int.ediv_le_self _ (by omega)⟩
theorem isFr_n {a b : Int} (h : ¬ isFr a b = true) : a ≤ 1000 * b ∧ b ≤ 1000000 := by
  unfold isFr at h
  simp only [Bool.or_eq_true, decide_eq_true_eq] at h
  omega
abbrev WEv (v e : Nat) : Nat → Nat → Prop := fun a k => ((a = v + 7 ∨ a = v + 8 ∨ a = v + 11 ∨ a = v + 12) ∧ k = e) ∨ (a = v ∧ k = 14) ∨ ((a = v + 9 ∨ a = v + 10) ∧ k = e + 1)
theorem t_Voice_addEvent {G : cx_T} {s v e b bars : Nat} {h : ah_T} {sT sB n d nT nB : Int} (hv : isV v) (hb0 : hb s h) (he : h.2.1 v 14 = (e : Int)) (he3 : e < 300) (hb3 : b < 300) (hn : h.2.1 (v + 4) b = n) (hn1 : 1 ≤ n ∧ n ≤ 64) (hd : h.2.1 (v + 5) b = d) (hd3 : 0 ≤ d ∧ d ≤ 3) (hba : h.2.1 v 16 = (bars : Int)) (hT : 1 ≤ sT ∧ sT ≤ 268435456) (hB : 1 ≤ sB ∧ sB ≤ 268435456) (hnT : h.2.2.1 (v + 9) e = nT) (hnB : h.2.2.1 (v + 10) e = nB) (hN : 0 ≤ nT ∧ nT ≤ 1000 * nB ∧ 1 ≤ nB ∧ nB ≤ 1000000) :
    con G 1 0 0 m_Voice_addEvent [av_R (some v), av_I (b : Int), av_L sT, av_L sB] h (fun r h' => ∃ z lT lB, r = some (av_I z) ∧ hb s h' ∧ fr (WEv v e) h h' ∧ lT = rdT (sT * (2 ^ (d.toNat + 1) - 1)) (sB * n * 2 ^ d.toNat) ∧ lB = rdB (sT * (2 ^ (d.toNat + 1) - 1)) (sB * n * 2 ^ d.toNat) ∧ (1 ≤ lT ∧ 1 ≤ lB) ∧ (h'.2.1 (v + 7) e = b ∧ h'.2.1 (v + 8) e = (bars : Int) - 1 ∧ h'.2.2.1 (v + 11) e = lT ∧ h'.2.2.1 (v + 12) e = lB) ∧ (isFr lT lB = true → z = 0) ∧ (¬ isFr lT lB = true → h'.2.1 v 14 = (e : Int) + 1 ∧ h'.2.2.1 (v + 9) (e + 1) = rdT (nT * lB + lT * nB) (nB * lB) ∧ h'.2.2.1 (v + 10) (e + 1) = rdB (nT * lB + lT * nB) (nB * lB) ∧ z = (if isFr (rdT (nT * lB + lT * nB) (nB * lB)) (rdB (nT * lB + lT * nB) (nB * lB)) = true then 0 else 1))) := by
  have v24 := isV_24 hv
  have eb : (b : Int).toNat = b := tn_c b
  refine c_Voice_addEvent hv hb0 (fun _ _ _ => ?_)
  unfold B_Voice_addEvent_0
  intro x1 e1 _ _
  obtain rfl : x1 = (e : Int) := e1.trans he
  refine ⟨fun c => by omega, fun _ => ⟨fun c => by omega, fun _ => ⟨fun _ => ⟨⟨by omega, by omega⟩, ?_⟩, fun c => by omega⟩⟩⟩
  rw [eb]
  intro x3 e3 _ _ x5 e5 _ _
  have e3' : x3 = d := e3.trans hd
  subst e3'
  -- the shifts
  have k5 : x5 = 2 ^ (x3.toNat + 1) ∧ 2 ≤ x5 ∧ x5 ≤ 16 := by
    have hy : x3 = 0 ∨ x3 = 1 ∨ x3 = 2 ∨ x3 = 3 := by omega
    rw [e5]; clear e3 hd e5
    rcases hy with rfl | rfl | rfl | rfl <;> decide
  obtain ⟨p5, l5, u5⟩ := k5
  have bT : 1 ≤ sT * (x5 - 1) ∧ sT * (x5 - 1) ≤ 268435456 * 15 :=
    ⟨by have := Int.mul_le_mul hT.1 (show (1:Int) ≤ x5 - 1 by omega) (by decide) (by omega); omega, Int.mul_le_mul hT.2 (by omega) (by omega) (by decide)⟩
  refine ⟨⟨by omega, by omega⟩, fun x7 e7 => ⟨⟨by omega, by omega⟩, fun x10 e10 _ _ x11 e11 => ?_⟩⟩
  have e10' : x10 = n := e10.trans hn
  subst e10'
  have bB : 1 ≤ sB * x10 ∧ sB * x10 ≤ 268435456 * 64 :=
    ⟨by have := Int.mul_le_mul hB.1 hn1.1 (by decide) (by omega); omega, Int.mul_le_mul hB.2 hn1.2 (by omega) (by decide)⟩
  refine ⟨⟨by omega, by omega⟩, fun x13 e13 _ _ => ?_⟩
  have k13 : x13 = 2 ^ x3.toNat ∧ 1 ≤ x13 ∧ x13 ≤ 8 := by
    have hy : x3 = 0 ∨ x3 = 1 ∨ x3 = 2 ∨ x3 = 3 := by omega
    rw [e13]; clear e3 hd e5 e13 p5
    rcases hy with rfl | rfl | rfl | rfl <;> decide
  obtain ⟨p13, l13, u13⟩ := k13
  intro x14 e14
  have bX : 1 ≤ x11 * x13 ∧ x11 * x13 ≤ 17179869184 * 8 :=
    ⟨by have := Int.mul_le_mul (show 1 ≤ x11 by omega) l13 (by decide) (by omega); omega, Int.mul_le_mul (by omega) u13 (by omega) (by decide)⟩
  refine ⟨⟨by omega, by omega⟩, ?_⟩
  have E7 : x7 = sT * (2 ^ (x3.toNat + 1) - 1) := by rw [e7, p5]
  have E14 : x14 = sB * x10 * 2 ^ x3.toNat := by rw [e14, e11, p13]
  rw [← E7, ← E14]
  have h7 : 1 ≤ x7 ∧ x7 ≤ 4026531840 := by omega
  have h14 : 1 ≤ x14 ∧ x14 ≤ 137438953472 := by omega
  clear E7 E14 e14 e7 e11 e13 e5 p5 p13 bX bB bT l5 u5 l13 u13
  refine con_mono (t_PM_greatestDivisor hb0 (by omega) (by omega)) ?_
  rintro r h16 ⟨z18, rfl, hb16, rfl, ez18⟩
  obtain ⟨g1, g2, g3⟩ := gdv_p (b := x14) h7.1
  have g4 := gcd_r (a := x7) h14.1
  have ez : z18 = (Int.gcd x7 x14 : Int) := ez18.trans g1
  refine ⟨z18, rfl, hb16, fun x20 e20 _ _ => ?_⟩
  obtain rfl : x20 = (e : Int) := e20.trans he
  refine ⟨⟨by omega, by omega⟩, ?_⟩
  rw [tn_c e]
  intro h22 e22 x26 e26 _ _
  have e26' : x26 = (bars : Int) := by rw [e26, mm_i e22 (by omega)]; exact hba
  refine ⟨⟨by omega, by omega⟩, fun h28 e28 => ⟨by omega, fun x32 e32 _ _ h33 e33 => ⟨by omega, fun x37 e37 _ _ h38 e38 => ?_⟩⟩⟩
  have E32 : x32 = rdT x7 x14 := by rw [e32, w64_d (by omega) (by omega) (by omega), ez]; rfl
  have E37 : x37 = rdB x7 x14 := by rw [e37, w64_d (by omega) (by omega) (by omega), ez]; rfl
  obtain ⟨t1, t2⟩ := rdT_b h7.1 h14.1
  obtain ⟨u1, u2⟩ := rdB_b h7.1 h14.1
  rw [← E32] at t1 t2
  rw [← E37] at u1 u2
  have hb38 := hb_l (hb_l (hb_i (hb_i hb16 e22) e28) e33) e38
  have f38 : fr (WEv v e) h16 h38 := fr_l (fr_l (fr_i (fr_i fr_0 e22 (by omega)) e28 (by omega)) e33 (by omega)) e38 (by omega)
  have c7 : h38.2.1 (v + 7) e = b := by rw [mm_lo e38, mm_lo e33, mm_i e28 (by omega), mv_i e22]
  have c8 : h38.2.1 (v + 8) e = (bars : Int) - 1 := by rw [mm_lo e38, mm_lo e33, mv_i e28, e26']
  have c11 : h38.2.2.1 (v + 11) e = x32 := by rw [mm_l e38 (by omega), mv_l e33]
  have c12 : h38.2.2.1 (v + 12) e = x37 := by rw [mv_l e38]
  have c14 : h38.2.1 v 14 = (e : Int) := by rw [mm_lo e38, mm_lo e33, mm_i e28 (by omega), mm_i e22 (by omega)]; exact he
  have c9 : h38.2.2.1 (v + 9) e = nT := by rw [fr_gl f38 (by omega)]; exact hnT
  have c10 : h38.2.2.1 (v + 10) e = nB := by rw [fr_gl f38 (by omega)]; exact hnB
  clear e22 e28 e33 e38 e26 e26' e32 e37 ez18 ez g1 g2 g3 g4
  rw [← E32, ← E37]
  refine con_mono (t_Voice_isTold hb38 (by omega)) ?_
  rintro r h46 ⟨hb46, rfl, rfl⟩
  by_cases hfr : isFr x32 x37 = true
  · rw [if_pos hfr]
    exact ⟨0, rfl, hb46, fun _ => ⟨0, x32, x37, rfl, hb46, f38, rfl, rfl, ⟨t1, u1⟩, ⟨c7, c8, c11, c12⟩, fun _ => rfl, fun w => absurd hfr w⟩, fun w => absurd rfl w⟩
  · rw [if_neg hfr]
    obtain ⟨i1, i2⟩ := isFr_n hfr
    refine ⟨1, rfl, hb46, fun w => absurd w (by decide), fun _ x50 e50 _ _ => ?_⟩
    obtain rfl : x50 = (e : Int) := e50.trans c14
    refine ⟨⟨by omega, by omega⟩, ?_⟩
    rw [tn_c e]
    intro x51 e51 _ _
    refine ⟨⟨by omega, by omega⟩, fun x55 e55 _ _ x57 e57 => ?_⟩
    have e51' : x51 = nT := e51.trans c9
    have e55' : x55 = x37 := e55.trans c12
    subst e51' e55'
    have q57 : 0 ≤ x51 * x55 ∧ x51 * x55 ≤ 1000000000 * 1000000 := ⟨Int.mul_nonneg hN.1 (by omega), Int.mul_le_mul (by omega) i2 (by omega) (by decide)⟩
    refine ⟨⟨by omega, by omega⟩, fun x61 e61 _ _ x64 e64 _ _ x65 e65 => ?_⟩
    have e61' : x61 = x32 := e61.trans c11
    have e64' : x64 = nB := e64.trans c10
    subst e61' e64'
    have q65 : 1 ≤ x61 * x64 ∧ x61 * x64 ≤ 1000000000 * 1000000 := ⟨by have := Int.mul_le_mul t1 hN.2.2.1 (by decide) (by omega); omega, Int.mul_le_mul (by omega) hN.2.2.2 (by omega) (by decide)⟩
    have q74 : 1 ≤ x64 * x55 ∧ x64 * x55 ≤ 1000000 * 1000000 := ⟨by have := Int.mul_le_mul hN.2.2.1 u1 (by decide) (by omega); omega, Int.mul_le_mul hN.2.2.2 i2 (by omega) (by decide)⟩
    refine ⟨⟨by omega, by omega⟩, ⟨by omega, by omega⟩, fun x74 e74 => ⟨⟨by omega, by omega⟩, ?_⟩⟩
    rw [← e57] at q57
    rw [← e65] at q65
    rw [← e74] at q74
    have hs1 : 1 ≤ x57 + x65 := by omega
    refine con_mono (t_PM_greatestDivisor hb46 (by omega) (by omega)) ?_
    rintro r h76 ⟨z78, rfl, hb76, rfl, ez78⟩
    obtain ⟨g1, g2, g3⟩ := gdv_p (b := x74) hs1
    have g4 := gcd_r (a := x57 + x65) q74.1
    have ez : z78 = (Int.gcd (x57 + x65) x74 : Int) := ez78.trans g1
    refine ⟨z78, rfl, hb76, fun x79 e79 _ _ => ?_⟩
    obtain rfl : x79 = (e : Int) := e79.trans c14
    refine ⟨⟨by omega, by omega⟩, fun h81 e81 => ⟨by omega, fun x85 e85 _ _ => ⟨⟨by omega, by omega⟩, ?_⟩⟩⟩
    have en : ((e : Int) + 1).toNat = e + 1 := by omega
    rw [en]
    intro h87 e87
    refine ⟨by omega, fun x91 e91 _ _ h92 e92 => ?_⟩
    have E85 : x85 = rdT (x57 + x65) x74 := by rw [e85, w64_d (by omega) (by omega) (by omega), ez]; rfl
    have E91 : x91 = rdB (x57 + x65) x74 := by rw [e91, w64_d (by omega) (by omega) (by omega), ez]; rfl
    obtain ⟨y1, y2⟩ := rdB_b hs1 q74.1
    rw [← E91] at y1 y2
    have hb92 := hb_l (hb_l (hb_i hb76 e81) e87) e92
    have f92 : fr (WEv v e) h76 h92 := fr_l (fr_l (fr_i fr_0 e81 (by omega)) e87 (by omega)) e92 (by omega)
    refine con_mono (t_Voice_isTold hb92 (by omega)) ?_
    rintro r h100 ⟨hb100, rfl, rfl⟩
    refine ⟨_, rfl, hb100, by split <;> decide, _, x61, x55, rfl, hb100, fr_t f38 f92 (fun _ _ w => w), rfl, rfl, ⟨t1, u1⟩, ⟨?_, ?_, ?_, ?_⟩, fun w => absurd w hfr, fun _ => ⟨?_, ?_, ?_, ?_⟩⟩
    · rw [mm_lo e92, mm_lo e87, mm_i e81 (by omega)]; exact c7
    · rw [mm_lo e92, mm_lo e87, mm_i e81 (by omega)]; exact c8
    · rw [mm_l e92 (by omega), mm_l e87 (by omega), mm_io e81]; exact c11
    · rw [mm_l e92 (by omega), mm_l e87 (by omega), mm_io e81]; exact c12
    · rw [mm_lo e92, mm_lo e87, mv_i e81]
    · rw [mm_l e92 (by omega), mv_l e87, E85, e57, e65, e74]
    · rw [mv_l e92, E91, e57, e65, e74]
    · rw [E85, E91, e57, e65, e74]

/-! ===== the WALK, class: what its cells tell ===== -/
def EVh (π α : pm_T) (v e : Nat) (h : ah_T) : Prop := (0 ≤ α 1 e ∧ α 1 e < π 0 0 ∧ π 1 (α 1 e).toNat = 256) ∧ h.2.1 (v + 7) e = π 18 (α 1 e).toNat ∧ (α 0 2 ≤ 100 → h.2.1 (v + 8) e = α 2 e) ∧ (h.2.2.1 (v + 9) e = α 3 e ∧ h.2.2.1 (v + 10) e = α 4 e ∧ h.2.2.1 (v + 11) e = α 5 e ∧ h.2.2.1 (v + 12) e = α 6 e) ∧ (0 ≤ α 3 e ∧ α 3 e ≤ 1000 * α 4 e ∧ 1 ≤ α 4 e ∧ α 4 e ≤ 1000000) ∧ 1 ≤ α 5 e ∧ α 5 e ≤ 1000 * α 6 e ∧ 1 ≤ α 6 e ∧ α 6 e ≤ 1000000
def WKe (π α : pm_T) (v : Nat) (h : ah_T) : Prop := h.2.1 v 14 = α 0 1 ∧ (0 ≤ α 0 4 ∧ α 0 4 ≤ 1000 * α 0 5 ∧ 1 ≤ α 0 5 ∧ α 0 5 ≤ 1000000) ∧ (h.2.2.1 (v + 9) (α 0 1).toNat = α 0 4 ∧ h.2.2.1 (v + 10) (α 0 1).toNat = α 0 5) ∧ (∀ e : Nat, (e : Int) < α 0 1 → EVh π α v e h) ∧ (α 0 2 ≤ 100 → ∀ b : Nat, (b : Int) ≤ α 0 2 → h.2.1 (v + 13) b = α 7 b ∧ 0 ≤ α 7 b ∧ α 7 b ≤ α 0 1)
def WKh (π α : pm_T) (v : Nat) (h : ah_T) : Prop := (h.2.1 9 8 = α 0 0 ∧ h.2.1 9 9 = α 0 1 ∧ h.2.1 9 10 = α 0 2 ∧ h.2.1 9 11 = (if α 0 3 = 0 then 1 else 0)) ∧ (0 ≤ α 0 1 ∧ α 0 1 ≤ α 0 0 ∧ 0 ≤ α 0 2 ∧ α 0 2 ≤ α 0 0) ∧ ((α 0 2 ≤ 100 → h.2.1 v 16 = α 0 2 + 1) ∧ (100 < α 0 2 → h.2.1 v 16 = 101)) ∧ (α 0 3 = 0 ∧ α 0 1 ≤ 300 → WKe π α v h)
theorem wk_st_o {α : pm_T} {a k : Nat} (h : ¬ (a = 0 ∧ k = 0)) : wk_st α a k = α a k := by unfold wk_st; exact up2_o h
theorem WKe_c {π α α' : pm_T} {v : Nat} {h h' : ah_T} (H : WKe π α v h) (e : ∀ a k, ¬ (a = 0 ∧ (k = 0 ∨ k = 3)) → α' a k = α a k) (g : ∀ a k, a ≠ 9 → h'.2.1 a k = h.2.1 a k) (gl : ∀ a k, h'.2.2.1 a k = h.2.2.1 a k) (hv : 24 ≤ v) : WKe π α' v h' := by
  have g1 : ∀ a k, v ≤ a → h'.2.1 a k = h.2.1 a k := fun a k ha => g a k (by omega)
  have e0 : ∀ k, k ≠ 0 → k ≠ 3 → α' 0 k = α 0 k := fun k h0 h3 => e 0 k (by omega)
  have e1 : ∀ a k, 1 ≤ a → α' a k = α a k := fun a k ha => e a k (by omega)
  obtain ⟨h1, h2, h3, h4, h5⟩ := H
  unfold WKe
  rw [e0 1 (by decide) (by decide), e0 4 (by decide) (by decide), e0 5 (by decide) (by decide), e0 2 (by decide) (by decide), g1 _ _ (Nat.le_refl _), gl, gl]
  refine ⟨h1, h2, h3, fun k hk => ?_, fun hl b hb => ?_⟩
  · have := h4 k hk
    unfold EVh at this ⊢
    rw [e1 1 _ (by decide), e1 2 _ (by decide), e1 3 _ (by decide), e1 4 _ (by decide), e1 5 _ (by decide), e1 6 _ (by decide), e0 2 (by decide) (by decide), g1 _ _ (by omega), g1 _ _ (by omega), gl, gl, gl, gl]
    exact this
  · rw [g1 _ _ (by omega), e1 7 _ (by decide)]; exact h5 hl b hb
/-- a step -/
theorem WKh_st {π α : pm_T} {v : Nat} {h h' : ah_T} {x : Int} (hv : isV v) (H : WKh π α v h) (hx : x = h.2.1 9 8) (e : h' = st_i h 9 8 (x + 1)) : WKh π (wk_st α) v h' := by
  have v24 := isV_24 hv
  obtain ⟨⟨a1, a2, a3, a4⟩, b, c, d⟩ := H
  have g : ∀ a k, ¬ (a = 9 ∧ k = 8) → h'.2.1 a k = h.2.1 a k := fun a k q => mm_i e q
  unfold WKh
  rw [wk_st_0, wk_st_o (by omega), wk_st_o (by omega), wk_st_o (by omega)]
  refine ⟨⟨by rw [mv_i e]; omega, ?_, ?_, ?_⟩, by omega, ?_, fun q => WKe_c (d q) (fun a k q => wk_st_o (by omega)) (fun a k q => g a k (by omega)) (fun a k => mm_io e) v24⟩
  · rw [g _ _ (by omega)]; exact a2
  · rw [g _ _ (by omega)]; exact a3
  · rw [g _ _ (by omega)]; exact a4
  · rw [g _ _ (by omega)]; exact c
/-- a | met -/
theorem WKh_ln {π α : pm_T} {v b l : Nat} {h h' : ah_T} (hv : isV v) (H : WKh π α v h) (hs : α 0 2 + 1 ≤ α 0 0) (hl : α 0 2 = (l : Int)) (hb : h.2.1 v 16 = (b : Int)) (f : fr (fun a k => (a = 9 ∧ k = 10) ∨ (a = v + 13 ∧ k = b) ∨ (a = v ∧ k = 16)) h h') (g1 : h'.2.1 9 10 = (l : Int) + 1) (g2 : l < 100 → h'.2.1 (v + 13) b = h.2.1 v 14 ∧ h'.2.1 v 16 = (b : Int) + 1) (g3 : ¬ l < 100 → h'.2.1 v 16 = (b : Int) ∧ ∀ k, h'.2.1 (v + 13) k = h.2.1 (v + 13) k) : WKh π (wk_ln α) v h' := by
  have v24 := isV_24 hv
  obtain ⟨⟨a1, a2, a3, a4⟩, bb, c, d⟩ := H
  have o : ∀ a k, ¬ (a = 0 ∧ k = 2) → a ≠ 7 → wk_ln α a k = α a k := fun a k q q7 => by
    unfold wk_ln; rw [up2_o q]; split
    · rw [up2_o (by omega)]
    · rfl
  have o2 : wk_ln α 0 2 = α 0 2 + 1 := by unfold wk_ln; rw [up2_at]
  have o0 : ∀ k, k ≠ 2 → wk_ln α 0 k = α 0 k := fun k hk => o 0 k (by omega) (by decide)
  have g : ∀ a k, ¬ ((a = 9 ∧ k = 10) ∨ (a = v + 13 ∧ k = b) ∨ (a = v ∧ k = 16)) → h'.2.1 a k = h.2.1 a k := fun a k q => fr_g f q
  have gl : ∀ a k, a ≠ 9 → a ≠ v → a ≠ v + 13 → h'.2.2.1 a k = h.2.2.1 a k := fun a k q1 q2 q3 => fr_gl f (by omega)
  unfold WKh
  rw [o0 0 (by decide), o0 1 (by decide), o0 3 (by decide), o2]
  refine ⟨⟨?_, ?_, by rw [g1]; omega, ?_⟩, by omega, ⟨fun q => ?_, fun q => ?_⟩, fun q => ?_⟩
  · rw [g _ _ (by omega)]; exact a1
  · rw [g _ _ (by omega)]; exact a2
  · rw [g _ _ (by omega)]; exact a4
  · rw [(g2 (by omega)).2]; have := c.1 (by omega); omega
  · by_cases hc : l < 100
    · omega
    · rw [(g3 hc).1]
      by_cases hc2 : α 0 2 ≤ 100
      · have := c.1 hc2; omega
      · have := c.2 (by omega); omega
  · obtain ⟨w1, w2, w3, w4, w5⟩ := d q
    unfold WKe
    rw [o0 1 (by decide), o0 4 (by decide), o0 5 (by decide), o2]
    refine ⟨by rw [g _ _ (by omega)]; exact w1, w2, by rw [gl _ _ (by omega) (by omega) (by omega), gl _ _ (by omega) (by omega) (by omega)]; exact w3, fun e he => ?_, fun hl' k hk => ?_⟩
    · obtain ⟨y1, y2, y3, y4, y5⟩ := w4 e he
      unfold EVh
      rw [o 1 _ (by omega) (by decide), o 2 _ (by omega) (by decide), o 3 _ (by omega) (by decide), o 4 _ (by omega) (by decide), o 5 _ (by omega) (by decide), o 6 _ (by omega) (by decide), o2, g _ _ (by omega), g _ _ (by omega), gl _ _ (by omega) (by omega) (by omega), gl _ _ (by omega) (by omega) (by omega), gl _ _ (by omega) (by omega) (by omega), gl _ _ (by omega) (by omega) (by omega)]
      exact ⟨y1, y2, fun q => y3 (by omega), y4, y5⟩
    · have hb' : b = l + 1 := by have := c.1 (by omega); omega
      have e7 : ∀ k, wk_ln α 7 k = (if k = l + 1 then α 0 1 else α 7 k) := fun k => by
        unfold wk_ln; rw [up2_o (by omega), if_pos (by omega)]
        have : (α 0 2).toNat + 1 = l + 1 := by omega
        rw [this]
        by_cases hc : k = l + 1
        · rw [if_pos hc, hc, up2_at]
        · rw [if_neg hc, up2_o (by omega)]
      rw [e7]
      by_cases hc : k = l + 1
      · rw [if_pos hc, hc, ← hb', (g2 (by omega)).1]
        exact ⟨w1, by omega, Int.le_refl _⟩
      · rw [if_neg hc, g _ _ (by omega)]
        exact w5 (by omega) k (by omega)

/-! ===== the WALK, class: an event met ===== -/
def lT_ (π : pm_T) (j : Nat) (sT sB : Int) : Int := rdT (lnT π j sT) (lnB π j sB)
def lB_ (π : pm_T) (j : Nat) (sT sB : Int) : Int := rdB (lnT π j sT) (lnB π j sB)
theorem wk_ev_n {π α : pm_T} {j : Nat} {sT sB : Int} (h : ¬ (α 0 3 = 0 ∧ α 0 1 < 300)) : wk_ev π j sT sB α = up2 α 0 1 (α 0 1 + 1) := by unfold wk_ev; rw [if_neg h]
theorem wk_ev_f {π α : pm_T} {j : Nat} {sT sB : Int} (h : α 0 3 = 0 ∧ α 0 1 < 300) (hf : isFr (lT_ π j sT sB) (lB_ π j sT sB) = true) : wk_ev π j sT sB α 0 3 = 1 ∧ wk_ev π j sT sB α 0 1 = α 0 1 + 1 ∧ wk_ev π j sT sB α 0 2 = α 0 2 := by
  unfold lT_ lB_ at hf
  unfold wk_ev
  rw [if_pos h]
  dsimp only
  rw [if_pos hf]
  refine ⟨by rw [up2_at], ?_, ?_⟩
  · rw [up2_o (by omega), up2_o (by omega), up2_o (by omega), up2_o (by omega), up2_o (by omega), up2_o (by omega), up2_o (by omega), up2_at]
  · rw [up2_o (by omega), up2_o (by omega), up2_o (by omega), up2_o (by omega), up2_o (by omega), up2_o (by omega), up2_o (by omega), up2_o (by omega)]
theorem wk_ev_y {π α : pm_T} {j e : Nat} {sT sB : Int} (h : α 0 3 = 0 ∧ α 0 1 < 300) (he : α 0 1 = (e : Int)) (hf : ¬ isFr (lT_ π j sT sB) (lB_ π j sT sB) = true) :
    (∀ a k, ¬ (a = 0 ∧ (k = 1 ∨ k = 3 ∨ k = 4 ∨ k = 5)) → (k ≠ e ∨ a = 0 ∨ 7 ≤ a) → wk_ev π j sT sB α a k = α a k) ∧ wk_ev π j sT sB α 0 1 = α 0 1 + 1 ∧
    (wk_ev π j sT sB α 1 e = j ∧ wk_ev π j sT sB α 2 e = α 0 2 ∧ wk_ev π j sT sB α 3 e = α 0 4 ∧ wk_ev π j sT sB α 4 e = α 0 5 ∧ wk_ev π j sT sB α 5 e = lT_ π j sT sB ∧ wk_ev π j sT sB α 6 e = lB_ π j sT sB) ∧
    wk_ev π j sT sB α 0 4 = rdT (α 0 4 * lB_ π j sT sB + lT_ π j sT sB * α 0 5) (α 0 5 * lB_ π j sT sB) ∧ wk_ev π j sT sB α 0 5 = rdB (α 0 4 * lB_ π j sT sB + lT_ π j sT sB * α 0 5) (α 0 5 * lB_ π j sT sB) ∧
    wk_ev π j sT sB α 0 3 = (if isFr (rdT (α 0 4 * lB_ π j sT sB + lT_ π j sT sB * α 0 5) (α 0 5 * lB_ π j sT sB)) (rdB (α 0 4 * lB_ π j sT sB + lT_ π j sT sB * α 0 5) (α 0 5 * lB_ π j sT sB)) = true then 1 else 0) := by
  unfold lT_ lB_ at hf ⊢
  unfold wk_ev
  rw [if_pos h]
  dsimp only
  rw [if_neg hf]
  have ee : (α 0 1).toNat = e := by omega
  rw [ee]
  refine ⟨fun a k q q2 => ?_, ?_, ⟨?_, ?_, ?_, ?_, ?_, ?_⟩, ?_, ?_, by rw [up2_at]⟩
  · rw [up2_o (by omega), up2_o (by omega), up2_o (by omega), up2_o (by omega), up2_o (by omega), up2_o (by omega), up2_o (by omega), up2_o (by omega), up2_o (by omega), up2_o (by omega)]
  · rw [up2_o (by omega), up2_o (by omega), up2_o (by omega), up2_o (by omega), up2_o (by omega), up2_o (by omega), up2_o (by omega), up2_o (by omega), up2_o (by omega), up2_at]
  · rw [up2_o (by omega), up2_o (by omega), up2_o (by omega), up2_o (by omega), up2_o (by omega), up2_o (by omega), up2_o (by omega), up2_o (by omega), up2_at]
  · rw [up2_o (by omega), up2_o (by omega), up2_o (by omega), up2_o (by omega), up2_o (by omega), up2_o (by omega), up2_o (by omega), up2_at]
  · rw [up2_o (by omega), up2_o (by omega), up2_o (by omega), up2_o (by omega), up2_o (by omega), up2_o (by omega), up2_at]
  · rw [up2_o (by omega), up2_o (by omega), up2_o (by omega), up2_o (by omega), up2_o (by omega), up2_at]
  · rw [up2_o (by omega), up2_o (by omega), up2_o (by omega), up2_o (by omega), up2_at]
  · rw [up2_o (by omega), up2_o (by omega), up2_o (by omega), up2_at]
  · rw [up2_o (by omega), up2_o (by omega), up2_at]
  · rw [up2_o (by omega), up2_at]
theorem WKh_evn {π α : pm_T} {v j : Nat} {sT sB : Int} {h h' : ah_T} (hv : isV v) (H : WKh π α v h) (hs : α 0 1 + 1 ≤ α 0 0) (hc : ¬ (α 0 3 = 0 ∧ α 0 1 < 300)) (e : h' = st_i h 9 9 (α 0 1 + 1)) : WKh π (wk_ev π j sT sB α) v h' := by
  have v24 := isV_24 hv
  obtain ⟨⟨a1, a2, a3, a4⟩, b, c, d⟩ := H
  rw [wk_ev_n hc]
  have g : ∀ a k, ¬ (a = 9 ∧ k = 9) → h'.2.1 a k = h.2.1 a k := fun a k q => mm_i e q
  unfold WKh
  rw [up2_at, up2_o (by omega), up2_o (by omega), up2_o (by omega)]
  refine ⟨⟨?_, mv_i e, ?_, ?_⟩, by omega, ?_, fun q => absurd ⟨q.1, by omega⟩ hc⟩
  · rw [g _ _ (by omega)]; exact a1
  · rw [g _ _ (by omega)]; exact a3
  · rw [g _ _ (by omega)]; exact a4
  · rw [g _ _ (by omega)]; exact c
theorem WKh_evy {π α : pm_T} {v j e bars : Nat} {sT sB z lT lB : Int} {h h12 h18 h' : ah_T} (hv : isV v) (H : WKh π α v h) (hs : α 0 1 + 1 ≤ α 0 0) (hc : α 0 3 = 0 ∧ α 0 1 < 300) (hj : (j : Int) < π 0 0 ∧ π 1 j = 256) (he : α 0 1 = (e : Int)) (hba : h.2.1 v 16 = (bars : Int)) (e12 : h12 = st_i h 9 9 (α 0 1 + 1)) (f : fr (WEv v e) h12 h18) (hT : lT = lT_ π j sT sB) (hB : lB = lB_ π j sT sB) (hp : 1 ≤ lT ∧ 1 ≤ lB) (g1 : h18.2.1 (v + 7) e = π 18 j ∧ h18.2.1 (v + 8) e = (bars : Int) - 1 ∧ h18.2.2.1 (v + 11) e = lT ∧ h18.2.2.1 (v + 12) e = lB) (g2 : isFr lT lB = true → z = 0) (g3 : ¬ isFr lT lB = true → h18.2.1 v 14 = (e : Int) + 1 ∧ h18.2.2.1 (v + 9) (e + 1) = rdT (α 0 4 * lB + lT * α 0 5) (α 0 5 * lB) ∧ h18.2.2.1 (v + 10) (e + 1) = rdB (α 0 4 * lB + lT * α 0 5) (α 0 5 * lB) ∧ z = (if isFr (rdT (α 0 4 * lB + lT * α 0 5) (α 0 5 * lB)) (rdB (α 0 4 * lB + lT * α 0 5) (α 0 5 * lB)) = true then 0 else 1)) (e' : h' = st_i h18 9 11 z) : WKh π (wk_ev π j sT sB α) v h' := by
  have v24 := isV_24 hv
  obtain ⟨⟨a1, a2, a3, a4⟩, b, c, d⟩ := H
  have D := d ⟨hc.1, by omega⟩
  obtain ⟨w1, w2, w3, w4, w5⟩ := D
  have g : ∀ a k, ¬ (a = 9 ∧ (k = 9 ∨ k = 11)) → ¬ WEv v e a k → h'.2.1 a k = h.2.1 a k := fun a k q q2 => by
    rw [mm_i e' (by omega), fr_g f q2, mm_i e12 (by omega)]
  have gl : ∀ a k, ¬ WEv v e a k → h'.2.2.1 a k = h.2.2.1 a k := fun a k q2 => by
    rw [mm_io e', fr_gl f q2, mm_io e12]
  have q8 : h'.2.1 9 8 = α 0 0 := by rw [g _ _ (by omega) (by omega)]; exact a1
  have q9 : h'.2.1 9 9 = α 0 1 + 1 := by rw [mm_i e' (by omega), fr_g f (by omega), mv_i e12]
  have q10 : h'.2.1 9 10 = α 0 2 := by rw [g _ _ (by omega) (by omega)]; exact a3
  have q11 : h'.2.1 9 11 = z := mv_i e'
  have q16 : h'.2.1 v 16 = h.2.1 v 16 := g _ _ (by omega) (by omega)
  subst hT hB
  by_cases hf : isFr (lT_ π j sT sB) (lB_ π j sT sB) = true
  · obtain ⟨r3, r1, r2⟩ := wk_ev_f (π := π) (j := j) (sT := sT) (sB := sB) hc hf
    unfold WKh
    rw [wk_ev_0, r1, r2, r3, q8, q9, q10, q11, q16, g2 hf]
    exact ⟨⟨rfl, rfl, rfl, rfl⟩, by omega, c, fun q => absurd q.1 (by decide)⟩
  · obtain ⟨ro, r1, ⟨re1, re2, re3, re4, re5, re6⟩, r4, r5, r3⟩ := wk_ev_y (π := π) (j := j) (sT := sT) (sB := sB) hc he hf
    obtain ⟨y1, y2, y3, y4⟩ := g3 hf
    have r2 : wk_ev π j sT sB α 0 2 = α 0 2 := ro _ _ (by omega) (by omega)
    unfold WKh
    rw [wk_ev_0, r1, r2, q8, q9, q10, q11, q16]
    refine ⟨⟨rfl, rfl, rfl, ?_⟩, by omega, c, fun q => ?_⟩
    · rw [r3, y4]; split <;> rfl
    · rw [r3] at q
      have nf : ¬ isFr (rdT (α 0 4 * lB_ π j sT sB + lT_ π j sT sB * α 0 5) (α 0 5 * lB_ π j sT sB)) (rdB (α 0 4 * lB_ π j sT sB + lT_ π j sT sB * α 0 5) (α 0 5 * lB_ π j sT sB)) = true := fun w => by rw [if_pos w] at q; exact absurd q.1 (by decide)
      obtain ⟨n1, n2⟩ := isFr_n nf
      obtain ⟨m1, m2⟩ := isFr_n hf
      have u1 : 0 ≤ α 0 4 * lB_ π j sT sB := Int.mul_nonneg w2.1 (by omega)
      have u2 : 1 ≤ lT_ π j sT sB * α 0 5 := by have := Int.mul_le_mul hp.1 w2.2.2.1 (by decide) (by omega); omega
      have u3 : 1 ≤ α 0 5 * lB_ π j sT sB := by have := Int.mul_le_mul w2.2.2.1 hp.2 (by decide) (by omega); omega
      have t1 := (rdT_b (show 1 ≤ α 0 4 * lB_ π j sT sB + lT_ π j sT sB * α 0 5 by omega) u3).1
      have t2 := (rdB_b (show 1 ≤ α 0 4 * lB_ π j sT sB + lT_ π j sT sB * α 0 5 by omega) u3).1
      have en : (α 0 1 + 1).toNat = e + 1 := by omega
      have ee : (α 0 1).toNat = e := by omega
      rw [ee] at w3
      unfold WKe
      rw [r1, r2, r4, r5, en]
      refine ⟨by rw [mm_i e' (by omega), y1]; omega, ⟨by omega, n1, t2, n2⟩, ⟨by rw [mm_io e']; exact y2, by rw [mm_io e']; exact y3⟩, fun k hk => ?_, fun hl k hk => ?_⟩
      · by_cases ck : k = e
        · subst ck
          have l9 : h'.2.2.1 (v + 9) k = α 0 4 := by rw [gl _ _ (by omega)]; exact w3.1
          have l10 : h'.2.2.1 (v + 10) k = α 0 5 := by rw [gl _ _ (by omega)]; exact w3.2
          have jj : (j : Int).toNat = j := tn_c j
          unfold EVh
          rw [re1, re2, re3, re4, re5, re6, r2, jj, l9, l10, mm_i e' (by omega), mm_i e' (by omega), mm_io e', mm_io e']
          refine ⟨⟨by omega, hj.1, hj.2⟩, g1.1, fun hl => ?_, ⟨rfl, rfl, g1.2.2.1, g1.2.2.2⟩, w2, hp.1, m1, hp.2, m2⟩
          rw [g1.2.1]; have := c.1 hl; omega
        · obtain ⟨y1', y2', y3', y4', y5'⟩ := w4 k (by omega)
          unfold EVh
          rw [ro 1 _ (by omega) (by omega), ro 2 _ (by omega) (by omega), ro 3 _ (by omega) (by omega), ro 4 _ (by omega) (by omega), ro 5 _ (by omega) (by omega), ro 6 _ (by omega) (by omega), r2, g _ _ (by omega) (by omega), g _ _ (by omega) (by omega), gl _ _ (by omega), gl _ _ (by omega), gl _ _ (by omega), gl _ _ (by omega)]
          exact ⟨y1', y2', y3', y4', y5'⟩
      · rw [g _ _ (by omega) (by omega), ro 7 _ (by omega) (by omega)]
        have := w5 hl k hk
        exact ⟨this.1, this.2.1, by omega⟩

/-! ===== the WALK, class: through runs and repeats ===== -/
def bq (d : Nat) : Int := 16 ^ (7 - d)
theorem bq_s : ∀ d : Nat, d < 7 → bq (d + 1) * 16 = bq d := by decide
theorem bq_u : ∀ d : Nat, d < 8 → 1 ≤ bq d ∧ bq d ≤ 268435456 := by decide
def WKp (π α : pm_T) (v : Nat) (h : ah_T) : Prop := WKh π α v h ∨ (2000 < h.2.1 9 8 ∧ 2000 < α 0 0 ∧ 0 ≤ h.2.1 v 16)
theorem RPc_w {π : pm_T} {v : Nat} {h h' : ah_T} (v24 : 24 ≤ v) (H : RPc π v h) (P : PW π) (f : fr (WW v) h h') : RPc π v h' := by
  obtain ⟨⟨a1, a2, a3, a4, a5⟩, hd, hj⟩ := H
  have g : ∀ a k, ¬ WW v a k → h'.2.1 a k = h.2.1 a k := fun a k q => fr_g f q
  refine ⟨⟨by rw [g _ _ (by omega)]; exact a1, by rw [g _ _ (by omega)]; exact a2, by rw [g _ _ (by omega)]; exact a3, by rw [g _ _ (by omega)]; exact a4, by rw [g _ _ (by omega)]; exact a5⟩, fun d h1 => by rw [g _ _ (by omega), g _ _ (by omega)]; exact hd d h1, fun j h1 => ?_⟩
  exact RPj_c (hj j h1) (P.2.2 j h1) (Int.le_refl _) (Int.le_refl _) (fun _ _ => rfl) (g _ _ (by omega)) (by rw [g _ _ (by omega)]; exact (hj j h1).1.2) ⟨g _ _ (by omega), g _ _ (by omega)⟩ (fun k _ => ⟨g _ _ (by omega), g _ _ (by omega), g _ _ (by omega)⟩) (fun k _ => g _ _ (by omega)) (fun k _ => ⟨g _ _ (by omega), g _ _ (by omega)⟩)
theorem WKp_st {π α : pm_T} {v : Nat} {h h' : ah_T} {x : Int} (hv : isV v) (H : WKp π α v h) (hx : x = h.2.1 9 8) (e : h' = st_i h 9 8 (x + 1)) : WKp π (wk_st α) v h' := by
  rcases H with H | ⟨H1, H2, H3⟩
  · exact Or.inl (WKh_st hv H hx e)
  · have v24 := isV_24 hv
    exact Or.inr ⟨by rw [mv_i e]; omega, by rw [wk_st_0]; omega, by rw [mm_i e (by omega)]; exact H3⟩
theorem cls_ok {π : pm_T} {b : Bool} {d p c : Nat} (H : RG π b d p c) : b = false → ∀ f, c ≤ f + p → cls π f (lk π p) = c := by
  induction H using RG.rc with
  | nil => intro w; cases w
  | ev _ _ _ => intro w; cases w
  | ln _ _ _ => intro w; cases w
  | st _ _ _ _ _ _ _ => intro w; cases w
  | rp _ _ _ _ _ => intro w; cases w
  | m1 h hk _ _ =>
    intro _ f _
    cases f with
    | zero => rfl
    | succ f => rw [cls, if_neg (by omega)]
  | m2 h hk _ r2 _ i2 =>
    intro _ f hf
    have := (RG_le r2).2 rfl
    obtain ⟨f', rfl⟩ : ∃ f', f = f' + 1 := ⟨f - 1, by omega⟩
    rw [cls, if_pos hk]
    exact i2 rfl f' (by omega)
/-- a repeat's walk -/
def wkR (π : pm_T) (f x : Nat) (sT sB : Int) (α : pm_T) : pm_T := if π 1 (lk π x) = 58 then wk π f false x (lk π x) sT sB α else wk π f true (x + 1) (lk π x) sT sB (wk_st (wk π f true (x + 1) (lk π x) sT sB (wk_st α)))
def AWk (G : cx_T) (s v : Nat) (π : pm_T) (d : Nat) : Prop := ∀ (dd x y F : Nat) (a2 a3 a4 sT sB : Int) (α : pm_T) (hh : ah_T), 5 + 2 * d ≤ dd → a2 = (x : Int) → a3 = (y : Int) → a4 = 7 - (d : Int) → hb s hh → RPc π v hh → RG π true d x y → y ≤ sz π → y + 1 ≤ F + x → (1 ≤ sT ∧ sT ≤ bq d) → (1 ≤ sB ∧ sB ≤ bq d) → WKp π α v hh →
  con G (dd + 1) 0 0 m_Parts_walkThrough [av_R (some 9), av_R (some v), av_I a2, av_I a3, av_I a4, av_L sT, av_L sB] hh (fun r h' => r = none ∧ hb s h' ∧ fr (WW v) hh h' ∧ WKp π (wk π F true x y sT sB α) v h' ∧ (h'.2.1 9 8 ≤ hh.2.1 9 8 ∨ h'.2.1 9 8 ≤ 2001 + 4004 * (d : Int)))
def BWk (G : cx_T) (s v : Nat) (π : pm_T) (d : Nat) : Prop := ∀ (dd o c F : Nat) (a2 a3 sT sB : Int) (α : pm_T) (hh : ah_T), 6 + 2 * d ≤ dd → a2 = (o : Int) → a3 = 6 - (d : Int) → hb s hh → RPc π v hh → RG π false d o c → c < sz π → c + 1 ≤ F + o → (1 ≤ sT ∧ sT ≤ bq d) → (1 ≤ sB ∧ sB ≤ bq d) → WKp π α v hh → hh.2.1 9 8 ≤ 2001 →
  con G (dd + 1) 0 0 m_Parts_walkRepeat [av_R (some 9), av_R (some v), av_I a2, av_I a3, av_L sT, av_L sB] hh (fun r h' => ∃ z, r = some (av_I z) ∧ z = (c : Int) ∧ hb s h' ∧ fr (WW v) hh h' ∧ WKp π (wkR π F o sT sB α) v h' ∧ h'.2.1 9 8 ≤ 2001 + 4004 * ((d : Int) + 1))
/-- the first stretch of a [ -/
theorem RG_1 {π : pm_T} {d o c : Nat} (H : RG π false d o c) : o < lk π o ∧ lk π o ≤ c ∧ RG π true d (o + 1) (lk π o) ∧ ((π 1 (lk π o) = 93 ∧ c = lk π o) ∨ (π 1 (lk π o) = 58 ∧ RG π false d (lk π o) c)) := by
  have key : ∀ (b : Bool) (d o c : Nat) (H : RG π b d o c), b = false → o < lk π o ∧ lk π o ≤ c ∧ RG π true d (o + 1) (lk π o) ∧ ((π 1 (lk π o) = 93 ∧ c = lk π o) ∨ (π 1 (lk π o) = 58 ∧ RG π false d (lk π o) c)) := by
    intro b d o c H
    induction H using RG.rc with
    | nil => intro w; cases w
    | ev _ _ _ => intro w; cases w
    | ln _ _ _ => intro w; cases w
    | st _ _ _ _ _ _ _ => intro w; cases w
    | rp _ _ _ _ _ => intro w; cases w
    | m1 h hk r _ => intro _; exact ⟨h, Nat.le_refl _, r, Or.inl ⟨hk, rfl⟩⟩
    | m2 h hk r r2 _ _ => intro _; exact ⟨h, (RG_le r2).1, r, Or.inr ⟨hk, r2⟩⟩
  exact key _ _ _ _ H rfl
theorem RG_2 {π : pm_T} {b : Bool} {d o c : Nat} (H : RG π b d o c) : b = false → π 1 c = 93 := by
  induction H using RG.rc with
  | nil => intro w; cases w
  | ev _ _ _ => intro w; cases w
  | ln _ _ _ => intro w; cases w
  | st _ _ _ _ _ _ _ => intro w; cases w
  | rp _ _ _ _ _ => intro w; cases w
  | m1 _ hk _ _ => intro _; exact hk
  | m2 _ _ _ _ _ i2 => intro _; exact i2 rfl
theorem t_BWk {G : cx_T} {s v : Nat} {π : pm_T} {d : Nat} (hv : isV v) (P : PW π) (hz : π 0 0 ≤ 2000) (hd : d < 7) (A : AWk G s v π d) : BWk G s v π d := by
  intro dd o c F a2 a3 sT sB α hh hdd ea2 ea3 hb0 HR R hc hF hT hB hK h98
  subst ea2 ea3
  have v24 := isV_24 hv
  obtain ⟨o1, o2, R1, oc⟩ := RG_1 R
  have hcs : (c : Int) < π 0 0 := by unfold sz at hc; have := P.1.1; omega
  have lkh : ∀ (h' : ah_T) (j : Nat), RPc π v h' → (j : Int) < π 0 0 → h'.2.1 11 j = (lk π j : Int) ∧ h'.2.1 10 j = π 1 j := fun h' j H hj => by
    have h1 := (H.2.2 j hj).1
    have h2 := (P.2.2 j hj).1
    exact ⟨by rw [h1.2]; unfold lk; omega, h1.1⟩
  refine c_Parts_walkRepeat (by omega) hv (X84 := fun v8 v9 v10 h1 => v8 = (lk π o : Int) ∧ 0 ≤ v10 ∧ ∃ (p f : Nat) (α' : pm_T), v9 = (p : Int) ∧ v10 + o + 1 ≤ (p : Int) ∧ hb s h1 ∧ RPc π v h1 ∧ fr (WW v) hh h1 ∧ WKp π α' v h1 ∧ h1.2.1 9 8 ≤ 2001 + 4004 * (d : Int) + v10 ∧ (lk π o - o) + (c - p) + 1 ≤ f ∧ wkR π F o sT sB α = wk π f false o p sT sB α' ∧ ((π 1 p = 58 ∧ RG π false d p c) ∨ p = c)) ?_ hb0 (fun _ _ _ _ => ?_)
  · refine lp_Parts_walkRepeat_84 (by omega) hv _ (fun _ v9 _ _ => (c : Int).toNat - v9.toNat) ?_
    rintro v8 v9 v10 h1 hb1 ⟨rfl, h10, p, f, α', rfl, hp, -, HR1, hf, hK1, hs1, hfu, ew, hc1⟩
    have hpc : p ≤ c := by
      rcases hc1 with ⟨-, r⟩ | r
      · exact (RG_le r).1
      · omega
    obtain ⟨f', rfl⟩ : ∃ f', f = f' + 1 := ⟨f - 1, by omega⟩
    unfold B_Parts_walkRepeat_84
    refine ⟨fun w => by omega, fun w => ⟨⟨by omega, by omega⟩, ?_⟩⟩
    rw [tn_c]
    intro x2 e2 _ _
    have e2' : x2 = π 1 p := e2.trans (lkh h1 p HR1 (by omega)).2
    refine ⟨fun c58 x4 e4 _ _ => ⟨⟨by omega, by omega⟩, fun h6 e6 => ⟨⟨by omega, by omega⟩, ⟨by omega, by omega⟩, ?_⟩⟩, fun c58 => ?_⟩
    · have k58 : π 1 p = 58 := e2'.symm.trans c58
      have r : RG π false d p c := by
        rcases hc1 with ⟨-, r⟩ | r
        · exact r
        · have := RG_2 R rfl; rw [← r] at this; omega
      obtain ⟨q1, q2, q3, q4⟩ := RG_1 r
      rw [wk, if_pos k58] at ew
      have hb6 := hb_i hb1 e6
      have f6 : fr (WW v) h1 h6 := fr_i fr_0 e6 (Or.inl ⟨rfl, Nat.le_refl _⟩)
      have HR6 := RPc_w v24 HR1 P f6
      obtain ⟨dd', rfl⟩ : ∃ dd', dd = dd' + 1 := ⟨dd - 1, by omega⟩
      refine con_mono (A dd' (o + 1) (lk π o) f' _ _ _ sT sB (wk_st α') h6 (by omega) (by omega) rfl (by omega) hb6 HR6 R1 (by omega) (by omega) hT hB (WKp_st hv hK1 e4 e6)) ?_
      rintro r' h10' ⟨rfl, hb10, f10, K10, s10⟩
      have HR10 := RPc_w v24 HR6 P f10
      have e68 : h6.2.1 9 8 = h1.2.1 9 8 + 1 := by rw [mv_i e6, e4]
      refine ⟨rfl, hb10, ⟨by omega, by omega⟩, fun x15 e15 _ _ => ?_⟩
      have e15' : x15 = (lk π p : Int) := e15.trans (lkh h10' p HR10 (by omega)).1
      subst e15'
      refine con_mono (A dd' (p + 1) (lk π p) f' _ _ _ sT sB _ h10' (by omega) (by omega) rfl (by omega) hb10 HR10 q3 (by omega) (by omega) hT hB K10) ?_
      rintro r' h16 ⟨rfl, hb16, f16, K16, s16⟩
      have HR16 := RPc_w v24 HR10 P f16
      refine ⟨rfl, hb16, fun x20 e20 _ _ => ?_⟩
      have e20' : x20 = (lk π p : Int) := e20.trans (lkh h16 p HR16 (by omega)).1
      subst e20'
      refine ⟨⟨by omega, by omega⟩, ⟨rfl, by omega, lk π p, f', _, rfl, by omega, hb16, HR16, fr_t (fr_t (fr_t hf f6 (fun _ _ w => w)) f10 (fun _ _ w => w)) f16 (fun _ _ w => w), K16, by omega, by omega, ew, ?_⟩, by omega⟩
      rcases q4 with ⟨-, q⟩ | q
      · exact Or.inr q.symm
      · exact Or.inl q
    · have hpe : p = c := by
        rcases hc1 with ⟨k, -⟩ | r
        · exact absurd (e2'.trans k) c58
        · exact r
      have n58 : ¬ π 1 p = 58 := fun w => c58 (e2'.trans w)
      rw [wk, if_neg n58] at ew
      unfold B_Parts_walkRepeat_169
      refine ⟨_, rfl, by omega, hb1, hf, by rw [ew]; exact hK1, by omega⟩
  · unfold B_Parts_walkRepeat_0
    refine ⟨⟨by omega, by omega⟩, ?_⟩
    rw [tn_c]
    intro x2 e2 _ _
    have e2' : x2 = (lk π o : Int) := e2.trans (lkh hh o HR (by omega)).1
    subst e2'
    refine ⟨⟨by omega, by omega⟩, ?_⟩
    rw [tn_c]
    intro x5 e5 _ _
    have e5' : x5 = π 1 (lk π o) := e5.trans (lkh hh _ HR (by omega)).2
    refine ⟨fun c58 => ?_, fun c58 x7 e7 _ _ => ⟨⟨by omega, by omega⟩, fun h9 e9 => ⟨⟨by omega, by omega⟩, ⟨by omega, by omega⟩, ?_⟩⟩⟩
    · have k58 : π 1 (lk π o) = 58 := e5'.symm.trans c58
      refine ⟨rfl, Int.le_refl _, lk π o, F, α, rfl, by omega, hb0, HR, fr_0, hK, by omega, by omega, by unfold wkR; rw [if_pos k58], ?_⟩
      rcases oc with ⟨k, -⟩ | q
      · omega
      · exact Or.inl q
    · have n58 : ¬ π 1 (lk π o) = 58 := fun w => c58 (e5'.trans w)
      have hce : c = lk π o := by
        rcases oc with ⟨-, k⟩ | q
        · exact k
        · exact absurd q.1 n58
      have hb9 := hb_i hb0 e9
      have f9 : fr (WW v) hh h9 := fr_i fr_0 e9 (Or.inl ⟨rfl, Nat.le_refl _⟩)
      have HR9 := RPc_w v24 HR P f9
      have e98 : h9.2.1 9 8 = hh.2.1 9 8 + 1 := by rw [mv_i e9, e7]
      obtain ⟨dd', rfl⟩ : ∃ dd', dd = dd' + 1 := ⟨dd - 1, by omega⟩
      refine con_mono (A dd' (o + 1) (lk π o) F _ _ _ sT sB (wk_st α) h9 (by omega) (by omega) rfl (by omega) hb9 HR9 R1 (by omega) (by omega) hT hB (WKp_st hv hK e7 e9)) ?_
      rintro r' h13 ⟨rfl, hb13, f13, K13, s13⟩
      refine ⟨rfl, hb13, fun x16 e16 _ _ => ⟨⟨by omega, by omega⟩, fun h18 e18 => ?_⟩⟩
      have HR13 := RPc_w v24 HR9 P f13
      have hb18 := hb_i hb13 e18
      have f18 : fr (WW v) h13 h18 := fr_i fr_0 e18 (Or.inl ⟨rfl, Nat.le_refl _⟩)
      have HR18 := RPc_w v24 HR13 P f18
      have e188 : h18.2.1 9 8 = h13.2.1 9 8 + 1 := by rw [mv_i e18, e16]
      refine con_mono (A dd' (o + 1) (lk π o) F _ _ _ sT sB _ h18 (by omega) (by omega) rfl (by omega) hb18 HR18 R1 (by omega) (by omega) hT hB (WKp_st hv K13 e16 e18)) ?_
      rintro r' h20 ⟨rfl, hb20, f20, K20, s20⟩
      refine ⟨rfl, hb20, _, rfl, by omega, hb20, fr_t (fr_t (fr_t f9 f13 (fun _ _ w => w)) f18 (fun _ _ w => w)) f20 (fun _ _ w => w), ?_, by omega⟩
      unfold wkR
      rw [if_neg n58]
      exact K20

/-! ===== the WALK, class: runs ===== -/
theorem RG_t {π : pm_T} {d i y : Nat} (H : RG π true d i y) (h : i < y) : (π 1 i = 256 ∧ RG π true d (i + 1) y) ∨ (π 1 i = 124 ∧ RG π true d (i + 1) y) ∨ (∃ d', d = d' + 1 ∧ π 1 i = 123 ∧ i < lk π i ∧ RG π true d' (i + 1) (lk π i) ∧ RG π true d (lk π i + 1) y) ∨ (∃ d' c, d = d' + 1 ∧ π 1 i = 91 ∧ RG π false d' i c ∧ RG π true d (c + 1) y) := by
  have key : ∀ (b : Bool) (d i y : Nat) (H : RG π b d i y), b = true → i < y → (π 1 i = 256 ∧ RG π true d (i + 1) y) ∨ (π 1 i = 124 ∧ RG π true d (i + 1) y) ∨ (∃ d', d = d' + 1 ∧ π 1 i = 123 ∧ i < lk π i ∧ RG π true d' (i + 1) (lk π i) ∧ RG π true d (lk π i + 1) y) ∨ (∃ d' c, d = d' + 1 ∧ π 1 i = 91 ∧ RG π false d' i c ∧ RG π true d (c + 1) y) := by
    intro b d i y H
    induction H using RG.rc with
    | nil => intro _ w; omega
    | ev hk r _ => intro _ _; exact Or.inl ⟨hk, r⟩
    | ln hk r _ => intro _ _; exact Or.inr (Or.inl ⟨hk, r⟩)
    | st hk hl hc r1 r2 _ _ => intro _ _; exact Or.inr (Or.inr (Or.inl ⟨_, rfl, hk, hl, r1, r2⟩))
    | rp hk r1 r2 _ _ => intro _ _; exact Or.inr (Or.inr (Or.inr ⟨_, _, rfl, hk, r1, r2⟩))
    | m1 _ _ _ _ => intro w; cases w
    | m2 _ _ _ _ _ _ => intro w; cases w
  exact key _ _ _ _ H rfl h
theorem t_AW1 {G : cx_T} {s v : Nat} {π : pm_T} {d : Nat} (hv : isV v) (P : PW π) (hz : π 0 0 ≤ 2000) (hd : d < 8) (IH : ∀ d', d = d' + 1 → AWk G s v π d' ∧ BWk G s v π d') : AWk G s v π d := by
  intro dd x y F a2 a3 a4 sT sB α hh hdd ea2 ea3 ea4 hb0 HR R hy hF hT hB hK
  subst ea2 ea3 ea4
  have v24 := isV_24 hv
  have bu := bq_u d hd
  have hyz : (y : Int) ≤ π 0 0 := by unfold sz at hy; have := P.1.1; omega
  have lkh : ∀ (h' : ah_T) (j : Nat), RPc π v h' → (j : Int) < π 0 0 → h'.2.1 11 j = (lk π j : Int) ∧ h'.2.1 10 j = π 1 j := fun h' j H hj => by
    have h1 := (H.2.2 j hj).1
    have h2 := (P.2.2 j hj).1
    exact ⟨by rw [h1.2]; unfold lk; omega, h1.1⟩
  refine c_Parts_walkThrough (by omega) hv (X11 := fun v9 h1 => ∃ (i f : Nat) (α' : pm_T), v9 = (i : Int) ∧ x ≤ i ∧ RPc π v h1 ∧ RG π true d i y ∧ y + 1 ≤ f + i ∧ fr (WW v) hh h1 ∧ WKp π α' v h1 ∧ wk π F true x y sT sB α = wk π f true i y sT sB α' ∧ (h1.2.1 9 8 ≤ hh.2.1 9 8 ∨ h1.2.1 9 8 ≤ 2001 + 4004 * (d : Int))) ?_ hb0 (fun _ _ _ _ _ => ?_)
  · refine lp_Parts_walkThrough_11 (a2 := (x : Int)) (by omega) hv _ (fun v9 _ => y - v9.toNat) ?_
    rintro v9 h1 hb1 ⟨i, f, α', rfl, hxi, HR1, R1, hfu, hf, hK1, ew, hs1⟩
    have hiy := (RG_le R1).1
    obtain ⟨f', rfl⟩ : ∃ f', f = f' + 1 := ⟨f - 1, by omega⟩
    unfold B_Parts_walkThrough_11 B_Parts_walkThrough_218
    refine ⟨fun c => ⟨rfl, hb1, hf, ?_, hs1⟩, fun c x1 e1 _ _ => ⟨fun c1 => ?_, fun c1 x2 e2 _ _ => ⟨fun c2 => ⟨rfl, hb1, hf, ?_, hs1⟩, fun c2 => ⟨⟨by omega, by omega⟩, fun h5 e5 => ⟨⟨by omega, by omega⟩, ?_⟩⟩⟩⟩⟩
    · rw [ew, wk, if_pos (by omega)]; exact hK1
    · have := e1.trans HR1.1.1; omega
    · refine Or.inr ⟨by omega, ?_, ?_⟩
      · rw [ew]
        have m := wk_mono (π := π) (f' + 1) true i y sT sB α'
        rcases hK1 with k | k
        · have := k.1.1; omega
        · omega
      · rcases hK1 with k | k
        · have k2 := k.2.1
          rcases Int.lt_or_le 100 (α' 0 2) with w | w
          · rw [k.2.2.1.2 w]; decide
          · rw [k.2.2.1.1 w]; omega
        · exact k.2.2
    rw [tn_c]
    intro x8 e8 _ _
    have hi : i < y := by omega
    have hi0 : (i : Int) < π 0 0 := by omega
    have K1 : WKh π α' v h1 := by
      rcases hK1 with k | k
      · exact k
      · omega
    have K5 := WKh_st hv K1 e2 e5
    have hb5 := hb_i hb1 e5
    have f5 : fr (WW v) h1 h5 := fr_i fr_0 e5 (Or.inl ⟨rfl, Nat.le_refl _⟩)
    have HR5 := RPc_w v24 HR1 P f5
    have e8' : x8 = π 1 i := e8.trans (lkh h5 i HR5 hi0).2
    have e58 : h5.2.1 9 8 = x2 + 1 := mv_i e5
    have s0 := wk_st_0 (α := α')
    have s1 : wk_st α' 0 1 = α' 0 1 := wk_st_o (by omega)
    have s2 : wk_st α' 0 2 = α' 0 2 := wk_st_o (by omega)
    have KB := K1.2.1
    generalize eα : wk_st α' = α5 at K5 s0 s1 s2
    have a00 : α5 0 0 ≤ 2001 := by have := K5.1.1; omega
    -- the next turn
    have nxt : ∀ (h2 : ah_T) (k : Nat) (α2 : pm_T), i ≤ k → k < y → RG π true d (k + 1) y → RPc π v h2 → fr (WW v) h5 h2 → WKp π α2 v h2 → wk π (f' + 1) true i y sT sB α' = wk π f' true (k + 1) y sT sB α2 → h2.2.1 9 8 ≤ 2001 + 4004 * (d : Int) → ((-2147483648 ≤ (k : Int) + 1 ∧ (k : Int) + 1 ≤ 2147483647) ∧ (∃ (i f : Nat) (α' : pm_T), (k : Int) + 1 = (i : Int) ∧ x ≤ i ∧ RPc π v h2 ∧ RG π true d i y ∧ y + 1 ≤ f + i ∧ fr (WW v) hh h2 ∧ WKp π α' v h2 ∧ wk π F true x y sT sB α = wk π f true i y sT sB α' ∧ (h2.2.1 9 8 ≤ hh.2.1 9 8 ∨ h2.2.1 9 8 ≤ 2001 + 4004 * (d : Int))) ∧ y - ((k : Int) + 1).toNat < y - (i : Int).toNat) := by
      intro h2 k α2 hik hky r2 HR2 f2 K2 ew2 hs2
      exact ⟨⟨by omega, by omega⟩, ⟨k + 1, f', α2, by omega, by omega, HR2, r2, by omega, fr_t (fr_t hf f5 (fun _ _ w => w)) f2 (fun _ _ w => w), K2, ew.trans ew2, Or.inr hs2⟩, by omega⟩
    unfold B_Parts_walkThrough_212
    rcases RG_t R1 hi with ⟨hk, r⟩ | ⟨hk, r⟩ | ⟨d', rfl, hk, hl, r1, r2⟩ | ⟨d', cc, rfl, hk, r1, r2⟩
    · -- an event
      have ew2 : wk π (f' + 1) true i y sT sB α' = wk π f' true (i + 1) y sT sB (wk_ev π i sT sB α5) := by
        rw [wk, if_neg (by omega), if_neg (by omega), if_neg (by omega), if_neg (by omega), if_pos hk, eα]
      refine ⟨fun q => by omega, fun _ => ⟨fun q => by omega, fun _ => ⟨fun q => by omega, fun _ x10 e10 _ _ => ?_⟩⟩⟩
      have e10' : x10 = α5 0 1 := e10.trans K5.1.2.1
      subst e10'
      refine ⟨⟨by omega, by omega⟩, fun h12 e12 => ?_⟩
      have f12 : fr (WW v) h5 h12 := fr_i fr_0 e12 (Or.inl ⟨rfl, by decide⟩)
      have evn : ¬ (α5 0 3 = 0 ∧ α5 0 1 < 300) → _ := fun hc => nxt h12 i (wk_ev π i sT sB α5) (Nat.le_refl _) hi r (RPc_w v24 HR5 P f12) f12 (Or.inl (WKh_evn (j := i) (sT := sT) (sB := sB) hv K5 (by omega) hc e12)) ew2 (by rw [mm_i e12 (by omega), e58]; omega)
      refine ⟨fun q => evn (fun w => by omega), fun q x15 e15 _ => ?_⟩
      have e15' : x15 = (if α5 0 3 = 0 then 1 else 0) := by rw [e15, mm_i e12 (by omega)]; exact K5.1.2.2.2
      refine ⟨fun q2 => evn (fun w => by rw [if_pos w.1] at e15'; omega), fun q2 x17 e17 _ _ => ?_⟩
      have c3 : α5 0 3 = 0 := by
        by_cases w : α5 0 3 = 0
        · exact w
        · rw [if_neg w] at e15'; exact absurd e15' q2
      have hc : α5 0 3 = 0 ∧ α5 0 1 < 300 := ⟨c3, by omega⟩
      have We := K5.2.2.2 ⟨c3, by omega⟩
      have E := (HR5.2.2 i hi0).2.1 hk
      have V := (P.2.2 i hi0).2.1 hk
      have pb := P.1
      obtain ⟨e, he⟩ : ∃ e : Nat, α5 0 1 = (e : Int) := ⟨(α5 0 1).toNat, by omega⟩
      obtain ⟨b, hbn⟩ : ∃ b : Nat, π 18 i = (b : Int) := ⟨(π 18 i).toNat, by have := V.2.1; omega⟩
      obtain ⟨bars, hba⟩ : ∃ bars : Nat, h5.2.1 v 16 = (bars : Int) := ⟨(h5.2.1 v 16).toNat, by
        rcases Int.lt_or_le 100 (α5 0 2) with w | w
        · rw [K5.2.2.1.2 w]; rfl
        · rw [K5.2.2.1.1 w]; omega⟩
      have eb : (π 18 i).toNat = b := by rw [hbn]; exact tn_c b
      have ee : (α5 0 1).toNat = e := by rw [he]; exact tn_c e
      have e17' : x17 = (b : Int) := by rw [e17, mm_i e12 (by omega), E.1.1, hbn]
      subst e17'
      have We3 := We.2.2.1
      rw [ee] at We3
      have E' := E.1
      rw [eb] at E'
      refine con_mono (t_Voice_addEvent (e := e) (b := b) (bars := bars) (n := π 2 i) (d := π 3 i) (nT := α5 0 4) (nB := α5 0 5) hv (hb_i hb5 e12) (by rw [mm_i e12 (by omega), We.1, he]) (by omega) (by have := V.2.1; omega) (by rw [mm_i e12 (by omega)]; exact E'.2.1) V.1.1 (by rw [mm_i e12 (by omega)]; exact E'.2.2.1) V.1.2.1 (by rw [mm_i e12 (by omega)]; exact hba) ⟨hT.1, by omega⟩ ⟨hB.1, by omega⟩ (by rw [mm_io e12]; exact We3.1) (by rw [mm_io e12]; exact We3.2) ⟨We.2.1.1, We.2.1.2.1, We.2.1.2.2.1, We.2.1.2.2.2⟩) ?_
      rintro r' h18 ⟨z, lT, lB, rfl, hb18, f18, eT, eB, hp, g1, g2, g3⟩
      refine ⟨z, rfl, hb18, ?_, fun h21 e21 => ?_⟩
      · by_cases w : isFr lT lB = true
        · exact Or.inl (g2 w)
        · rw [(g3 w).2.2.2]; split <;> omega
      · have K21 := WKh_evy (π := π) (j := i) (sT := sT) (sB := sB) hv K5 (by omega) hc ⟨hi0, hk⟩ he hba e12 f18 eT eB hp ⟨by rw [g1.1, hbn], g1.2⟩ g2 g3 e21
        have f21 : fr (WW v) h5 h21 := fr_i (fr_t f12 f18 (fun a k w => by omega)) e21 (Or.inl ⟨rfl, by decide⟩)
        exact nxt h21 i (wk_ev π i sT sB α5) (Nat.le_refl _) hi r (RPc_w v24 HR5 P f21) f21 (Or.inl K21) ew2 (by rw [mm_i e21 (by omega), fr_g f18 (by omega), mm_i e12 (by omega), e58]; omega)
    · -- a |
      have ew2 : wk π (f' + 1) true i y sT sB α' = wk π f' true (i + 1) y sT sB (wk_ln α5) := by
        rw [wk, if_neg (by omega), if_neg (by omega), if_neg (by omega), if_pos hk, eα]
      refine ⟨fun q => by omega, fun _ => ⟨fun q => by omega, fun _ => ⟨fun _ => ?_, fun q => by omega⟩⟩⟩
      obtain ⟨l, hl⟩ : ∃ l : Nat, α5 0 2 = (l : Int) := ⟨(α5 0 2).toNat, by omega⟩
      obtain ⟨bars, hba, hb102⟩ : ∃ bars : Nat, h5.2.1 v 16 = (bars : Int) ∧ (l < 100 → bars < 102) := by
        rcases Int.lt_or_le 100 (α5 0 2) with w | w
        · exact ⟨101, by rw [K5.2.2.1.2 w]; rfl, fun _ => by decide⟩
        · exact ⟨l + 1, by rw [K5.2.2.1.1 w]; omega, fun _ => by omega⟩
      refine con_mono (t_Parts_meetLine (b := bars) (l := l) hv hb5 (by rw [K5.1.2.2.1, hl]) (by omega) hba hb102) ?_
      rintro r' h23 ⟨rfl, hb23, f23, g1, g2, g3⟩
      have K23 := WKh_ln hv K5 (by omega) hl hba f23 g1 g2 g3
      have fw : fr (WW v) h5 h23 := fr_w f23 (fun a k w => by omega)
      exact ⟨rfl, hb23, nxt h23 i (wk_ln α5) (Nat.le_refl _) hi r (RPc_w v24 HR5 P fw) fw (Or.inl K23) ew2 (by rw [fr_g f23 (by omega), e58]; omega)⟩
    · -- a {
      obtain ⟨A, -⟩ := IH d' rfl
      have hl2 := (RG_le r2).1
      have V := (P.2.2 i hi0).2.2 hk
      have E := (HR5.2.2 i hi0).2.2 hk
      have bs := bq_s d' (by omega)
      have ew2 : wk π (f' + 1) true i y sT sB α' = wk π f' true (lk π i + 1) y sT sB (wk π f' true (i + 1) (lk π i) (sT * π 3 i) (sB * π 2 i) α5) := by
        rw [wk, if_neg (by omega), if_neg (by omega), if_pos hk, eα]
      refine ⟨fun q => by omega, fun _ => ⟨fun _ => ⟨⟨by omega, by omega⟩, ?_⟩, fun q => by omega⟩⟩
      intro x28 e28 _ _
      have e28' : x28 = (lk π i : Int) := e28.trans (lkh h5 i HR5 hi0).1
      subst e28'
      refine ⟨⟨by omega, by omega⟩, fun x31 e31 _ _ x32 e32 => ?_⟩
      have e31' : x31 = π 3 i := e31.trans E.2
      subst e31'
      have m1 : 1 ≤ sT * π 3 i ∧ sT * π 3 i ≤ bq (d' + 1) * 16 := ⟨by have := Int.mul_le_mul hT.1 V.2.1 (by decide) (by omega); omega, Int.mul_le_mul hT.2 V.2.2 (by omega) (by omega)⟩
      refine ⟨⟨by omega, by omega⟩, fun x35 e35 _ _ x36 e36 => ?_⟩
      have e35' : x35 = π 2 i := e35.trans E.1
      subst e35'
      have m2 : 1 ≤ sB * π 2 i ∧ sB * π 2 i ≤ bq (d' + 1) * 16 := ⟨by have := Int.mul_le_mul hB.1 V.1.1 (by decide) (by omega); omega, Int.mul_le_mul hB.2 V.1.2 (by omega) (by omega)⟩
      have bu' := bq_u d' (by omega)
      refine ⟨⟨by omega, by omega⟩, ?_⟩
      obtain ⟨dd', rfl⟩ : ∃ dd', dd = dd' + 1 := ⟨dd - 1, by omega⟩
      rw [← e32, ← e36] at ew2
      refine con_mono (A dd' (i + 1) (lk π i) f' _ _ _ x32 x36 α5 h5 (by omega) (by omega) rfl (by omega) hb5 HR5 r1 (by omega) (by omega) ⟨by omega, by omega⟩ ⟨by omega, by omega⟩ (Or.inl K5)) ?_
      rintro r' h38 ⟨rfl, hb38, f38, K38, s38⟩
      have HR38 := RPc_w v24 HR5 P f38
      refine ⟨rfl, hb38, fun x42 e42 _ _ x43 e43 _ _ => ?_⟩
      have e42' : x42 = (lk π i : Int) := e42.trans (lkh h38 i HR38 hi0).1
      have e43' : x43 = (lk π i : Int) := by rw [e43, e42', if_pos (by omega)]
      subst e43'
      exact nxt h38 (lk π i) _ (by omega) (by omega) r2 HR38 f38 K38 ew2 (by omega)
    · -- a [
      obtain ⟨-, Bw⟩ := IH d' rfl
      have hl1 := (RG_le r1).2 rfl
      have hl2 := (RG_le r2).1
      have bs := bq_s d' (by omega)
      have bu' := bq_u (d' + 1) (by omega)
      have ew2 : wk π (f' + 1) true i y sT sB α' = wk π f' true (cc + 1) y sT sB (wkR π f' i sT sB α5) := by
        rw [wk, if_neg (by omega), if_pos hk, cls_ok r1 rfl f' (by omega), eα]; rfl
      refine ⟨fun _ => ?_, fun q => by omega⟩
      obtain ⟨dd', rfl⟩ : ∃ dd', dd = dd' + 1 := ⟨dd - 1, by omega⟩
      refine con_mono (Bw dd' i cc f' _ _ sT sB α5 h5 (by omega) rfl (by omega) hb5 HR5 r1 (by omega) (by omega) ⟨hT.1, by omega⟩ ⟨hB.1, by omega⟩ (Or.inl K5) (by omega)) ?_
      rintro r' h44 ⟨z, rfl, rfl, hb44, f44, K44, s44⟩
      refine ⟨_, rfl, hb44, fun x47 e47 _ _ => ?_⟩
      have e47' : x47 = (cc : Int) := by rw [e47, if_pos (by omega)]
      subst e47'
      exact nxt h44 cc _ (by omega) (by omega) r2 (RPc_w v24 HR5 P f44) f44 K44 ew2 (by omega)
  · unfold B_Parts_walkThrough_0
    exact ⟨fun _ => ⟨x, F, α, rfl, Nat.le_refl _, HR, R, hF, fr_0, hK, rfl, Or.inl (Int.le_refl _)⟩, fun c => by omega⟩
theorem t_AWk {G : cx_T} {s v : Nat} {π : pm_T} (hv : isV v) (P : PW π) (hz : π 0 0 ≤ 2000) : ∀ d, d < 8 → AWk G s v π d
  | 0, hd => t_AW1 hv P hz hd (fun d' e => by omega)
  | d + 1, hd => t_AW1 hv P hz hd (fun d' e => by
      have e' : d' = d := by omega
      subst e'
      have A := t_AWk (G := G) (s := s) hv P hz d' (by omega)
      exact ⟨A, t_BWk hv P hz (by omega) A⟩)
