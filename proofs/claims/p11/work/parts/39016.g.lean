/-! ===== the class's reader: items but voices ===== -/
/-- the score at s tells the memory; its names too -/
def RSc (μ : pm_T) (s : Nat) (h : ah_T) : Prop := (h.2.1 s 4 = μ 0 0 ∧ h.2.1 s 2 = μ 0 1 ∧ h.2.1 s 3 = μ 0 2 ∧ h.2.1 s 6 = μ 0 3 ∧ h.2.1 s 10 = μ 0 4 ∧ h.2.1 s 12 = μ 0 5 ∧ h.2.1 2 3 = μ 0 6 ∧ h.2.1 s 1 = μ 0 7) ∧
  ((0 ≤ μ 0 3 ∧ μ 0 3 ≤ 8) ∧ (0 ≤ μ 0 4 ∧ μ 0 4 ≤ 24) ∧ (0 ≤ μ 0 5 ∧ μ 0 5 ≤ 12) ∧ (0 ≤ μ 0 6 ∧ μ 0 6 ≤ 16) ∧ (0 ≤ μ 0 7 ∧ μ 0 7 ≤ 4)) ∧
  (∀ j : Nat, (j : Int) < μ 0 3 → h.2.1 (s + 2) j = μ 1 j) ∧ (∀ j : Nat, (j : Int) < μ 0 4 → h.2.1 (s + 3) j = μ 2 j ∧ h.2.1 (s + 4) j = μ 3 j ∧ h.2.1 (s + 5) j = μ 4 j) ∧ (∀ j : Nat, (j : Int) < μ 0 5 → h.2.1 (s + 6) j = μ 5 j) ∧ (∀ j : Nat, (j : Int) < μ 0 6 → h.2.2.1 16 j = μ 6 j)
theorem RSc_f {μ : pm_T} {s : Nat} {W : Nat → Nat → Prop} {h h' : ah_T} (H : RSc μ s h) (f : fr W h h') (h1 : ∀ a k, s ≤ a → a ≤ s + 6 → ¬ W a k) (h2 : ¬ W 2 3) (h3 : ∀ k, ¬ W 16 k) : RSc μ s h' := by
  have g : ∀ o k, o ≤ 6 → h'.2.1 (s + o) k = h.2.1 (s + o) k := fun o k ho => fr_g f (h1 _ _ (by omega) (by omega))
  have g0 : ∀ k, h'.2.1 s k = h.2.1 s k := fun k => g 0 k (by decide)
  obtain ⟨a1, a2, a3, a4, a5, a6⟩ := H
  refine ⟨?_, a2, fun j hj => ?_, fun j hj => ?_, fun j hj => ?_, fun j hj => ?_⟩
  · rw [g0, g0, g0, g0, g0, g0, g0, fr_g f h2]; exact a1
  · rw [g 2 j (by decide)]; exact a3 j hj
  · rw [g 3 j (by decide), g 4 j (by decide), g 5 j (by decide)]; exact a4 j hj
  · rw [g 6 j (by decide)]; exact a5 j hj
  · rw [fr_gl f (h3 j)]; exact a6 j hj
def RCs (t : tk_T) (m i : Nat) (μ : pm_T) (s : Nat) (h : ah_T) : Prop := RCt t m i h ∧ RSc μ s h ∧ h.2.1 2 6 = 0
/-- what reading writes -/
abbrev WR (s : Nat) : Nat → Nat → Prop := fun a k => (a = 3 ∧ (k = 5 ∨ 9 ≤ k)) ∨ (a = 2 ∧ (k = 3 ∨ 6 ≤ k)) ∨ a = 16 ∨ (s ≤ a ∧ a ≤ s + 6)
def PBc (t : tk_T) (m s : Nat) (R : F_T ⊕ (Nat × pm_T)) (z : Int) (h' : ah_T) : Prop := match R with
  | .inl q => z = 0 ∧ h'.2.1 2 6 = q.1 ∧ h'.2.1 2 7 = q.2
  | .inr q => z = 1 ∧ RCs t m q.1 q.2 s h'
abbrev QB (t : tk_T) (m s : Nat) (R : F_T ⊕ (Nat × pm_T)) (h : ah_T) : Option av_T → ah_T → Prop := fun r h' => ∃ z, r = some (av_I z) ∧ hb s h' ∧ fr (WR s) h h' ∧ (z = 0 ∨ z = 1) ∧ PBc t m s R z h'
theorem t_Reader_blame {G : cx_T} {s : Nat} {h : ah_T} {a1 a2 : Int} (hb0 : hb s h) : con G 0 0 0 m_Reader_blame [av_R (some 2), av_I a1, av_I a2] h (fun r h' => ∃ z, r = some (av_I z) ∧ hb s h' ∧ fr (WR s) h h' ∧ z = 0 ∧ h'.2.1 2 6 = a1 ∧ h'.2.1 2 7 = a2) := by
  refine c_Reader_blame hb0 (fun _ _ => ?_)
  unfold B_Reader_blame_0
  intro h1 e1 h3 e3
  exact ⟨0, rfl, hb_i (hb_i hb0 e1) e3, fr_i (fr_i fr_0 e1 (Or.inr (Or.inl ⟨rfl, by decide⟩))) e3 (Or.inr (Or.inl ⟨rfl, by decide⟩)), rfl, by rw [mm_i e3 (by decide), mv_i e1], mv_i e3⟩
theorem t_Reader_refuse {G : cx_T} {s : Nat} {h : ah_T} {t : tk_T} {m i : Nat} (hb0 : hb s h) (H : RCt t m i h) : con G 0 0 0 m_Reader_refuse [av_R (some 2)] h (fun r h' => ∃ z, r = some (av_I z) ∧ hb s h' ∧ fr (WR s) h h' ∧ z = 0 ∧ h'.2.1 2 6 = (cn t i).1 ∧ h'.2.1 2 7 = (cn t i).2) := by
  obtain ⟨-, -, -, -, -, r6, r7, -, -⟩ := H
  refine c_Reader_refuse hb0 ?_
  unfold B_Reader_refuse_0 B_Reader_refuse_19 cn
  intro x2 e2 _ _
  refine ⟨fun c h1 e1 x4 e4 _ _ h5 e5 => ⟨0, rfl, hb_i (hb_i hb0 e1) e5, fr_i (fr_i fr_0 e1 (Or.inr (Or.inl ⟨rfl, by decide⟩))) e5 (Or.inr (Or.inl ⟨rfl, by decide⟩)), rfl, ?_, ?_⟩, fun c h1 e1 x4 e4 _ _ h5 e5 => ⟨0, rfl, hb_i (hb_i hb0 e1) e5, fr_i (fr_i fr_0 e1 (Or.inr (Or.inl ⟨rfl, by decide⟩))) e5 (Or.inr (Or.inl ⟨rfl, by decide⟩)), rfl, ?_, ?_⟩⟩
  · rw [mm_i e5 (by decide), mv_i e1, if_pos (by omega)]
  · rw [mv_i e5, e4, mm_i e1 (by decide), r7]
  · rw [mm_i e5 (by decide), mv_i e1, if_neg (by omega)]
  · rw [mv_i e5, e4, mm_i e1 (by decide), r7]
theorem RCt_R {t : tk_T} {m i : Nat} {h h' : ah_T} {W : Nat → Nat → Prop} (H : RCt t m i h) (f : fr W h h') (hW : ∀ a k, W a k → a < 3 ∨ 7 < a) : RCt t m i h' := RCt_f H f hW
theorem WN_R {s : Nat} : ∀ a k, WN a k → WR s a k := fun _ _ q => Or.inl q
/-- one token further -/
theorem t_Reader_step {G : cx_T} {s : Nat} {h : ah_T} {t : tk_T} {m i : Nat} {μ : pm_T} (hb0 : hb s h) (H : RCs t m i μ s h) (hi : i + 1 < m) : con G 0 0 0 m_Tokens_next [av_R (some 3)] h (fun r h' => r = none ∧ hb s h' ∧ fr (WR s) h h' ∧ RCs t m (i + 1) μ s h') := by
  have hs : s = 17 ∨ s = 80 := hb0.2.1
  refine con_mono (t_Tokens_next hb0 H.1 hi) ?_
  rintro r h' ⟨rfl, hb1, f1, r1⟩
  exact ⟨rfl, hb1, fr_w f1 WN_R, r1, RSc_f H.2.1 f1 (fun a k p q w => by omega) (fun w => by omega) (fun k w => by omega), (fr_g f1 (by omega)).trans H.2.2⟩
theorem t_Reader_take {G : cx_T} {s : Nat} {h : ah_T} {t : tk_T} {m i : Nat} {μ : pm_T} {k : Int} (hb0 : hb s h) (H : RCs t m i μ s h) (hg : tK t i = k → i + 1 < m) : con G 1 0 0 m_Reader_take [av_R (some 2), av_I k] h (QB t m s (bnd (sp_take t i k) fun _ => .inr (i + 1, μ)) h) := by
  refine c_Reader_take hb0 (fun _ => ?_)
  unfold B_Reader_take_0
  intro x2 e2 _ _
  have ek : x2 = tK t i := e2.trans H.1.2.2.2.2.2.1
  refine ⟨fun c => ?_, fun c => ?_⟩
  · refine con_mono (t_Reader_step hb0 H (hg (by omega))) ?_
    rintro r h' ⟨rfl, hb1, f1, r1⟩
    refine ⟨rfl, hb1, 1, rfl, hb1, f1, Or.inr rfl, ?_⟩
    rw [sp_take, if_pos (by omega)]
    exact ⟨rfl, r1⟩
  · refine con_mono (t_Reader_refuse hb0 H.1) ?_
    rintro r h' ⟨z, rfl, hb1, f1, rfl, r1, r2⟩
    refine ⟨0, rfl, hb1, Or.inl rfl, 0, rfl, hb1, f1, Or.inl rfl, ?_⟩
    rw [sp_take, if_neg (by omega)]
    exact ⟨rfl, r1, r2⟩
def PNc (t : tk_T) (m i s : Nat) (μ : pm_T) (R : F_T ⊕ Int) (z : Int) (h' : ah_T) : Prop := match R with
  | .inl q => z = 0 ∧ h'.2.1 2 6 = q.1 ∧ h'.2.1 2 7 = q.2
  | .inr v => z = v ∧ 1 ≤ v ∧ v ≤ 64 ∧ RCs t m (i + 1) μ s h'

/-! ===== the class's reader, 2 ===== -/
def us_I (x k : Int) : Int := ((Int32.ofInt x).toUInt32 >>> ((Int32.ofInt k).toUInt32 &&& Int32.toUInt32 31)).toInt32.toInt
def an_I (x m : Int) : Int := ((Int32.ofInt x) &&& (Int32.ofInt m)).toInt
def bc3 (a : Int) : Int := w32 (a - an_I (us_I a 1) 1431655765)
def bc7 (x : Int) : Int := w32 (an_I x 858993459 + an_I (us_I x 2) 858993459)
def bc10 (x : Int) : Int := an_I (w32 (x + us_I x 4)) 252645135
def bc12 (x k : Int) : Int := w32 (x + us_I x k)
def bcF (a : Int) : Int := an_I (bc12 (bc12 (bc10 (bc7 (bc3 a))) 8) 16) 63
theorem bc_ok : ∀ k : Nat, k < 65 → (bcF k = 1 ↔ pwb k = true) := by decide +kernel
theorem t_bitCount {G : cx_T} {s : Nat} {h : ah_T} {a : Int} (hb0 : hb s h) (h0 : 0 ≤ a) (h1 : a ≤ 64) : con G 0 0 0 m_JInteger_bitCount [av_I a] h (fun r h' => ∃ z, r = some (av_I z) ∧ hb s h' ∧ h' = h ∧ (z = 1 ↔ pwb a = true)) := by
  refine c_JInteger_bitCount hb0 (fun _ => ?_)
  unfold B_JInteger_bitCount_0
  intro x1 e1 _ _ x2 e2 _ _ x3 e3 _ _ x4 e4 _ _ x5 e5 _ _ x6 e6 _ _ x7 e7 _ _ x8 e8 _ _ x9 e9 _ _ x10 e10 _ _ x11 e11 _ _ x12 e12 _ _ x13 e13 _ _ x14 e14 _ _ x15 e15 _ _
  have k3 : x3 = bc3 a := by rw [e3, e2, e1]; rfl
  have k7 : x7 = bc7 x3 := by rw [e7, e6, e5, e4]; rfl
  have k10 : x10 = bc10 x7 := by rw [e10, e9, e8]; rfl
  have k12 : x12 = bc12 x10 8 := by rw [e12, e11]; rfl
  have k14 : x14 = bc12 x12 16 := by rw [e14, e13]; rfl
  have k15 : x15 = bcF a := by rw [e15, k14, k12, k10, k7, k3]; rfl
  refine ⟨x15, rfl, hb0, rfl, ?_⟩
  obtain ⟨k, rfl⟩ : ∃ k : Nat, a = k := ⟨a.toNat, by omega⟩
  rw [k15]
  exact bc_ok k (by omega)
theorem RCs_b {t : tk_T} {m i : Nat} {μ : pm_T} {s : Nat} {h : ah_T} (H : RCs t m i μ s h) : h.2.1 3 9 = tK t i ∧ h.2.1 3 10 = tP t i ∧ h.2.2.1 3 11 = tV' t i ∧ h.2.1 3 12 = tS t i := H.1.2.2.2.2.2
theorem t_Reader_readNumber {G : cx_T} {s : Nat} {h : ah_T} {t : tk_T} {m i : Nat} {μ : pm_T} {most w : Int} {pw : Bool} (hb0 : hb s h) (H : RCs t m i μ s h) (hg : tK t i = 259 → i + 1 < m ∧ 0 ≤ tV' t i ∧ tV' t i ≤ 9999) (hw : w = if pw = true then 1 else 0) (hm : most ≤ 64) : con G 1 0 0 m_Reader_readNumber [av_R (some 2), av_I most, av_I w] h (fun r h' => ∃ z, r = some (av_I z) ∧ hb s h' ∧ fr (WR s) h h' ∧ PNc t m i s μ (sp_num t i most pw) z h') := by
  obtain ⟨c9, c10, c11, c12⟩ := RCs_b H
  refine c_Reader_readNumber hb0 (fun _ _ => ?_)
  unfold B_Reader_readNumber_0
  intro x2 e2 _ _
  refine ⟨fun c x4 e4 _ _ => ?_, fun c => ?_⟩
  · have hk : tK t i = 259 := by omega
    obtain ⟨g1, g2, g3⟩ := hg hk
    have ev : x4 = tV' t i := e4.trans c11
    have bad : ¬ ((1 ≤ tV' t i ∧ tV' t i ≤ most) ∧ (pw = false ∨ pwb (tV' t i) = true)) → ∀ hx : ah_T, hx = h → B_Reader_readNumber_51 G s most w hx (fun r h' => ∃ z, r = some (av_I z) ∧ hb s h' ∧ fr (WR s) h h' ∧ PNc t m i s μ (sp_num t i most pw) z h') := by
      rintro hn hx rfl
      unfold B_Reader_readNumber_51
      intro y ey _ _
      refine con_mono (t_Reader_blame hb0) ?_
      rintro r h' ⟨z, rfl, hb1, f1, rfl, r1, r2⟩
      refine ⟨0, rfl, hb1, 0, rfl, hb1, f1, ?_⟩
      rw [sp_num, if_pos hk, if_neg hn]
      exact ⟨rfl, r1, by rw [r2, ey, c10]⟩
    have good : ((1 ≤ tV' t i ∧ tV' t i ≤ most) ∧ (pw = false ∨ pwb (tV' t i) = true)) → ∀ hx : ah_T, hx = h → B_Reader_readNumber_66 G s most w x4 hx (fun r h' => ∃ z, r = some (av_I z) ∧ hb s h' ∧ fr (WR s) h h' ∧ PNc t m i s μ (sp_num t i most pw) z h') := by
      rintro hn hx rfl
      unfold B_Reader_readNumber_66
      refine con_mono (t_Reader_step hb0 H g1) ?_
      rintro r h' ⟨rfl, hb1, f1, r1⟩
      refine ⟨rfl, hb1, x4, rfl, hb1, f1, ?_⟩
      rw [sp_num, if_pos hk, if_pos hn]
      exact ⟨ev, hn.1.1, by omega, r1⟩
    refine ⟨⟨by omega, by omega⟩, fun d => bad (fun q => by omega) h rfl, fun d => ⟨fun d1 => bad (fun q => by omega) h rfl, fun d1 => ⟨fun d2 => good ⟨⟨by omega, by omega⟩, Or.inl ?_⟩ h rfl, fun d2 => ?_⟩⟩⟩
    · cases pw with
      | false => rfl
      | true => simp at hw; omega
    · have hp : pw = true := by
        cases pw with
        | true => rfl
        | false => simp at hw; omega
      refine con_mono (t_bitCount hb0 (by omega) (by omega)) ?_
      rintro r h6 ⟨z8, rfl, hb6, rfl, hz⟩
      refine ⟨z8, rfl, hb6, fun d3 => good ⟨⟨by omega, by omega⟩, Or.inr (by rw [← ev]; exact hz.mp d3)⟩ h6 rfl, fun d3 => bad (fun q => ?_) h6 rfl⟩
      rcases q.2 with q2 | q2
      · rw [hp] at q2; cases q2
      · exact d3 (hz.mpr (by rw [ev]; exact q2))
  · refine con_mono (t_Reader_refuse hb0 H.1) ?_
    rintro r h' ⟨z, rfl, hb1, f1, rfl, r1, r2⟩
    refine ⟨0, rfl, hb1, 0, rfl, hb1, f1, ?_⟩
    rw [sp_num, if_neg (by omega)]
    exact ⟨rfl, r1, r2⟩
/-- facts of a table that reading needs: a good token isn't the last one; NUMBERS are small -/
def TG (t : tk_T) (m : Nat) : Prop := (∀ i, i < m → gk (tK t i) → i + 1 < m) ∧ (∀ i, i < m → tK t i = 259 → 0 ≤ tV' t i ∧ tV' t i ≤ 9999) ∧ (∀ i, i < m → tK t i = 258 → (-2 ≤ tV' t i ∧ tV' t i ≤ 109) ∧ 0 ≤ tS t i ∧ tS t i ≤ 62)
theorem gk_of {K k : Int} (h : K = k) (h1 : k ≠ 256) (h2 : k ≠ 257) : gk K := ⟨by omega, by omega⟩
theorem t_Score_setTime {G : cx_T} {s : Nat} {h : ah_T} {a b : Int} (hb0 : hb s h) : con G 0 0 0 m_Score_setTime [av_R (some s), av_I a, av_I b] h (fun r h' => r = none ∧ hb s h' ∧ fr (fun x _ => x = s) h h' ∧ h'.2.1 s = up1 (up1 (up1 (h.2.1 s) 4 1) 2 a) 3 b) := by
  refine c_Score_setTime hb0 (fun _ _ => ?_)
  unfold B_Score_setTime_0
  intro h1 e1 h3 e3 h5 e5
  refine ⟨rfl, hb_i (hb_i (hb_i hb0 e1) e3) e5, fr_i (fr_i (fr_i fr_0 e1 rfl) e3 rfl) e5 rfl, ?_⟩
  subst e5 e3 e1
  simp only [st_i, up2_s]
theorem up1_at {α : Type} {f : Nat → α} {k : Nat} {v : α} : up1 f k v k = v := by simp [up1]
theorem up1_n {α : Type} {f : Nat → α} {k j : Nat} {v : α} (h : j ≠ k) : up1 f k v j = f j := by simp [up1, h]
theorem RCs_sc {t : tk_T} {m i : Nat} {μ μ' : pm_T} {s : Nat} {h h' : ah_T} {W : Nat → Nat → Prop} (H : RCs t m i μ s h) (f : fr W h h') (hs : 17 ≤ s) (hW : ∀ a k, W a k → s ≤ a ∧ a ≤ s + 6) (h2 : RSc μ' s h') : RCs t m i μ' s h' :=
  ⟨RCt_f H.1 f (fun a k q => by have := hW a k q; omega), h2, (fr_g f (fun q => by have := hW _ _ q; omega)).trans H.2.2⟩
theorem t_Reader_readTime {G : cx_T} {s : Nat} {h : ah_T} {t : tk_T} {m i : Nat} {μ : pm_T} (hb0 : hb s h) (hT : TG t m) (H : RCs t m i μ s h) (hg : gk (tK t i)) (h01 : μ 0 0 = 0 ∨ μ 0 0 = 1) : con G 2 0 0 m_Reader_readTime [av_R (some 2)] h (QB t m s (sp_time t i μ) h) := by
  have hs : s = 17 ∨ s = 80 := hb0.2.1
  obtain ⟨c9, c10, -, -⟩ := RCs_b H
  have gn : ∀ j, j < m → tK t j = 259 → j + 1 < m ∧ 0 ≤ tV' t j ∧ tV' t j ≤ 9999 := fun j hj hk => ⟨hT.1 j hj ⟨by omega, by omega⟩, hT.2.1 j hj hk⟩
  refine c_Reader_readTime hb0 ?_
  unfold B_Reader_readTime_0 B_Reader_readTime_51
  intro x2 e2 _
  have em : x2 = μ 0 0 := e2.trans H.2.1.1.1
  refine ⟨fun c => ?_, fun c x24 e24 _ _ => ?_⟩
  · rw [sp_time, if_pos (by omega)]
    refine con_mono (t_Reader_step hb0 H (hT.1 i H.1.2.2.1 hg)) ?_
    rintro r h4 ⟨rfl, hb4, f4, H4⟩
    refine ⟨rfl, hb4, ?_⟩
    refine con_mono (t_Reader_readNumber (pw := false) hb4 H4 (gn _ H4.1.2.2.1) rfl (by decide)) ?_
    rintro r h7 ⟨z9, rfl, hb7, f7, p7⟩
    have f47 := fr_t f4 f7 (fun _ _ w => w)
    refine ⟨z9, rfl, hb7, fun d => ?_, fun d => ?_⟩
    · rcases e : sp_num t (i + 1) 32 false with q | v
      · rw [e] at p7; exact ⟨0, rfl, hb7, f47, Or.inl rfl, rfl, p7.2⟩
      · rw [e] at p7; exact absurd p7.2.1 (by have := p7.1; omega)
    rcases e : sp_num t (i + 1) 32 false with q | v
    · rw [e] at p7; exact absurd p7.1 d
    rw [e] at p7
    obtain ⟨rfl, v1, v2, H7⟩ := p7
    simp only [bnd]
    refine con_mono (t_Reader_take (k := 47) hb7 H7 (fun w => hT.1 _ H7.1.2.2.1 (gk_of w (by decide) (by decide)))) ?_
    rintro r h10 ⟨z12, rfl, hb10, f10, -, p10⟩
    have f710 := fr_t f47 f10 (fun _ _ w => w)
    rcases e2' : sp_take t (i + 2) 47 with q | v
    · rw [e2'] at p10
      obtain ⟨rfl, p10⟩ := p10
      exact ⟨0, rfl, hb10, fun _ => ⟨0, rfl, hb10, f710, Or.inl rfl, rfl, p10⟩, fun d => absurd rfl d⟩
    rw [e2'] at p10
    obtain ⟨rfl, H10⟩ := p10
    refine ⟨1, rfl, hb10, fun d => absurd d (by decide), fun _ => ?_⟩
    dsimp only
    refine con_mono (t_Reader_readNumber (pw := true) hb10 H10 (gn _ H10.1.2.2.1) rfl (by decide)) ?_
    rintro r h13 ⟨z15, rfl, hb13, f13, p13⟩
    have f1013 := fr_t f710 f13 (fun _ _ w => w)
    rcases e3 : sp_num t (i + 3) 32 true with q | v'
    · rw [e3] at p13
      obtain ⟨rfl, p13⟩ := p13
      exact ⟨0, rfl, hb13, fun _ => ⟨0, rfl, hb13, f1013, Or.inl rfl, rfl, p13⟩, fun d => absurd rfl d⟩
    rw [e3] at p13
    obtain ⟨rfl, v1', v2', H13⟩ := p13
    refine ⟨z15, rfl, hb13, fun d => by omega, fun _ => ?_⟩
    refine con_mono (t_Score_setTime hb13) ?_
    rintro r h17 ⟨rfl, hb17, f17, g17⟩
    have H17 : RCs t m (i + 4) (up2 (up2 (up2 μ 0 0 1) 0 1 z9) 0 2 z15) s h17 := by
      refine RCs_sc H13 f17 (by omega) (fun a k w => by omega) ?_
      obtain ⟨⟨a0, a1, a2, a3, a4, a5, a6, a7⟩, b, l, ru, ro, na⟩ := H13.2.1
      have gx : ∀ o k, 0 < o → h17.2.1 (s + o) k = h13.2.1 (s + o) k := fun o k ho => fr_g f17 (by omega)
      refine ⟨⟨?_, ?_, ?_, ?_, ?_, ?_, ?_, ?_⟩, b, fun j hj => (gx 2 j (by decide)).trans (l j hj), fun j hj => ?_, fun j hj => (gx 6 j (by decide)).trans (ro j hj), fun j hj => (fr_gl f17 (by omega)).trans (na j hj)⟩
      · rw [g17]; rfl
      · rw [g17]; rfl
      · rw [g17]; rfl
      · rw [g17]; exact a3
      · rw [g17]; exact a4
      · rw [g17]; exact a5
      · exact (fr_g f17 (by omega)).trans a6
      · rw [g17]; exact a7
      · rw [gx 3 j (by decide), gx 4 j (by decide), gx 5 j (by decide)]; exact ru j hj
    have f1317 := fr_t f1013 f17 (fun a k w => Or.inr (Or.inr (Or.inr (by omega))))
    refine ⟨rfl, hb17, ?_⟩
    refine con_mono (t_Reader_take (k := 59) hb17 H17 (fun w => hT.1 _ H17.1.2.2.1 (gk_of w (by decide) (by decide)))) ?_
    rintro r h20 ⟨z22, rfl, hb20, f20, z01, p20⟩
    exact ⟨z22, rfl, hb20, z01, z22, rfl, hb20, fr_t f1317 f20 (fun _ _ w => w), z01, p20⟩
  · rw [sp_time, if_neg (by omega)]
    refine con_mono (t_Reader_blame hb0) ?_
    rintro r h' ⟨z, rfl, hb1, f1, rfl, r1, r2⟩
    exact ⟨0, rfl, hb1, Or.inl rfl, 0, rfl, hb1, f1, Or.inl rfl, rfl, r1, by rw [r2, e24, c10]⟩

/-! ===== the class's reader, 3: line, names, rules, rows ===== -/
theorem t_Score_addToLine {G : cx_T} {s : Nat} {h : ah_T} {a : Int} {μ : pm_T} (hb0 : hb s h) (H : RSc μ s h) : con G 0 0 0 m_Score_addToLine [av_R (some s), av_I a] h (fun r h' => ∃ z, r = some (av_I z) ∧ hb s h' ∧ fr (fun x _ => x = s ∨ x = s + 2) h h' ∧ ((z = 0 ∧ μ 0 3 = 8 ∧ h' = h) ∨ (z = 1 ∧ μ 0 3 < 8 ∧ RSc (up2 (up2 μ 1 (μ 0 3).toNat a) 0 3 (μ 0 3 + 1)) s h'))) := by
  have hs : s = 17 ∨ s = 80 := hb0.2.1
  obtain ⟨⟨a0, a1, a2, a3, a4, a5, a6, a7⟩, ⟨b3, b⟩, l, ru, ro, na⟩ := H
  refine c_Score_addToLine hb0 (fun _ => ?_)
  unfold B_Score_addToLine_0
  intro x1 e1 _ _
  have ex : x1 = μ 0 3 := e1.trans a3
  subst ex
  refine ⟨fun c => ⟨⟨by omega, by omega⟩, fun h6 e6 => ⟨⟨by omega, by omega⟩, fun h10 e10 => ?_⟩⟩, fun c => ⟨0, rfl, hb0, fr_0, Or.inl ⟨rfl, by omega, rfl⟩⟩⟩
  refine ⟨1, rfl, hb_i (hb_i hb0 e6) e10, fr_i (fr_i fr_0 e6 (Or.inr rfl)) e10 (Or.inl rfl), Or.inr ⟨rfl, c, ?_⟩⟩
  have g : ∀ x k, ¬ (x = s ∧ k = 6) → ¬ (x = s + 2 ∧ k = (μ 0 3).toNat) → h10.2.1 x k = h.2.1 x k := fun x k q1 q2 => (mm_i e10 q1).trans (mm_i e6 q2)
  refine ⟨⟨(g _ _ (by omega) (by omega)).trans a0, (g _ _ (by omega) (by omega)).trans a1, (g _ _ (by omega) (by omega)).trans a2, mv_i e10, (g _ _ (by omega) (by omega)).trans a4, (g _ _ (by omega) (by omega)).trans a5, (g _ _ (by omega) (by omega)).trans a6, (g _ _ (by omega) (by omega)).trans a7⟩, ⟨⟨?_, ?_⟩, b⟩, fun j hj => ?_, fun j hj => ?_, fun j hj => ?_, fun j hj => ?_⟩
  · show 0 ≤ μ 0 3 + 1; omega
  · show μ 0 3 + 1 ≤ 8; omega
  · have hj : (j : Int) < μ 0 3 + 1 := hj
    show h10.2.1 (s + 2) j = up2 μ 1 (μ 0 3).toNat a 1 j
    by_cases hc : j = (μ 0 3).toNat
    · rw [hc, mm_i e10 (by omega), mv_i e6, up2_at]
    · rw [g _ _ (by omega) (by omega), up2_o (fun q => hc q.2)]
      exact l j (by omega)
  · rw [g _ _ (by omega) (by omega), g _ _ (by omega) (by omega), g _ _ (by omega) (by omega)]; exact ru j hj
  · rw [g _ _ (by omega) (by omega)]; exact ro j hj
  · rw [mm_io e10, mm_io e6]; exact na j hj
theorem t_Score_addRule {G : cx_T} {s : Nat} {h : ah_T} {a b c : Int} {μ : pm_T} (hb0 : hb s h) (H : RSc μ s h) (hlt : μ 0 4 < 24) : con G 0 0 0 m_Score_addRule [av_R (some s), av_I a, av_I b, av_I c] h (fun r h' => r = none ∧ hb s h' ∧ fr (fun x _ => s ≤ x ∧ x ≤ s + 6) h h' ∧ RSc (addr μ a b c) s h') := by
  have hs : s = 17 ∨ s = 80 := hb0.2.1
  obtain ⟨⟨a0, a1, a2, a3, a4, a5, a6, a7⟩, ⟨b3, b4, bb⟩, l, ru, ro, na⟩ := H
  refine c_Score_addRule hb0 (fun _ _ _ => ?_)
  unfold B_Score_addRule_0 B_Score_addRule_52
  intro x1 e1 _ _
  have ex : x1 = μ 0 4 := e1.trans a4
  subst ex
  refine ⟨fun w => by omega, fun w => ⟨⟨by omega, by omega⟩, fun h6 e6 h10 e10 h14 e14 => ⟨⟨by omega, by omega⟩, fun h18 e18 => ?_⟩⟩⟩
  refine ⟨rfl, hb_i (hb_i (hb_i (hb_i hb0 e6) e10) e14) e18, fr_i (fr_i (fr_i (fr_i fr_0 e6 ⟨by omega, by omega⟩) e10 ⟨by omega, by omega⟩) e14 ⟨by omega, by omega⟩) e18 ⟨by omega, by omega⟩, ?_⟩
  have g : ∀ x k, ¬ (x = s ∧ k = 10) → ¬ ((x = s + 3 ∨ x = s + 4 ∨ x = s + 5) ∧ k = (μ 0 4).toNat) → h18.2.1 x k = h.2.1 x k := fun x k q1 q2 => (mm_i e18 q1).trans ((mm_i e14 (by omega)).trans ((mm_i e10 (by omega)).trans (mm_i e6 (by omega))))
  unfold addr
  refine ⟨⟨(g _ _ (by omega) (by omega)).trans a0, (g _ _ (by omega) (by omega)).trans a1, (g _ _ (by omega) (by omega)).trans a2, (g _ _ (by omega) (by omega)).trans a3, mv_i e18, (g _ _ (by omega) (by omega)).trans a5, (g _ _ (by omega) (by omega)).trans a6, (g _ _ (by omega) (by omega)).trans a7⟩, ⟨b3, ⟨?_, ?_⟩, bb⟩, fun j hj => ?_, fun j hj => ?_, fun j hj => ?_, fun j hj => ?_⟩
  · show 0 ≤ μ 0 4 + 1; omega
  · show μ 0 4 + 1 ≤ 24; omega
  · rw [g _ _ (by omega) (by omega)]; exact l j hj
  · have hj : (j : Int) < μ 0 4 + 1 := hj
    show h18.2.1 (s + 3) j = up2 μ 2 (μ 0 4).toNat a 2 j ∧ h18.2.1 (s + 4) j = up2 μ 3 (μ 0 4).toNat b 3 j ∧ h18.2.1 (s + 5) j = up2 μ 4 (μ 0 4).toNat c 4 j
    by_cases hc : j = (μ 0 4).toNat
    · rw [hc, mm_i e18 (by omega), mm_i e14 (by omega), mm_i e10 (by omega), mv_i e6, mm_i e18 (by omega), mm_i e14 (by omega), mv_i e10, mm_i e18 (by omega), mv_i e14, up2_at, up2_at, up2_at]
      exact ⟨rfl, rfl, rfl⟩
    · rw [g _ _ (by omega) (by omega), g _ _ (by omega) (by omega), g _ _ (by omega) (by omega), up2_o (fun q => hc q.2), up2_o (fun q => hc q.2), up2_o (fun q => hc q.2)]
      exact ru j (by omega)
  · rw [g _ _ (by omega) (by omega)]; exact ro j hj
  · rw [mm_io e18, mm_io e14, mm_io e10, mm_io e6]; exact na j hj
theorem t_Score_addToRow {G : cx_T} {s : Nat} {h : ah_T} {a : Int} {μ : pm_T} (hb0 : hb s h) (H : RSc μ s h) (hlt : μ 0 5 < 12) : con G 0 0 0 m_Score_addToRow [av_R (some s), av_I a] h (fun r h' => r = none ∧ hb s h' ∧ fr (fun x _ => s ≤ x ∧ x ≤ s + 6) h h' ∧ RSc (rowa μ a) s h') := by
  have hs : s = 17 ∨ s = 80 := hb0.2.1
  obtain ⟨⟨a0, a1, a2, a3, a4, a5, a6, a7⟩, ⟨b3, b4, b5, bb⟩, l, ru, ro, na⟩ := H
  refine c_Score_addToRow hb0 (fun _ => ?_)
  unfold B_Score_addToRow_0 B_Score_addToRow_32
  intro x1 e1 _ _
  have ex : x1 = μ 0 5 := e1.trans a5
  subst ex
  refine ⟨fun w => by omega, fun w => ⟨⟨by omega, by omega⟩, fun h6 e6 => ⟨⟨by omega, by omega⟩, fun h10 e10 => ?_⟩⟩⟩
  refine ⟨rfl, hb_i (hb_i hb0 e6) e10, fr_i (fr_i fr_0 e6 ⟨by omega, by omega⟩) e10 ⟨by omega, by omega⟩, ?_⟩
  have g : ∀ x k, ¬ (x = s ∧ k = 12) → ¬ (x = s + 6 ∧ k = (μ 0 5).toNat) → h10.2.1 x k = h.2.1 x k := fun x k q1 q2 => (mm_i e10 q1).trans (mm_i e6 q2)
  unfold rowa
  refine ⟨⟨(g _ _ (by omega) (by omega)).trans a0, (g _ _ (by omega) (by omega)).trans a1, (g _ _ (by omega) (by omega)).trans a2, (g _ _ (by omega) (by omega)).trans a3, (g _ _ (by omega) (by omega)).trans a4, mv_i e10, (g _ _ (by omega) (by omega)).trans a6, (g _ _ (by omega) (by omega)).trans a7⟩, ⟨b3, b4, ⟨?_, ?_⟩, bb⟩, fun j hj => ?_, fun j hj => ?_, fun j hj => ?_, fun j hj => ?_⟩
  · show 0 ≤ μ 0 5 + 1; omega
  · show μ 0 5 + 1 ≤ 12; omega
  · rw [g _ _ (by omega) (by omega)]; exact l j hj
  · rw [g _ _ (by omega) (by omega), g _ _ (by omega) (by omega), g _ _ (by omega) (by omega)]; exact ru j hj
  · have hj : (j : Int) < μ 0 5 + 1 := hj
    show h10.2.1 (s + 6) j = up2 μ 5 (μ 0 5).toNat a 5 j
    by_cases hc : j = (μ 0 5).toNat
    · rw [hc, mm_i e10 (by omega), mv_i e6, up2_at]
    · rw [g _ _ (by omega) (by omega), up2_o (fun q => hc q.2)]
      exact ro j (by omega)
  · rw [mm_io e10, mm_io e6]; exact na j hj
theorem WR_s {s : Nat} (hs : s = 17 ∨ s = 80) : ∀ a k, (s ≤ a ∧ a ≤ s + 6) → WR s a k := fun a _ q => Or.inr (Or.inr (Or.inr ⟨q.1, by omega⟩))
theorem t_Reader_readLine {G : cx_T} {s : Nat} {h : ah_T} {t : tk_T} {m i : Nat} {μ : pm_T} (hb0 : hb s h) (hT : TG t m) (H : RCs t m i μ s h) (hg : gk (tK t i)) : con G 2 0 0 m_Reader_readLine [av_R (some 2)] h (QB t m s (sp_line t i μ) h) := by
  have hs : s = 17 ∨ s = 80 := hb0.2.1
  obtain ⟨c9, c10, -, -⟩ := RCs_b H
  have k113 : ∀ (hh : ah_T) (j : Nat) (ν : pm_T), hb s hh → fr (WR s) h hh → RCs t m j ν s hh → sp_line t i μ = bnd (sp_take t j 59) (fun _ => .inr (j + 1, ν)) → B_Reader_readLine_113 G s hh (QB t m s (sp_line t i μ) h) := by
    intro hh j ν hb1 hf Hj e
    unfold B_Reader_readLine_113
    refine con_mono (t_Reader_take (k := 59) hb1 Hj (fun w => hT.1 _ Hj.1.2.2.1 (gk_of w (by decide) (by decide)))) ?_
    rintro r h' ⟨z, rfl, hb2, f2, z01, p2⟩
    exact ⟨z, rfl, hb2, z01, z, rfl, hb2, fr_t hf f2 (fun _ _ w => w), z01, by rw [e]; exact p2⟩
  refine c_Reader_readLine (X50 := fun v1 hh => fr (WR s) h hh ∧ ∃ (j : Nat) (ν : pm_T) (f : Nat), RCs t m j ν s hh ∧ ν 0 3 = v1 ∧ (f : Int) = 10 - v1 ∧ (v1 = 0 → tK t j = 258) ∧ sp_line t i μ = (if tK t j = 59 then .inr (j + 1, ν) else sp_pits t f j ν)) ?_ hb0 ?_
  · refine lp_Reader_readLine_50 _ (fun v1 _ => (10 - v1).toNat) ?_
    rintro v1 hh hb1 ⟨hf, j, ν, f, Hj, e3, ef, e0, es⟩
    obtain ⟨d9, d10, d11, -⟩ := RCs_b Hj
    have hb8 := Hj.2.1.2.1.1
    unfold B_Reader_readLine_50
    refine ⟨fun c => by omega, fun c x2 e2 _ _ => ⟨fun c1 => ?_, fun c1 => k113 hh j ν hb1 hf Hj ?_⟩⟩
    · have hk : tK t j = 258 := by omega
      obtain ⟨pv1, pv2⟩ := hT.2.2 j Hj.1.2.2.1 hk
      intro x5 e5 _ _
      refine ⟨⟨by omega, by omega⟩, ?_⟩
      obtain ⟨f', rfl⟩ : ∃ f', f = f' + 1 := ⟨f - 1, by omega⟩
      have ev : x5 = tV' t j := e5.trans d11
      rw [if_neg (by omega), sp_pits, if_pos hk] at es
      refine con_mono (t_Score_addToLine hb1 Hj.2.1) ?_
      rintro r h7 ⟨z9, rfl, hb7, f7, ⟨rfl, w1, rfl⟩ | ⟨rfl, w1, w2⟩⟩
      · refine ⟨0, rfl, hb1, fun _ x16 e16 _ _ => ?_, fun d => absurd rfl d⟩
        rw [if_pos w1] at es
        refine con_mono (t_Reader_blame hb1) ?_
        rintro r h' ⟨z, rfl, hb2, f2, rfl, r1, r2⟩
        exact ⟨0, rfl, hb2, Or.inl rfl, 0, rfl, hb2, fr_t hf f2 (fun _ _ w => w), Or.inl rfl, by rw [es]; exact ⟨rfl, r1, by rw [r2, e16, d10]⟩⟩
      · refine ⟨1, rfl, hb7, fun d => absurd d (by decide), fun _ => ?_⟩
        rw [if_neg (by omega)] at es
        have H7 : RCs t m j (pit t j ν) s h7 := by
          rw [ev] at w2
          exact RCs_sc Hj f7 (by omega) (fun a k w => by omega) w2
        refine con_mono (t_Reader_step hb7 H7 (hT.1 _ Hj.1.2.2.1 (gk_of hk (by decide) (by decide)))) ?_
        rintro r h11 ⟨rfl, hb11, f11, H11⟩
        refine ⟨rfl, hb11, ⟨by omega, by omega⟩, ⟨fr_t (fr_t hf f7 (fun a k w => WR_s hs a k (by omega))) f11 (fun _ _ w => w), j + 1, pit t j ν, f', H11, ?_, by omega, fun d => by omega, es⟩, by omega⟩
        show ν 0 3 + 1 = v1 + 1
        omega
    · rw [es]
      obtain ⟨f', rfl⟩ : ∃ f', f = f' + 1 := ⟨f - 1, by omega⟩
      rw [sp_take, sp_pits]
      by_cases hk : tK t j = 59
      · rw [if_pos hk, if_pos hk]; rfl
      · rw [if_neg hk, if_neg hk, if_neg (by omega)]; rfl
  · unfold B_Reader_readLine_0
    intro x2 e2 _ _
    have em : x2 = μ 0 3 := e2.trans H.2.1.1.2.2.2.1
    refine ⟨fun c => ?_, fun c x13 e13 _ _ => ?_⟩
    · refine con_mono (t_Reader_step hb0 H (hT.1 i H.1.2.2.1 hg)) ?_
      rintro r h4 ⟨rfl, hb4, f4, H4⟩
      obtain ⟨d9, d10, -, -⟩ := RCs_b H4
      refine ⟨rfl, hb4, fun x8 e8 _ _ => ⟨fun c1 => ?_, fun c1 => ?_⟩⟩
      · have hk : tK t (i + 1) = 258 := by omega
        have h03 : μ 0 3 = 0 := by have := H.2.1.2.1.1; omega
        refine ⟨f4, i + 1, μ, 10, H4, h03, by decide, fun _ => hk, ?_⟩
        rw [sp_line, if_pos (by omega), if_neg (by omega)]
      · refine con_mono (t_Reader_refuse hb4 H4.1) ?_
        rintro r h' ⟨z, rfl, hb1, f1, rfl, r1, r2⟩
        refine ⟨0, rfl, hb1, Or.inl rfl, 0, rfl, hb1, fr_t f4 f1 (fun _ _ w => w), Or.inl rfl, ?_⟩
        rw [sp_line, if_pos (by omega), sp_pits, if_neg (by omega)]
        exact ⟨rfl, r1, r2⟩
    · refine con_mono (t_Reader_blame hb0) ?_
      rintro r h' ⟨z, rfl, hb1, f1, rfl, r1, r2⟩
      refine ⟨0, rfl, hb1, Or.inl rfl, 0, rfl, hb1, f1, Or.inl rfl, ?_⟩
      rw [sp_line, if_neg (by omega)]
      exact ⟨rfl, r1, by rw [r2, e13, c10]⟩
