/-! ===== the class's reader: items but voices ===== -/
/-- the score at s tells the memory; its names too -/
def RSc (μ : pm_T) (s : Nat) (h : ah_T) : Prop := (h.2.1 s 4 = μ 0 0 ∧ h.2.1 s 2 = μ 0 1 ∧ h.2.1 s 3 = μ 0 2 ∧ h.2.1 s 6 = μ 0 3 ∧ h.2.1 s 10 = μ 0 4 ∧ h.2.1 s 12 = μ 0 5 ∧ h.2.1 2 3 = μ 0 6 ∧ h.2.1 s 1 = μ 0 7) ∧
  ((0 ≤ μ 0 3 ∧ μ 0 3 ≤ 8) ∧ (0 ≤ μ 0 4 ∧ μ 0 4 ≤ 24) ∧ (0 ≤ μ 0 5 ∧ μ 0 5 ≤ 12) ∧ (0 ≤ μ 0 6 ∧ μ 0 6 ≤ 16) ∧ (0 ≤ μ 0 7 ∧ μ 0 7 ≤ 4)) ∧
  (∀ j : Nat, (j : Int) < μ 0 3 → h.2.1 (s + 2) j = μ 1 j) ∧ (∀ j : Nat, (j : Int) < μ 0 4 → h.2.1 (s + 3) j = μ 2 j ∧ h.2.1 (s + 4) j = μ 3 j ∧ h.2.1 (s + 5) j = μ 4 j) ∧ (∀ j : Nat, (j : Int) < μ 0 5 → h.2.1 (s + 6) j = μ 5 j) ∧ (∀ j : Nat, (j : Int) < μ 0 6 → h.2.2.1 16 j = μ 6 j)
theorem RSc_f {μ : pm_T} {s : Nat} {W : Nat → Nat → Prop} {h h' : ah_T} (H : RSc μ s h) (f : fr W h h') (h1 : ∀ a k, s ≤ a → a ≤ s + 6 → ¬ W a k) (h2 : ¬ W 2 3) (h3 : ∀ k, ¬ W 16 k) : RSc μ s h' := by
  have g : ∀ o k, o ≤ 6 → h'.2.1 (s + o) k = h.2.1 (s + o) k := fun o k ho => fr_g f (h1 _ _ (by omega) (by omega))
  have g0 : ∀ k, h'.2.1 s k = h.2.1 s k := fun k => g 0 k (by decide)
  obtain ⟨a1, a2, a3, a4, a5, a6⟩ := H
  refine ⟨?_, a2, fun j hj => ?_, fun j hj => ?_, fun j hj => ?_, fun j hj => ?_⟩
  · rw [g0, g0, g0, g0, g0, g0, g0, fr_g f h2]; exact a1
  · rw [g 2 j (by decide)]; exact a3 j hj
  · rw [g 3 j (by decide), g 4 j (by decide), g 5 j (by decide)]; exact a4 j hj
  · rw [g 6 j (by decide)]; exact a5 j hj
  · rw [fr_gl f (h3 j)]; exact a6 j hj
def RCs (t : tk_T) (m i : Nat) (μ : pm_T) (s : Nat) (h : ah_T) : Prop := RCt t m i h ∧ RSc μ s h ∧ h.2.1 2 6 = 0
/-- what reading writes -/
abbrev WR (s : Nat) : Nat → Nat → Prop := fun a k => (a = 3 ∧ (k = 5 ∨ 9 ≤ k)) ∨ (a = 2 ∧ (k = 3 ∨ 6 ≤ k)) ∨ a = 16 ∨ (s ≤ a ∧ a ≤ s + 6)
def PBc (t : tk_T) (m s : Nat) (R : F_T ⊕ (Nat × pm_T)) (z : Int) (h' : ah_T) : Prop := match R with
  | .inl q => z = 0 ∧ h'.2.1 2 6 = q.1 ∧ h'.2.1 2 7 = q.2
  | .inr q => z = 1 ∧ RCs t m q.1 q.2 s h'
abbrev QB (t : tk_T) (m s : Nat) (R : F_T ⊕ (Nat × pm_T)) (h : ah_T) : Option av_T → ah_T → Prop := fun r h' => ∃ z, r = some (av_I z) ∧ hb s h' ∧ fr (WR s) h h' ∧ (z = 0 ∨ z = 1) ∧ PBc t m s R z h'
theorem t_Reader_blame {G : cx_T} {s : Nat} {h : ah_T} {a1 a2 : Int} (hb0 : hb s h) : con G 0 0 0 m_Reader_blame [av_R (some 2), av_I a1, av_I a2] h (fun r h' => ∃ z, r = some (av_I z) ∧ hb s h' ∧ fr (WR s) h h' ∧ z = 0 ∧ h'.2.1 2 6 = a1 ∧ h'.2.1 2 7 = a2) := by
  refine c_Reader_blame hb0 (fun _ _ => ?_)
  unfold B_Reader_blame_0
  intro h1 e1 h3 e3
  exact ⟨0, rfl, hb_i (hb_i hb0 e1) e3, fr_i (fr_i fr_0 e1 (Or.inr (Or.inl ⟨rfl, by decide⟩))) e3 (Or.inr (Or.inl ⟨rfl, by decide⟩)), rfl, by rw [mm_i e3 (by decide), mv_i e1], mv_i e3⟩
theorem t_Reader_refuse {G : cx_T} {s : Nat} {h : ah_T} {t : tk_T} {m i : Nat} (hb0 : hb s h) (H : RCt t m i h) : con G 0 0 0 m_Reader_refuse [av_R (some 2)] h (fun r h' => ∃ z, r = some (av_I z) ∧ hb s h' ∧ fr (WR s) h h' ∧ z = 0 ∧ h'.2.1 2 6 = (cn t i).1 ∧ h'.2.1 2 7 = (cn t i).2) := by
  obtain ⟨-, -, -, -, -, r6, r7, -, -⟩ := H
  refine c_Reader_refuse hb0 ?_
  unfold B_Reader_refuse_0 B_Reader_refuse_19 cn
  intro x2 e2 _ _
  refine ⟨fun c h1 e1 x4 e4 _ _ h5 e5 => ⟨0, rfl, hb_i (hb_i hb0 e1) e5, fr_i (fr_i fr_0 e1 (Or.inr (Or.inl ⟨rfl, by decide⟩))) e5 (Or.inr (Or.inl ⟨rfl, by decide⟩)), rfl, ?_, ?_⟩, fun c h1 e1 x4 e4 _ _ h5 e5 => ⟨0, rfl, hb_i (hb_i hb0 e1) e5, fr_i (fr_i fr_0 e1 (Or.inr (Or.inl ⟨rfl, by decide⟩))) e5 (Or.inr (Or.inl ⟨rfl, by decide⟩)), rfl, ?_, ?_⟩⟩
  · rw [mm_i e5 (by decide), mv_i e1, if_pos (by omega)]
  · rw [mv_i e5, e4, mm_i e1 (by decide), r7]
  · rw [mm_i e5 (by decide), mv_i e1, if_neg (by omega)]
  · rw [mv_i e5, e4, mm_i e1 (by decide), r7]
theorem RCt_R {t : tk_T} {m i : Nat} {h h' : ah_T} {W : Nat → Nat → Prop} (H : RCt t m i h) (f : fr W h h') (hW : ∀ a k, W a k → a < 3 ∨ 7 < a) : RCt t m i h' := RCt_f H f hW
theorem WN_R {s : Nat} : ∀ a k, WN a k → WR s a k := fun _ _ q => Or.inl q
/-- one token further -/
theorem t_Reader_step {G : cx_T} {s : Nat} {h : ah_T} {t : tk_T} {m i : Nat} {μ : pm_T} (hb0 : hb s h) (H : RCs t m i μ s h) (hi : i + 1 < m) : con G 0 0 0 m_Tokens_next [av_R (some 3)] h (fun r h' => r = none ∧ hb s h' ∧ fr (WR s) h h' ∧ RCs t m (i + 1) μ s h') := by
  have hs : s = 17 ∨ s = 80 := hb0.2.1
  refine con_mono (t_Tokens_next hb0 H.1 hi) ?_
  rintro r h' ⟨rfl, hb1, f1, r1⟩
  exact ⟨rfl, hb1, fr_w f1 WN_R, r1, RSc_f H.2.1 f1 (fun a k p q w => by omega) (fun w => by omega) (fun k w => by omega), (fr_g f1 (by omega)).trans H.2.2⟩
theorem t_Reader_take {G : cx_T} {s : Nat} {h : ah_T} {t : tk_T} {m i : Nat} {μ : pm_T} {k : Int} (hb0 : hb s h) (H : RCs t m i μ s h) (hg : tK t i = k → i + 1 < m) : con G 1 0 0 m_Reader_take [av_R (some 2), av_I k] h (QB t m s (bnd (sp_take t i k) fun _ => .inr (i + 1, μ)) h) := by
  refine c_Reader_take hb0 (fun _ => ?_)
  unfold B_Reader_take_0
  intro x2 e2 _ _
  have ek : x2 = tK t i := e2.trans H.1.2.2.2.2.2.1
  refine ⟨fun c => ?_, fun c => ?_⟩
  · refine con_mono (t_Reader_step hb0 H (hg (by omega))) ?_
    rintro r h' ⟨rfl, hb1, f1, r1⟩
    refine ⟨rfl, hb1, 1, rfl, hb1, f1, Or.inr rfl, ?_⟩
    rw [sp_take, if_pos (by omega)]
    exact ⟨rfl, r1⟩
  · refine con_mono (t_Reader_refuse hb0 H.1) ?_
    rintro r h' ⟨z, rfl, hb1, f1, rfl, r1, r2⟩
    refine ⟨0, rfl, hb1, Or.inl rfl, 0, rfl, hb1, f1, Or.inl rfl, ?_⟩
    rw [sp_take, if_neg (by omega)]
    exact ⟨rfl, r1, r2⟩
def PNc (t : tk_T) (m i s : Nat) (μ : pm_T) (R : F_T ⊕ Int) (z : Int) (h' : ah_T) : Prop := match R with
  | .inl q => z = 0 ∧ h'.2.1 2 6 = q.1 ∧ h'.2.1 2 7 = q.2
  | .inr v => z = v ∧ 1 ≤ v ∧ v ≤ 64 ∧ RCs t m (i + 1) μ s h'

/-! ===== the class's reader, 2 ===== -/
def us_I (x k : Int) : Int := ((Int32.ofInt x).toUInt32 >>> ((Int32.ofInt k).toUInt32 &&& Int32.toUInt32 31)).toInt32.toInt
def an_I (x m : Int) : Int := ((Int32.ofInt x) &&& (Int32.ofInt m)).toInt
def bc3 (a : Int) : Int := w32 (a - an_I (us_I a 1) 1431655765)
def bc7 (x : Int) : Int := w32 (an_I x 858993459 + an_I (us_I x 2) 858993459)
def bc10 (x : Int) : Int := an_I (w32 (x + us_I x 4)) 252645135
def bc12 (x k : Int) : Int := w32 (x + us_I x k)
def bcF (a : Int) : Int := an_I (bc12 (bc12 (bc10 (bc7 (bc3 a))) 8) 16) 63
theorem bc_ok : ∀ k : Nat, k < 65 → (bcF k = 1 ↔ pwb k = true) := by decide +kernel
theorem t_bitCount {G : cx_T} {s : Nat} {h : ah_T} {a : Int} (hb0 : hb s h) (h0 : 0 ≤ a) (h1 : a ≤ 64) : con G 0 0 0 m_JInteger_bitCount [av_I a] h (fun r h' => ∃ z, r = some (av_I z) ∧ hb s h' ∧ h' = h ∧ (z = 1 ↔ pwb a = true)) := by
  refine c_JInteger_bitCount hb0 (fun _ => ?_)
  unfold B_JInteger_bitCount_0
  intro x1 e1 _ _ x2 e2 _ _ x3 e3 _ _ x4 e4 _ _ x5 e5 _ _ x6 e6 _ _ x7 e7 _ _ x8 e8 _ _ x9 e9 _ _ x10 e10 _ _ x11 e11 _ _ x12 e12 _ _ x13 e13 _ _ x14 e14 _ _ x15 e15 _ _
  have k3 : x3 = bc3 a := by rw [e3, e2, e1]; rfl
  have k7 : x7 = bc7 x3 := by rw [e7, e6, e5, e4]; rfl
  have k10 : x10 = bc10 x7 := by rw [e10, e9, e8]; rfl
  have k12 : x12 = bc12 x10 8 := by rw [e12, e11]; rfl
  have k14 : x14 = bc12 x12 16 := by rw [e14, e13]; rfl
  have k15 : x15 = bcF a := by rw [e15, k14, k12, k10, k7, k3]; rfl
  refine ⟨x15, rfl, hb0, rfl, ?_⟩
  obtain ⟨k, rfl⟩ : ∃ k : Nat, a = k := ⟨a.toNat, by omega⟩
  rw [k15]
  exact bc_ok k (by omega)
theorem RCs_b {t : tk_T} {m i : Nat} {μ : pm_T} {s : Nat} {h : ah_T} (H : RCs t m i μ s h) : h.2.1 3 9 = tK t i ∧ h.2.1 3 10 = tP t i ∧ h.2.2.1 3 11 = tV' t i ∧ h.2.1 3 12 = tS t i := H.1.2.2.2.2.2
theorem t_Reader_readNumber {G : cx_T} {s : Nat} {h : ah_T} {t : tk_T} {m i : Nat} {μ : pm_T} {most w : Int} {pw : Bool} (hb0 : hb s h) (H : RCs t m i μ s h) (hg : tK t i = 259 → i + 1 < m ∧ 0 ≤ tV' t i ∧ tV' t i ≤ 9999) (hw : w = if pw = true then 1 else 0) (hm : most ≤ 64) : con G 1 0 0 m_Reader_readNumber [av_R (some 2), av_I most, av_I w] h (fun r h' => ∃ z, r = some (av_I z) ∧ hb s h' ∧ fr (WR s) h h' ∧ PNc t m i s μ (sp_num t i most pw) z h') := by
  obtain ⟨c9, c10, c11, c12⟩ := RCs_b H
  refine c_Reader_readNumber hb0 (fun _ _ => ?_)
  unfold B_Reader_readNumber_0
  intro x2 e2 _ _
  refine ⟨fun c x4 e4 _ _ => ?_, fun c => ?_⟩
  · have hk : tK t i = 259 := by omega
    obtain ⟨g1, g2, g3⟩ := hg hk
    have ev : x4 = tV' t i := e4.trans c11
    have bad : ¬ ((1 ≤ tV' t i ∧ tV' t i ≤ most) ∧ (pw = false ∨ pwb (tV' t i) = true)) → ∀ hx : ah_T, hx = h → B_Reader_readNumber_51 G s most w hx (fun r h' => ∃ z, r = some (av_I z) ∧ hb s h' ∧ fr (WR s) h h' ∧ PNc t m i s μ (sp_num t i most pw) z h') := by
      rintro hn hx rfl
      unfold B_Reader_readNumber_51
      intro y ey _ _
      refine con_mono (t_Reader_blame hb0) ?_
      rintro r h' ⟨z, rfl, hb1, f1, rfl, r1, r2⟩
      refine ⟨0, rfl, hb1, 0, rfl, hb1, f1, ?_⟩
      rw [sp_num, if_pos hk, if_neg hn]
      exact ⟨rfl, r1, by rw [r2, ey, c10]⟩
    have good : ((1 ≤ tV' t i ∧ tV' t i ≤ most) ∧ (pw = false ∨ pwb (tV' t i) = true)) → ∀ hx : ah_T, hx = h → B_Reader_readNumber_66 G s most w x4 hx (fun r h' => ∃ z, r = some (av_I z) ∧ hb s h' ∧ fr (WR s) h h' ∧ PNc t m i s μ (sp_num t i most pw) z h') := by
      rintro hn hx rfl
      unfold B_Reader_readNumber_66
      refine con_mono (t_Reader_step hb0 H g1) ?_
      rintro r h' ⟨rfl, hb1, f1, r1⟩
      refine ⟨rfl, hb1, x4, rfl, hb1, f1, ?_⟩
      rw [sp_num, if_pos hk, if_pos hn]
      exact ⟨ev, hn.1.1, by omega, r1⟩
    refine ⟨⟨by omega, by omega⟩, fun d => bad (fun q => by omega) h rfl, fun d => ⟨fun d1 => bad (fun q => by omega) h rfl, fun d1 => ⟨fun d2 => good ⟨⟨by omega, by omega⟩, Or.inl ?_⟩ h rfl, fun d2 => ?_⟩⟩⟩
    · cases pw with
      | false => rfl
      | true => simp at hw; omega
    · have hp : pw = true := by
        cases pw with
        | true => rfl
        | false => simp at hw; omega
      refine con_mono (t_bitCount hb0 (by omega) (by omega)) ?_
      rintro r h6 ⟨z8, rfl, hb6, rfl, hz⟩
      refine ⟨z8, rfl, hb6, fun d3 => good ⟨⟨by omega, by omega⟩, Or.inr (by rw [← ev]; exact hz.mp d3)⟩ h6 rfl, fun d3 => bad (fun q => ?_) h6 rfl⟩
      rcases q.2 with q2 | q2
      · rw [hp] at q2; cases q2
      · exact d3 (hz.mpr (by rw [ev]; exact q2))
  · refine con_mono (t_Reader_refuse hb0 H.1) ?_
    rintro r h' ⟨z, rfl, hb1, f1, rfl, r1, r2⟩
    refine ⟨0, rfl, hb1, 0, rfl, hb1, f1, ?_⟩
    rw [sp_num, if_neg (by omega)]
    exact ⟨rfl, r1, r2⟩
/-- facts of a table that reading needs: a good token isn't the last one; NUMBERS are small -/
def TG (t : tk_T) (m : Nat) : Prop := (∀ i, i < m → gk (tK t i) → i + 1 < m) ∧ (∀ i, i < m → tK t i = 259 → 0 ≤ tV' t i ∧ tV' t i ≤ 9999) ∧ (∀ i, i < m → tK t i = 258 → (-2 ≤ tV' t i ∧ tV' t i ≤ 109) ∧ 0 ≤ tS t i ∧ tS t i ≤ 62)
theorem gk_of {K k : Int} (h : K = k) (h1 : k ≠ 256) (h2 : k ≠ 257) : gk K := ⟨by omega, by omega⟩
theorem t_Score_setTime {G : cx_T} {s : Nat} {h : ah_T} {a b : Int} (hb0 : hb s h) : con G 0 0 0 m_Score_setTime [av_R (some s), av_I a, av_I b] h (fun r h' => r = none ∧ hb s h' ∧ fr (fun x _ => x = s) h h' ∧ h'.2.1 s = up1 (up1 (up1 (h.2.1 s) 4 1) 2 a) 3 b) := by
  refine c_Score_setTime hb0 (fun _ _ => ?_)
  unfold B_Score_setTime_0
  intro h1 e1 h3 e3 h5 e5
  refine ⟨rfl, hb_i (hb_i (hb_i hb0 e1) e3) e5, fr_i (fr_i (fr_i fr_0 e1 rfl) e3 rfl) e5 rfl, ?_⟩
  subst e5 e3 e1
  simp only [st_i, up2_s]
theorem up1_at {α : Type} {f : Nat → α} {k : Nat} {v : α} : up1 f k v k = v := by simp [up1]
theorem up1_n {α : Type} {f : Nat → α} {k j : Nat} {v : α} (h : j ≠ k) : up1 f k v j = f j := by simp [up1, h]
theorem RCs_sc {t : tk_T} {m i : Nat} {μ μ' : pm_T} {s : Nat} {h h' : ah_T} {W : Nat → Nat → Prop} (H : RCs t m i μ s h) (f : fr W h h') (hs : 17 ≤ s) (hW : ∀ a k, W a k → s ≤ a ∧ a ≤ s + 6) (h2 : RSc μ' s h') : RCs t m i μ' s h' :=
  ⟨RCt_f H.1 f (fun a k q => by have := hW a k q; omega), h2, (fr_g f (fun q => by have := hW _ _ q; omega)).trans H.2.2⟩
theorem t_Reader_readTime {G : cx_T} {s : Nat} {h : ah_T} {t : tk_T} {m i : Nat} {μ : pm_T} (hb0 : hb s h) (hT : TG t m) (H : RCs t m i μ s h) (hg : gk (tK t i)) (h01 : μ 0 0 = 0 ∨ μ 0 0 = 1) : con G 2 0 0 m_Reader_readTime [av_R (some 2)] h (QB t m s (sp_time t i μ) h) := by
  have hs : s = 17 ∨ s = 80 := hb0.2.1
  obtain ⟨c9, c10, -, -⟩ := RCs_b H
  have gn : ∀ j, j < m → tK t j = 259 → j + 1 < m ∧ 0 ≤ tV' t j ∧ tV' t j ≤ 9999 := fun j hj hk => ⟨hT.1 j hj ⟨by omega, by omega⟩, hT.2.1 j hj hk⟩
  refine c_Reader_readTime hb0 ?_
  unfold B_Reader_readTime_0 B_Reader_readTime_51
  intro x2 e2 _
  have em : x2 = μ 0 0 := e2.trans H.2.1.1.1
  refine ⟨fun c => ?_, fun c x24 e24 _ _ => ?_⟩
  · rw [sp_time, if_pos (by omega)]
    refine con_mono (t_Reader_step hb0 H (hT.1 i H.1.2.2.1 hg)) ?_
    rintro r h4 ⟨rfl, hb4, f4, H4⟩
    refine ⟨rfl, hb4, ?_⟩
    refine con_mono (t_Reader_readNumber (pw := false) hb4 H4 (gn _ H4.1.2.2.1) rfl (by decide)) ?_
    rintro r h7 ⟨z9, rfl, hb7, f7, p7⟩
    have f47 := fr_t f4 f7 (fun _ _ w => w)
    refine ⟨z9, rfl, hb7, fun d => ?_, fun d => ?_⟩
    · rcases e : sp_num t (i + 1) 32 false with q | v
      · rw [e] at p7; exact ⟨0, rfl, hb7, f47, Or.inl rfl, rfl, p7.2⟩
      · rw [e] at p7; exact absurd p7.2.1 (by have := p7.1; omega)
    rcases e : sp_num t (i + 1) 32 false with q | v
    · rw [e] at p7; exact absurd p7.1 d
    rw [e] at p7
    obtain ⟨rfl, v1, v2, H7⟩ := p7
    simp only [bnd]
    refine con_mono (t_Reader_take (k := 47) hb7 H7 (fun w => hT.1 _ H7.1.2.2.1 (gk_of w (by decide) (by decide)))) ?_
    rintro r h10 ⟨z12, rfl, hb10, f10, -, p10⟩
    have f710 := fr_t f47 f10 (fun _ _ w => w)
    rcases e2' : sp_take t (i + 2) 47 with q | v
    · rw [e2'] at p10
      obtain ⟨rfl, p10⟩ := p10
      exact ⟨0, rfl, hb10, fun _ => ⟨0, rfl, hb10, f710, Or.inl rfl, rfl, p10⟩, fun d => absurd rfl d⟩
    rw [e2'] at p10
    obtain ⟨rfl, H10⟩ := p10
    refine ⟨1, rfl, hb10, fun d => absurd d (by decide), fun _ => ?_⟩
    dsimp only
    refine con_mono (t_Reader_readNumber (pw := true) hb10 H10 (gn _ H10.1.2.2.1) rfl (by decide)) ?_
    rintro r h13 ⟨z15, rfl, hb13, f13, p13⟩
    have f1013 := fr_t f710 f13 (fun _ _ w => w)
    rcases e3 : sp_num t (i + 3) 32 true with q | v'
    · rw [e3] at p13
      obtain ⟨rfl, p13⟩ := p13
      exact ⟨0, rfl, hb13, fun _ => ⟨0, rfl, hb13, f1013, Or.inl rfl, rfl, p13⟩, fun d => absurd rfl d⟩
    rw [e3] at p13
    obtain ⟨rfl, v1', v2', H13⟩ := p13
    refine ⟨z15, rfl, hb13, fun d => by omega, fun _ => ?_⟩
    refine con_mono (t_Score_setTime hb13) ?_
    rintro r h17 ⟨rfl, hb17, f17, g17⟩
    have H17 : RCs t m (i + 4) (up2 (up2 (up2 μ 0 0 1) 0 1 z9) 0 2 z15) s h17 := by
      refine RCs_sc H13 f17 (by omega) (fun a k w => by omega) ?_
      obtain ⟨⟨a0, a1, a2, a3, a4, a5, a6, a7⟩, b, l, ru, ro, na⟩ := H13.2.1
      have gx : ∀ o k, 0 < o → h17.2.1 (s + o) k = h13.2.1 (s + o) k := fun o k ho => fr_g f17 (by omega)
      refine ⟨⟨?_, ?_, ?_, ?_, ?_, ?_, ?_, ?_⟩, b, fun j hj => (gx 2 j (by decide)).trans (l j hj), fun j hj => ?_, fun j hj => (gx 6 j (by decide)).trans (ro j hj), fun j hj => (fr_gl f17 (by omega)).trans (na j hj)⟩
      · rw [g17]; rfl
      · rw [g17]; rfl
      · rw [g17]; rfl
      · rw [g17]; exact a3
      · rw [g17]; exact a4
      · rw [g17]; exact a5
      · exact (fr_g f17 (by omega)).trans a6
      · rw [g17]; exact a7
      · rw [gx 3 j (by decide), gx 4 j (by decide), gx 5 j (by decide)]; exact ru j hj
    have f1317 := fr_t f1013 f17 (fun a k w => Or.inr (Or.inr (Or.inr (by omega))))
    refine ⟨rfl, hb17, ?_⟩
    refine con_mono (t_Reader_take (k := 59) hb17 H17 (fun w => hT.1 _ H17.1.2.2.1 (gk_of w (by decide) (by decide)))) ?_
    rintro r h20 ⟨z22, rfl, hb20, f20, z01, p20⟩
    exact ⟨z22, rfl, hb20, z01, z22, rfl, hb20, fr_t f1317 f20 (fun _ _ w => w), z01, p20⟩
  · rw [sp_time, if_neg (by omega)]
    refine con_mono (t_Reader_blame hb0) ?_
    rintro r h' ⟨z, rfl, hb1, f1, rfl, r1, r2⟩
    exact ⟨0, rfl, hb1, Or.inl rfl, 0, rfl, hb1, f1, Or.inl rfl, rfl, r1, by rw [r2, e24, c10]⟩

/-! ===== the class's reader, 3: line, names, rules, rows ===== -/
theorem t_Score_addToLine {G : cx_T} {s : Nat} {h : ah_T} {a : Int} {μ : pm_T} (hb0 : hb s h) (H : RSc μ s h) : con G 0 0 0 m_Score_addToLine [av_R (some s), av_I a] h (fun r h' => ∃ z, r = some (av_I z) ∧ hb s h' ∧ fr (fun x _ => x = s ∨ x = s + 2) h h' ∧ ((z = 0 ∧ μ 0 3 = 8 ∧ h' = h) ∨ (z = 1 ∧ μ 0 3 < 8 ∧ RSc (up2 (up2 μ 1 (μ 0 3).toNat a) 0 3 (μ 0 3 + 1)) s h'))) := by
  have hs : s = 17 ∨ s = 80 := hb0.2.1
  obtain ⟨⟨a0, a1, a2, a3, a4, a5, a6, a7⟩, ⟨b3, b⟩, l, ru, ro, na⟩ := H
  refine c_Score_addToLine hb0 (fun _ => ?_)
  unfold B_Score_addToLine_0
  intro x1 e1 _ _
  have ex : x1 = μ 0 3 := e1.trans a3
  subst ex
  refine ⟨fun c => ⟨⟨by omega, by omega⟩, fun h6 e6 => ⟨⟨by omega, by omega⟩, fun h10 e10 => ?_⟩⟩, fun c => ⟨0, rfl, hb0, fr_0, Or.inl ⟨rfl, by omega, rfl⟩⟩⟩
  refine ⟨1, rfl, hb_i (hb_i hb0 e6) e10, fr_i (fr_i fr_0 e6 (Or.inr rfl)) e10 (Or.inl rfl), Or.inr ⟨rfl, c, ?_⟩⟩
  have g : ∀ x k, ¬ (x = s ∧ k = 6) → ¬ (x = s + 2 ∧ k = (μ 0 3).toNat) → h10.2.1 x k = h.2.1 x k := fun x k q1 q2 => (mm_i e10 q1).trans (mm_i e6 q2)
  refine ⟨⟨(g _ _ (by omega) (by omega)).trans a0, (g _ _ (by omega) (by omega)).trans a1, (g _ _ (by omega) (by omega)).trans a2, mv_i e10, (g _ _ (by omega) (by omega)).trans a4, (g _ _ (by omega) (by omega)).trans a5, (g _ _ (by omega) (by omega)).trans a6, (g _ _ (by omega) (by omega)).trans a7⟩, ⟨⟨?_, ?_⟩, b⟩, fun j hj => ?_, fun j hj => ?_, fun j hj => ?_, fun j hj => ?_⟩
  · show 0 ≤ μ 0 3 + 1; omega
  · show μ 0 3 + 1 ≤ 8; omega
  · have hj : (j : Int) < μ 0 3 + 1 := hj
    show h10.2.1 (s + 2) j = up2 μ 1 (μ 0 3).toNat a 1 j
    by_cases hc : j = (μ 0 3).toNat
    · rw [hc, mm_i e10 (by omega), mv_i e6, up2_at]
    · rw [g _ _ (by omega) (by omega), up2_o (fun q => hc q.2)]
      exact l j (by omega)
  · rw [g _ _ (by omega) (by omega), g _ _ (by omega) (by omega), g _ _ (by omega) (by omega)]; exact ru j hj
  · rw [g _ _ (by omega) (by omega)]; exact ro j hj
  · rw [mm_io e10, mm_io e6]; exact na j hj
theorem t_Score_addRule {G : cx_T} {s : Nat} {h : ah_T} {a b c : Int} {μ : pm_T} (hb0 : hb s h) (H : RSc μ s h) (hlt : μ 0 4 < 24) : con G 0 0 0 m_Score_addRule [av_R (some s), av_I a, av_I b, av_I c] h (fun r h' => r = none ∧ hb s h' ∧ fr (fun x _ => s ≤ x ∧ x ≤ s + 6) h h' ∧ RSc (addr μ a b c) s h') := by
  have hs : s = 17 ∨ s = 80 := hb0.2.1
  obtain ⟨⟨a0, a1, a2, a3, a4, a5, a6, a7⟩, ⟨b3, b4, bb⟩, l, ru, ro, na⟩ := H
  refine c_Score_addRule hb0 (fun _ _ _ => ?_)
  unfold B_Score_addRule_0 B_Score_addRule_52
  intro x1 e1 _ _
  have ex : x1 = μ 0 4 := e1.trans a4
  subst ex
  refine ⟨fun w => by omega, fun w => ⟨⟨by omega, by omega⟩, fun h6 e6 h10 e10 h14 e14 => ⟨⟨by omega, by omega⟩, fun h18 e18 => ?_⟩⟩⟩
  refine ⟨rfl, hb_i (hb_i (hb_i (hb_i hb0 e6) e10) e14) e18, fr_i (fr_i (fr_i (fr_i fr_0 e6 ⟨by omega, by omega⟩) e10 ⟨by omega, by omega⟩) e14 ⟨by omega, by omega⟩) e18 ⟨by omega, by omega⟩, ?_⟩
  have g : ∀ x k, ¬ (x = s ∧ k = 10) → ¬ ((x = s + 3 ∨ x = s + 4 ∨ x = s + 5) ∧ k = (μ 0 4).toNat) → h18.2.1 x k = h.2.1 x k := fun x k q1 q2 => (mm_i e18 q1).trans ((mm_i e14 (by omega)).trans ((mm_i e10 (by omega)).trans (mm_i e6 (by omega))))
  unfold addr
  refine ⟨⟨(g _ _ (by omega) (by omega)).trans a0, (g _ _ (by omega) (by omega)).trans a1, (g _ _ (by omega) (by omega)).trans a2, (g _ _ (by omega) (by omega)).trans a3, mv_i e18, (g _ _ (by omega) (by omega)).trans a5, (g _ _ (by omega) (by omega)).trans a6, (g _ _ (by omega) (by omega)).trans a7⟩, ⟨b3, ⟨?_, ?_⟩, bb⟩, fun j hj => ?_, fun j hj => ?_, fun j hj => ?_, fun j hj => ?_⟩
  · show 0 ≤ μ 0 4 + 1; omega
  · show μ 0 4 + 1 ≤ 24; omega
  · rw [g _ _ (by omega) (by omega)]; exact l j hj
  · have hj : (j : Int) < μ 0 4 + 1 := hj
    show h18.2.1 (s + 3) j = up2 μ 2 (μ 0 4).toNat a 2 j ∧ h18.2.1 (s + 4) j = up2 μ 3 (μ 0 4).toNat b 3 j ∧ h18.2.1 (s + 5) j = up2 μ 4 (μ 0 4).toNat c 4 j
    by_cases hc : j = (μ 0 4).toNat
    · rw [hc, mm_i e18 (by omega), mm_i e14 (by omega), mm_i e10 (by omega), mv_i e6, mm_i e18 (by omega), mm_i e14 (by omega), mv_i e10, mm_i e18 (by omega), mv_i e14, up2_at, up2_at, up2_at]
      exact ⟨rfl, rfl, rfl⟩
    · rw [g _ _ (by omega) (by omega), g _ _ (by omega) (by omega), g _ _ (by omega) (by omega), up2_o (fun q => hc q.2), up2_o (fun q => hc q.2), up2_o (fun q => hc q.2)]
      exact ru j (by omega)
  · rw [g _ _ (by omega) (by omega)]; exact ro j hj
  · rw [mm_io e18, mm_io e14, mm_io e10, mm_io e6]; exact na j hj
theorem t_Score_addToRow {G : cx_T} {s : Nat} {h : ah_T} {a : Int} {μ : pm_T} (hb0 : hb s h) (H : RSc μ s h) (hlt : μ 0 5 < 12) : con G 0 0 0 m_Score_addToRow [av_R (some s), av_I a] h (fun r h' => r = none ∧ hb s h' ∧ fr (fun x _ => s ≤ x ∧ x ≤ s + 6) h h' ∧ RSc (rowa μ a) s h') := by
  have hs : s = 17 ∨ s = 80 := hb0.2.1
  obtain ⟨⟨a0, a1, a2, a3, a4, a5, a6, a7⟩, ⟨b3, b4, b5, bb⟩, l, ru, ro, na⟩ := H
  refine c_Score_addToRow hb0 (fun _ => ?_)
  unfold B_Score_addToRow_0 B_Score_addToRow_32
  intro x1 e1 _ _
  have ex : x1 = μ 0 5 := e1.trans a5
  subst ex
  refine ⟨fun w => by omega, fun w => ⟨⟨by omega, by omega⟩, fun h6 e6 => ⟨⟨by omega, by omega⟩, fun h10 e10 => ?_⟩⟩⟩
  refine ⟨rfl, hb_i (hb_i hb0 e6) e10, fr_i (fr_i fr_0 e6 ⟨by omega, by omega⟩) e10 ⟨by omega, by omega⟩, ?_⟩
  have g : ∀ x k, ¬ (x = s ∧ k = 12) → ¬ (x = s + 6 ∧ k = (μ 0 5).toNat) → h10.2.1 x k = h.2.1 x k := fun x k q1 q2 => (mm_i e10 q1).trans (mm_i e6 q2)
  unfold rowa
  refine ⟨⟨(g _ _ (by omega) (by omega)).trans a0, (g _ _ (by omega) (by omega)).trans a1, (g _ _ (by omega) (by omega)).trans a2, (g _ _ (by omega) (by omega)).trans a3, (g _ _ (by omega) (by omega)).trans a4, mv_i e10, (g _ _ (by omega) (by omega)).trans a6, (g _ _ (by omega) (by omega)).trans a7⟩, ⟨b3, b4, ⟨?_, ?_⟩, bb⟩, fun j hj => ?_, fun j hj => ?_, fun j hj => ?_, fun j hj => ?_⟩
  · show 0 ≤ μ 0 5 + 1; omega
  · show μ 0 5 + 1 ≤ 12; omega
  · rw [g _ _ (by omega) (by omega)]; exact l j hj
  · rw [g _ _ (by omega) (by omega), g _ _ (by omega) (by omega), g _ _ (by omega) (by omega)]; exact ru j hj
  · have hj : (j : Int) < μ 0 5 + 1 := hj
    show h10.2.1 (s + 6) j = up2 μ 5 (μ 0 5).toNat a 5 j
    by_cases hc : j = (μ 0 5).toNat
    · rw [hc, mm_i e10 (by omega), mv_i e6, up2_at]
    · rw [g _ _ (by omega) (by omega), up2_o (fun q => hc q.2)]
      exact ro j (by omega)
  · rw [mm_io e10, mm_io e6]; exact na j hj
theorem WR_s {s : Nat} (hs : s = 17 ∨ s = 80) : ∀ a k, (s ≤ a ∧ a ≤ s + 6) → WR s a k := fun a _ q => Or.inr (Or.inr (Or.inr ⟨q.1, by omega⟩))
theorem t_Reader_readLine {G : cx_T} {s : Nat} {h : ah_T} {t : tk_T} {m i : Nat} {μ : pm_T} (hb0 : hb s h) (hT : TG t m) (H : RCs t m i μ s h) (hg : gk (tK t i)) : con G 2 0 0 m_Reader_readLine [av_R (some 2)] h (QB t m s (sp_line t i μ) h) := by
  have hs : s = 17 ∨ s = 80 := hb0.2.1
  obtain ⟨c9, c10, -, -⟩ := RCs_b H
  have k113 : ∀ (hh : ah_T) (j : Nat) (ν : pm_T), hb s hh → fr (WR s) h hh → RCs t m j ν s hh → sp_line t i μ = bnd (sp_take t j 59) (fun _ => .inr (j + 1, ν)) → B_Reader_readLine_113 G s hh (QB t m s (sp_line t i μ) h) := by
    intro hh j ν hb1 hf Hj e
    unfold B_Reader_readLine_113
    refine con_mono (t_Reader_take (k := 59) hb1 Hj (fun w => hT.1 _ Hj.1.2.2.1 (gk_of w (by decide) (by decide)))) ?_
    rintro r h' ⟨z, rfl, hb2, f2, z01, p2⟩
    exact ⟨z, rfl, hb2, z01, z, rfl, hb2, fr_t hf f2 (fun _ _ w => w), z01, by rw [e]; exact p2⟩
  refine c_Reader_readLine (X50 := fun v1 hh => fr (WR s) h hh ∧ ∃ (j : Nat) (ν : pm_T) (f : Nat), RCs t m j ν s hh ∧ ν 0 3 = v1 ∧ (f : Int) = 10 - v1 ∧ (v1 = 0 → tK t j = 258) ∧ sp_line t i μ = (if tK t j = 59 then .inr (j + 1, ν) else sp_pits t f j ν)) ?_ hb0 ?_
  · refine lp_Reader_readLine_50 _ (fun v1 _ => (10 - v1).toNat) ?_
    rintro v1 hh hb1 ⟨hf, j, ν, f, Hj, e3, ef, e0, es⟩
    obtain ⟨d9, d10, d11, -⟩ := RCs_b Hj
    have hb8 := Hj.2.1.2.1.1
    unfold B_Reader_readLine_50
    refine ⟨fun c => by omega, fun c x2 e2 _ _ => ⟨fun c1 => ?_, fun c1 => k113 hh j ν hb1 hf Hj ?_⟩⟩
    · have hk : tK t j = 258 := by omega
      obtain ⟨pv1, pv2⟩ := hT.2.2 j Hj.1.2.2.1 hk
      intro x5 e5 _ _
      refine ⟨⟨by omega, by omega⟩, ?_⟩
      obtain ⟨f', rfl⟩ : ∃ f', f = f' + 1 := ⟨f - 1, by omega⟩
      have ev : x5 = tV' t j := e5.trans d11
      rw [if_neg (by omega), sp_pits, if_pos hk] at es
      refine con_mono (t_Score_addToLine hb1 Hj.2.1) ?_
      rintro r h7 ⟨z9, rfl, hb7, f7, ⟨rfl, w1, rfl⟩ | ⟨rfl, w1, w2⟩⟩
      · refine ⟨0, rfl, hb1, fun _ x16 e16 _ _ => ?_, fun d => absurd rfl d⟩
        rw [if_pos w1] at es
        refine con_mono (t_Reader_blame hb1) ?_
        rintro r h' ⟨z, rfl, hb2, f2, rfl, r1, r2⟩
        exact ⟨0, rfl, hb2, Or.inl rfl, 0, rfl, hb2, fr_t hf f2 (fun _ _ w => w), Or.inl rfl, by rw [es]; exact ⟨rfl, r1, by rw [r2, e16, d10]⟩⟩
      · refine ⟨1, rfl, hb7, fun d => absurd d (by decide), fun _ => ?_⟩
        rw [if_neg (by omega)] at es
        have H7 : RCs t m j (pit t j ν) s h7 := by
          rw [ev] at w2
          exact RCs_sc Hj f7 (by omega) (fun a k w => by omega) w2
        refine con_mono (t_Reader_step hb7 H7 (hT.1 _ Hj.1.2.2.1 (gk_of hk (by decide) (by decide)))) ?_
        rintro r h11 ⟨rfl, hb11, f11, H11⟩
        refine ⟨rfl, hb11, ⟨by omega, by omega⟩, ⟨fr_t (fr_t hf f7 (fun a k w => WR_s hs a k (by omega))) f11 (fun _ _ w => w), j + 1, pit t j ν, f', H11, ?_, by omega, fun d => by omega, es⟩, by omega⟩
        show ν 0 3 + 1 = v1 + 1
        omega
    · rw [es]
      obtain ⟨f', rfl⟩ : ∃ f', f = f' + 1 := ⟨f - 1, by omega⟩
      rw [sp_take, sp_pits]
      by_cases hk : tK t j = 59
      · rw [if_pos hk, if_pos hk]; rfl
      · rw [if_neg hk, if_neg hk, if_neg (by omega)]; rfl
  · unfold B_Reader_readLine_0
    intro x2 e2 _ _
    have em : x2 = μ 0 3 := e2.trans H.2.1.1.2.2.2.1
    refine ⟨fun c => ?_, fun c x13 e13 _ _ => ?_⟩
    · refine con_mono (t_Reader_step hb0 H (hT.1 i H.1.2.2.1 hg)) ?_
      rintro r h4 ⟨rfl, hb4, f4, H4⟩
      obtain ⟨d9, d10, -, -⟩ := RCs_b H4
      refine ⟨rfl, hb4, fun x8 e8 _ _ => ⟨fun c1 => ?_, fun c1 => ?_⟩⟩
      · have hk : tK t (i + 1) = 258 := by omega
        have h03 : μ 0 3 = 0 := by have := H.2.1.2.1.1; omega
        refine ⟨f4, i + 1, μ, 10, H4, h03, by decide, fun _ => hk, ?_⟩
        rw [sp_line, if_pos (by omega), if_neg (by omega)]
      · refine con_mono (t_Reader_refuse hb4 H4.1) ?_
        rintro r h' ⟨z, rfl, hb1, f1, rfl, r1, r2⟩
        refine ⟨0, rfl, hb1, Or.inl rfl, 0, rfl, hb1, fr_t f4 f1 (fun _ _ w => w), Or.inl rfl, ?_⟩
        rw [sp_line, if_pos (by omega), sp_pits, if_neg (by omega)]
        exact ⟨rfl, r1, r2⟩
    · refine con_mono (t_Reader_blame hb0) ?_
      rintro r h' ⟨z, rfl, hb1, f1, rfl, r1, r2⟩
      refine ⟨0, rfl, hb1, Or.inl rfl, 0, rfl, hb1, f1, Or.inl rfl, ?_⟩
      rw [sp_line, if_neg (by omega)]
      exact ⟨rfl, r1, by rw [r2, e13, c10]⟩

/-! ===== the class's reader, 4: names, rules, rows ===== -/
def PMc (t : tk_T) (m i s : Nat) (R : F_T ⊕ (Int × pm_T)) (z : Int) (h' : ah_T) : Prop := match R with
  | .inl q => z < 0 ∧ h'.2.1 2 6 = q.1 ∧ h'.2.1 2 7 = q.2
  | .inr v => z = v.1 ∧ 0 ≤ v.1 ∧ v.1 ≤ 15 ∧ RCs t m (i + 1) v.2 s h'
theorem t_Reader_readName {G : cx_T} {s : Nat} {h : ah_T} {t : tk_T} {m i : Nat} {μ : pm_T} (hb0 : hb s h) (hT : TG t m) (H : RCs t m i μ s h) : con G 1 0 0 m_Reader_readName [av_R (some 2)] h (fun r h' => ∃ z, r = some (av_I z) ∧ hb s h' ∧ fr (WR s) h h' ∧ PMc t m i s (sp_name t i μ) z h') := by
  have hs : s = 17 ∨ s = 80 := hb0.2.1
  obtain ⟨c9, c10, c11, -⟩ := RCs_b H
  have hna := H.2.1.2.2.2.2.2
  have h6 := H.2.1.2.1.2.2.2.1
  have e6 : h.2.1 2 3 = μ 0 6 := H.2.1.1.2.2.2.2.2.2.1
  refine c_Reader_readName (X22 := fun v1 hh => hh = h ∧ tK t i = 260 ∧ ∃ k : Nat, v1 = (k : Int) ∧ (k : Int) ≤ μ 0 6 ∧ ∀ j, j < k → μ 6 j ≠ tV' t i) ?_ hb0 ?_
  · refine lp_Reader_readName_22 _ (fun v1 _ => (17 - v1).toNat) ?_
    rintro v1 hh hb1 ⟨rfl, hk, k, rfl, k1, k2⟩
    have k117 : ∀ (hx : ah_T) (z : Int) (ν : pm_T), hb s hx → fr (WR s) hh hx → RCs t m i ν s hx → sp_name t i μ = .inr (z, ν) → 0 ≤ z → z ≤ 15 → B_Reader_readName_117 G s z hx (fun r h' => ∃ z, r = some (av_I z) ∧ hb s h' ∧ fr (WR s) hh h' ∧ PMc t m i s (sp_name t i μ) z h') := by
      intro hx z ν hbx fx Hx es z0 z1
      unfold B_Reader_readName_117
      refine con_mono (t_Reader_step hbx Hx (hT.1 _ H.1.2.2.1 (gk_of hk (by decide) (by decide)))) ?_
      rintro r h' ⟨rfl, hb2, f2, H2⟩
      exact ⟨rfl, hb2, z, rfl, hb2, fr_t fx f2 (fun _ _ w => w), by rw [es]; exact ⟨rfl, z0, z1, H2⟩⟩
    -- found, or at the end
    have k62 : (((k : Int) < μ 0 6 ∧ μ 6 k = tV' t i) ∨ (k : Int) = μ 0 6) → B_Reader_readName_62 G s (k : Int) hh (fun r h' => ∃ z, r = some (av_I z) ∧ hb s h' ∧ fr (WR s) hh h' ∧ PMc t m i s (sp_name t i μ) z h') := by
      intro hc
      unfold B_Reader_readName_62
      refine ⟨fun c x2 e2 _ _ => ⟨fun c1 x5 e5 _ _ => ⟨⟨by omega, by omega⟩, ?_⟩, fun c1 => ?_⟩, fun c x14 e14 _ _ => ?_⟩
      · -- a new one
        have hk6 : (k : Int) = μ 0 6 := by omega
        have ek : (μ 0 6).toNat = k := by omega
        rw [tn_c]
        intro h7 e7
        refine ⟨⟨by omega, by omega⟩, fun h11 e11 => ?_⟩
        have fx := fr_i (fr_l (W := WR s) fr_0 e7 (Or.inr (Or.inr (Or.inl rfl)))) e11 (Or.inr (Or.inl ⟨rfl, by decide⟩))
        have f9 := fr_i (fr_l (W := fun a k => a = 16 ∨ (a = 2 ∧ k = 3)) fr_0 e7 (Or.inl rfl)) e11 (Or.inr ⟨rfl, rfl⟩)
        refine k117 h11 (k : Int) (up2 (up2 μ 6 k (tV' t i)) 0 6 (μ 0 6 + 1)) (hb_i (hb_l hb1 e7) e11) fx ⟨RCt_f H.1 f9 (fun a k q => by omega), ?_, (fr_g f9 (by omega)).trans H.2.2⟩ ?_ (by omega) (by omega)
        · obtain ⟨⟨a0, a1, a2, a3, a4, a5, a6, a7⟩, ⟨b3, b4, b5, b6, b7⟩, l, ru, ro, na⟩ := H.2.1
          have g : ∀ x j, ¬ (x = 2 ∧ j = 3) → h11.2.1 x j = hh.2.1 x j := fun x j q => (mm_i e11 q).trans (mm_lo e7)
          refine ⟨⟨(g _ _ (by omega)).trans a0, (g _ _ (by omega)).trans a1, (g _ _ (by omega)).trans a2, (g _ _ (by omega)).trans a3, (g _ _ (by omega)).trans a4, (g _ _ (by omega)).trans a5, ?_, (g _ _ (by omega)).trans a7⟩, ⟨b3, b4, b5, ⟨?_, ?_⟩, b7⟩, fun j hj => (g _ _ (by omega)).trans (l j hj), fun j hj => ?_, fun j hj => (g _ _ (by omega)).trans (ro j hj), fun j hj => ?_⟩
          · rw [mv_i e11]; show x2 + 1 = μ 0 6 + 1; omega
          · show 0 ≤ μ 0 6 + 1; omega
          · show μ 0 6 + 1 ≤ 16; omega
          · rw [g _ _ (by omega), g _ _ (by omega), g _ _ (by omega)]; exact ru j hj
          · have hj : (j : Int) < μ 0 6 + 1 := hj
            show h11.2.2.1 16 j = up2 μ 6 k (tV' t i) 6 j
            rw [mm_io e11]
            by_cases hc : j = k
            · rw [hc, mv_l e7, up2_at, e5, c11]
            · rw [mm_l e7 (by omega), up2_o (fun q => hc q.2)]; exact na j (by omega)
        · rw [sp_name, if_pos hk, ek, fnd_no k k2, if_neg (by omega), if_neg (by omega), hk6]
      · -- an old one
        have hlt : (k : Int) < μ 0 6 ∧ μ 6 k = tV' t i := by omega
        refine k117 hh (k : Int) μ hb1 fr_0 H ?_ (by omega) (by omega)
        rw [sp_name, if_pos hk, fnd_at k2 hlt.2 _ (by omega), if_pos hlt.1]
      · refine con_mono (t_Reader_blame hb1) ?_
        rintro r h' ⟨z, rfl, hb2, f2, rfl, r1, r2⟩
        have hk6 : (k : Int) = μ 0 6 := by omega
        have ek : (μ 0 6).toNat = k := by omega
        refine ⟨0, rfl, hb2, -1, rfl, hb2, f2, ?_⟩
        rw [sp_name, if_pos hk, ek, fnd_no k k2, if_neg (by omega), if_pos (by omega)]
        exact ⟨by decide, r1, by rw [r2, e14, c10]⟩
    unfold B_Reader_readName_22
    intro x1 e1 _ _
    refine ⟨fun c => k62 (Or.inr (by omega)), fun c => ⟨fun c1 => by omega, fun c1 => ⟨⟨by omega, by omega⟩, ?_⟩⟩⟩
    rw [tn_c]
    intro x4 e4 _ _ x7 e7 _ _
    have ex4 : x4 = μ 6 k := e4.trans (hna k (by omega))
    refine ⟨fun c2 => k62 (Or.inl ⟨by omega, by rw [← ex4, c2, e7, c11]⟩), fun c2 => ⟨⟨by omega, by omega⟩, ⟨rfl, hk, k + 1, by omega, by omega, fun j hj => ?_⟩, by omega⟩⟩
    by_cases hjk : j = k
    · subst hjk; rw [← ex4, ← c11, ← e7]; exact c2
    · exact k2 j (by omega)
  · unfold B_Reader_readName_0
    intro x2 e2 _ _
    refine ⟨fun c => ⟨rfl, by omega, 0, rfl, by omega, fun j hj => absurd hj (by omega)⟩, fun c => ?_⟩
    refine con_mono (t_Reader_refuse hb0 H.1) ?_
    rintro r h' ⟨z, rfl, hb1, f1, rfl, r1, r2⟩
    refine ⟨0, rfl, hb1, -1, rfl, hb1, f1, ?_⟩
    rw [sp_name, if_neg (by omega)]
    exact ⟨by decide, r1, r2⟩
theorem sp_name_4 {t : tk_T} {i : Nat} {μ : pm_T} {v : Int × pm_T} (e : sp_name t i μ = .inr v) : v.2 0 4 = μ 0 4 ∧ v.2 0 5 = μ 0 5 ∧ v.2 0 3 = μ 0 3 ∧ v.2 0 7 = μ 0 7 ∧ v.2 0 0 = μ 0 0 := by
  unfold sp_name at e
  split at e
  · split at e
    · cases e; exact ⟨rfl, rfl, rfl, rfl, rfl⟩
    · split at e
      · cases e
      · cases e; exact ⟨rfl, rfl, rfl, rfl, rfl⟩
  · cases e
theorem t_Reader_readRule {G : cx_T} {s : Nat} {h : ah_T} {t : tk_T} {m i : Nat} {μ : pm_T} (hb0 : hb s h) (hT : TG t m) (H : RCs t m i μ s h) (hg : gk (tK t i)) : con G 2 0 0 m_Reader_readRule [av_R (some 2)] h (QB t m s (sp_rule t i μ) h) := by
  have hs : s = 17 ∨ s = 80 := hb0.2.1
  obtain ⟨c9, c10, -, -⟩ := RCs_b H
  have h4 := H.2.1.2.1.2.1
  -- the end: the rule is told, then a ;
  have k89 : ∀ (hh : ah_T) (j : Nat) (ν : pm_T) (a b c : Int), hb s hh → fr (WR s) h hh → RCs t m j ν s hh → ν 0 4 = μ 0 4 → μ 0 4 < 24 → sp_rule t i μ = bnd (sp_take t j 59) (fun _ => .inr (j + 1, addr ν a b c)) → B_Reader_readRule_89 G s a b c hh (QB t m s (sp_rule t i μ) h) := by
    intro hh j ν a b c hb1 hf Hj e4 hlt es
    unfold B_Reader_readRule_89
    refine con_mono (t_Score_addRule hb1 Hj.2.1 (by omega)) ?_
    rintro r h2 ⟨rfl, hb2, f2, R2⟩
    have H2 := RCs_sc Hj f2 (by omega) (fun a k w => w) R2
    refine ⟨rfl, hb2, ?_⟩
    refine con_mono (t_Reader_take (k := 59) hb2 H2 (fun w => hT.1 _ H2.1.2.2.1 (gk_of w (by decide) (by decide)))) ?_
    rintro r h' ⟨z, rfl, hb3, f3, z01, p3⟩
    exact ⟨z, rfl, hb3, z01, z, rfl, hb3, fr_t (fr_t hf f2 (WR_s hs)) f3 (fun _ _ w => w), z01, by rw [es]; exact p3⟩
  refine c_Reader_readRule hb0 ?_
  unfold B_Reader_readRule_0 B_Reader_readRule_50
  intro x2 e2 _ _
  have em : x2 = μ 0 4 := e2.trans H.2.1.1.2.2.2.2.1
  refine ⟨fun c => ?_, fun c x22 e22 _ _ => ?_⟩
  · have ed : sp_rule t i μ = bnd (sp_name t (i + 1) μ) fun a => bnd (sp_take t (i + 2) 61) fun _ => bnd (sp_name t (i + 3) a.2) fun b => if tK t (i + 4) = 260 then bnd (sp_name t (i + 4) b.2) fun c => bnd (sp_take t (i + 5) 59) fun _ => .inr (i + 6, addr c.2 a.1 b.1 c.1) else bnd (sp_take t (i + 4) 59) fun _ => .inr (i + 5, addr b.2 a.1 b.1 (-1)) := by
      rw [sp_rule, if_pos (by omega)]
    refine con_mono (t_Reader_step hb0 H (hT.1 i H.1.2.2.1 hg)) ?_
    rintro r h4 ⟨rfl, hb4, f4, H4⟩
    refine ⟨rfl, hb4, ?_⟩
    refine con_mono (t_Reader_readName hb4 hT H4) ?_
    rintro r h7 ⟨z9, rfl, hb7, f7, p7⟩
    have f47 := fr_t f4 f7 (fun _ _ w => w)
    rcases n1 : sp_name t (i + 1) μ with q | v1
    · rw [n1] at p7 ed
      obtain ⟨z0, p7⟩ := p7
      exact ⟨z9, rfl, hb7, fun _ => ⟨0, rfl, hb7, f47, Or.inl rfl, by rw [ed]; exact ⟨rfl, p7⟩⟩, fun d => absurd z0 d⟩
    rw [n1] at p7 ed
    obtain ⟨rfl, z0, z1, H7⟩ := p7
    have q1 := sp_name_4 n1
    refine ⟨v1.1, rfl, hb7, fun d => by omega, fun _ => ?_⟩
    refine con_mono (t_Reader_take (k := 61) hb7 H7 (fun w => hT.1 _ H7.1.2.2.1 (gk_of w (by decide) (by decide)))) ?_
    rintro r h10 ⟨z12, rfl, hb10, f10, -, p10⟩
    have f710 := fr_t f47 f10 (fun _ _ w => w)
    simp only [bnd] at ed
    rcases t1 : sp_take t (i + 2) 61 with q | u
    · rw [t1] at p10 ed
      obtain ⟨rfl, p10⟩ := p10
      exact ⟨0, rfl, hb10, fun _ => ⟨0, rfl, hb10, f710, Or.inl rfl, by rw [ed]; exact ⟨rfl, p10⟩⟩, fun d => absurd rfl d⟩
    rw [t1] at p10 ed
    obtain ⟨rfl, H10⟩ := p10
    refine ⟨1, rfl, hb10, fun d => absurd d (by decide), fun _ => ?_⟩
    dsimp only at ed
    refine con_mono (t_Reader_readName hb10 hT H10) ?_
    rintro r h13 ⟨z15, rfl, hb13, f13, p13⟩
    have f1013 := fr_t f710 f13 (fun _ _ w => w)
    rcases n2 : sp_name t (i + 3) v1.2 with q | v2
    · rw [n2] at p13 ed
      obtain ⟨z0, p13⟩ := p13
      exact ⟨z15, rfl, hb13, fun d => by omega, fun _ => ⟨0, rfl, hb13, f1013, Or.inl rfl, by rw [ed]; exact ⟨rfl, p13⟩⟩⟩
    rw [n2] at p13 ed
    obtain ⟨rfl, y0, y1, H13⟩ := p13
    have q2 := sp_name_4 n2
    dsimp only at ed
    have d13 : h13.2.1 3 9 = tK t (i + 4) := (RCs_b H13).1
    refine ⟨v2.1, rfl, hb13, fun _ x17 e17 _ _ => ⟨fun c1 => ?_, fun c1 => ?_⟩, fun d => by omega⟩
    · have hk : tK t (i + 4) = 260 := by have := e17.trans d13; omega
      rw [if_pos hk] at ed
      refine con_mono (t_Reader_readName hb13 hT H13) ?_
      rintro r h18 ⟨z20, rfl, hb18, f18, p18⟩
      have f1318 := fr_t f1013 f18 (fun _ _ w => w)
      have n3' : sp_name t (i + 3 + 1) v2.2 = sp_name t (i + 4) v2.2 := rfl
      rcases n3 : sp_name t (i + 4) v2.2 with q | v3
      · rw [n3', n3] at p18; rw [n3] at ed
        obtain ⟨z0, p18⟩ := p18
        exact ⟨z20, rfl, hb18, fun d => by omega, fun _ => ⟨0, rfl, hb18, f1318, Or.inl rfl, by rw [ed]; exact ⟨rfl, p18⟩⟩⟩
      · rw [n3', n3] at p18; rw [n3] at ed
        obtain ⟨rfl, w0, w1, H18⟩ := p18
        have q3 := sp_name_4 n3
        exact ⟨v3.1, rfl, hb18, fun _ => k89 h18 (i + 5) v3.2 _ _ _ hb18 f1318 H18 (by omega) (by omega) (by rw [ed]; rfl), fun d => by omega⟩
    · have hk : ¬ tK t (i + 4) = 260 := by have := e17.trans d13; omega
      rw [if_neg hk] at ed
      exact k89 h13 (i + 4) v2.2 _ _ _ hb13 f1013 H13 (by omega) (by omega) (by rw [ed]; rfl)
  · refine con_mono (t_Reader_blame hb0) ?_
    rintro r h' ⟨z, rfl, hb1, f1, rfl, r1, r2⟩
    refine ⟨0, rfl, hb1, Or.inl rfl, 0, rfl, hb1, f1, Or.inl rfl, ?_⟩
    rw [sp_rule, if_neg (by omega)]
    exact ⟨rfl, r1, by rw [r2, e22, c10]⟩
theorem t_Reader_readRow {G : cx_T} {s : Nat} {h : ah_T} {t : tk_T} {m i : Nat} {μ : pm_T} (hb0 : hb s h) (hT : TG t m) (H : RCs t m i μ s h) (hg : gk (tK t i)) : con G 2 0 0 m_Reader_readRow [av_R (some 2)] h (QB t m s (sp_row t i μ) h) := by
  have hs : s = 17 ∨ s = 80 := hb0.2.1
  obtain ⟨c9, c10, -, -⟩ := RCs_b H
  have k119 : ∀ (hh : ah_T) (j : Nat) (ν : pm_T), hb s hh → fr (WR s) h hh → RCs t m j ν s hh → sp_row t i μ = bnd (sp_take t j 59) (fun _ => .inr (j + 1, ν)) → B_Reader_readRow_119 G s hh (QB t m s (sp_row t i μ) h) := by
    intro hh j ν hb1 hf Hj e
    unfold B_Reader_readRow_119
    refine con_mono (t_Reader_take (k := 59) hb1 Hj (fun w => hT.1 _ Hj.1.2.2.1 (gk_of w (by decide) (by decide)))) ?_
    rintro r h' ⟨z, rfl, hb2, f2, z01, p2⟩
    exact ⟨z, rfl, hb2, z01, z, rfl, hb2, fr_t hf f2 (fun _ _ w => w), z01, by rw [e]; exact p2⟩
  refine c_Reader_readRow (X50 := fun v1 hh => fr (WR s) h hh ∧ ∃ (j : Nat) (ν : pm_T) (f : Nat), RCs t m j ν s hh ∧ ν 0 5 = v1 ∧ (f : Int) = 14 - v1 ∧ (v1 = 0 → tK t j = 260) ∧ sp_row t i μ = (if tK t j = 59 then .inr (j + 1, ν) else sp_rows t f j ν)) ?_ hb0 ?_
  · refine lp_Reader_readRow_50 _ (fun v1 _ => (14 - v1).toNat) ?_
    rintro v1 hh hb1 ⟨hf, j, ν, f, Hj, e3, ef, e0, es⟩
    obtain ⟨d9, d10, d11, -⟩ := RCs_b Hj
    have hb8 := Hj.2.1.2.1.2.2.1
    unfold B_Reader_readRow_50
    refine ⟨fun c => by omega, fun c x2 e2 _ _ => ⟨fun c1 x4 e4 _ _ => ?_, fun c1 => k119 hh j ν hb1 hf Hj ?_⟩⟩
    · have hk : tK t j = 260 := by omega
      have e5 : x4 = ν 0 5 := e4.trans Hj.2.1.1.2.2.2.2.2.1
      obtain ⟨f', rfl⟩ : ∃ f', f = f' + 1 := ⟨f - 1, by omega⟩
      rw [if_neg (by omega), sp_rows, if_pos hk] at es
      refine ⟨fun c2 => ?_, fun c2 x14 e14 _ _ => ?_⟩
      · rw [if_pos (by omega)] at es
        refine con_mono (t_Reader_readName hb1 hT Hj) ?_
        rintro r h5 ⟨z7, rfl, hb5, f5, p5⟩
        have f15 := fr_t hf f5 (fun _ _ w => w)
        rcases n1 : sp_name t j ν with q | v
        · rw [n1] at p5 es
          obtain ⟨z0, p5⟩ := p5
          exact ⟨z7, rfl, hb5, fun d => by omega, fun _ => ⟨0, rfl, hb5, f15, Or.inl rfl, by rw [es]; exact ⟨rfl, p5⟩⟩⟩
        rw [n1] at p5 es
        obtain ⟨rfl, z0, z1, H5⟩ := p5
        have q1 := sp_name_4 n1
        dsimp only [bnd] at es
        refine ⟨v.1, rfl, hb5, fun _ => ?_, fun d => by omega⟩
        refine con_mono (t_Score_addToRow hb5 H5.2.1 (by omega)) ?_
        rintro r h9 ⟨rfl, hb9, f9, R9⟩
        have H9 := RCs_sc H5 f9 (by omega) (fun a k w => w) R9
        refine ⟨rfl, hb9, ⟨by omega, by omega⟩, ⟨fr_t f15 f9 (WR_s hs), j + 1, rowa v.2 v.1, f', H9, ?_, by omega, fun d => by omega, es⟩, by omega⟩
        show v.2 0 5 + 1 = v1 + 1
        omega
      · rw [if_neg (by omega)] at es
        refine con_mono (t_Reader_blame hb1) ?_
        rintro r h' ⟨z, rfl, hb2, f2, rfl, r1, r2⟩
        exact ⟨0, rfl, hb2, Or.inl rfl, 0, rfl, hb2, fr_t hf f2 (fun _ _ w => w), Or.inl rfl, by rw [es]; exact ⟨rfl, r1, by rw [r2, e14, d10]⟩⟩
    · rw [es]
      obtain ⟨f', rfl⟩ : ∃ f', f = f' + 1 := ⟨f - 1, by omega⟩
      rw [sp_take, sp_rows]
      by_cases hk : tK t j = 59
      · rw [if_pos hk, if_pos hk]; rfl
      · rw [if_neg hk, if_neg hk, if_neg (by omega)]; rfl
  · unfold B_Reader_readRow_0
    intro x2 e2 _ _
    have em : x2 = μ 0 5 := e2.trans H.2.1.1.2.2.2.2.2.1
    refine ⟨fun c => ?_, fun c x13 e13 _ _ => ?_⟩
    · refine con_mono (t_Reader_step hb0 H (hT.1 i H.1.2.2.1 hg)) ?_
      rintro r h4 ⟨rfl, hb4, f4, H4⟩
      obtain ⟨d9, d10, -, -⟩ := RCs_b H4
      refine ⟨rfl, hb4, fun x8 e8 _ _ => ⟨fun c1 => ?_, fun c1 => ?_⟩⟩
      · have hk : tK t (i + 1) = 260 := by omega
        have h05 : μ 0 5 = 0 := by have := H.2.1.2.1.2.2.1; omega
        refine ⟨f4, i + 1, μ, 14, H4, h05, by decide, fun _ => hk, ?_⟩
        rw [sp_row, if_pos (by omega), if_neg (by omega)]
      · refine con_mono (t_Reader_refuse hb4 H4.1) ?_
        rintro r h' ⟨z, rfl, hb1, f1, rfl, r1, r2⟩
        refine ⟨0, rfl, hb1, Or.inl rfl, 0, rfl, hb1, fr_t f4 f1 (fun _ _ w => w), Or.inl rfl, ?_⟩
        rw [sp_row, if_pos (by omega), sp_rows, if_neg (by omega)]
        exact ⟨rfl, r1, r2⟩
    · refine con_mono (t_Reader_blame hb0) ?_
      rintro r h' ⟨z, rfl, hb1, f1, rfl, r1, r2⟩
      refine ⟨0, rfl, hb1, Or.inl rfl, 0, rfl, hb1, f1, Or.inl rfl, ?_⟩
      rw [sp_row, if_neg (by omega)]
      exact ⟨rfl, r1, by rw [r2, e13, c10]⟩

/-! ===== what a text means: the parts of a voice =====
rows of the memory of parts: 0: size, depth, admitted, sounds, pitches; 1 kinds; 2 number or a; 3 dots or b; 4 tied; 5 how many pitches; 6..9 keys; 10..13 steps; 14 links; 15 opened; 16 last mark; 17 signs; 18 number of the sound; 19 pitches ahead of it -/
def sz (π : pm_T) : Nat := (π 0 0).toNat
def dp (π : pm_T) : Nat := (π 0 1).toNat
def sp_adm (t : tk_T) (i : Nat) (π : pm_T) : F_T ⊕ pm_T := if π 0 2 < 300 then .inr (up2 π 0 2 (π 0 2 + 1)) else .inl (3, tP t i)
def pch (t : tk_T) (i : Nat) (g : Int) (π : pm_T) : pm_T := up2 (up2 (up2 (up2 (up2 π (6 + (π 5 (sz π)).toNat) (sz π) (tV' t i)) (10 + (π 5 (sz π)).toNat) (sz π) (tS t i)) 17 (sz π) (π 17 (sz π) + g)) 5 (sz π) (π 5 (sz π) + 1)) 0 4 (π 0 4 + 1)
def snd0 (π : pm_T) : pm_T := up2 (up2 (up2 π 5 (sz π) 0) 17 (sz π) 0) 19 (sz π) (π 0 4)
/-- how many # and b a PITCH has, by its KEY and STEP -/
def sgk (v st : Int) : Int := if 0 ≤ v - (12 * (st / 7) + wh ((st % 7 + 2) % 7 + 65)) then v - (12 * (st / 7) + wh ((st % 7 + 2) % 7 + 65)) else -(v - (12 * (st / 7) + wh ((st % 7 + 2) % 7 + 65)))
def sgt (t : tk_T) (i : Nat) : Int := sgk (tV' t i) (tS t i)
def sp_chord (t : tk_T) : Nat → Nat → pm_T → F_T ⊕ (Nat × pm_T)
  | 0, _, _ => .inl (1, 0)
  | f + 1, i, π => if tK t i = 258 then (if π 5 (sz π) = 4 then .inl (3, tP t i) else if 0 < π 5 (sz π) ∧ tV' t i ≤ π (5 + (π 5 (sz π)).toNat) (sz π) then .inl (if π 0 2 < 300 then 4 else 3, tP t i) else
      bnd (sp_adm t i π) fun π1 => if tK t (i + 1) = 62 then .inr (i + 2, pch t i (sgt t i) π1) else sp_chord t f (i + 1) (pch t i (sgt t i) π1)) else .inl (cn t i)
def sp_sound (t : tk_T) (i : Nat) (π : pm_T) : F_T ⊕ (Nat × pm_T) :=
  if tK t i = 266 then bnd (sp_adm t i (snd0 π)) fun π1 => .inr (i + 1, π1)
  else if tK t i = 258 then bnd (sp_adm t i (snd0 π)) fun π1 => .inr (i + 1, pch t i (sgt t i) π1)
  else sp_chord t 5 (i + 1) (snd0 π)
def sp_dots (t : tk_T) : Nat → Nat → Int → F_T ⊕ (Nat × Int)
  | 0, _, _ => .inl (1, 0)
  | f + 1, i, d => if tK t i = 46 then (if d = 3 then .inl (3, tP t i) else sp_dots t f (i + 1) (d + 1)) else .inr (i, d)
def addE (π : pm_T) (n d w : Int) : pm_T := up2 (up2 (up2 (up2 (up2 (up2 (up2 (up2 π 1 (sz π) 256) 2 (sz π) n) 3 (sz π) d) 4 (sz π) w) 14 (sz π) (π 0 0)) 18 (sz π) (π 0 3)) 0 3 (π 0 3 + 1)) 0 0 (π 0 0 + 1)
def sp_event (t : tk_T) (i : Nat) (π : pm_T) : F_T ⊕ (Nat × pm_T) :=
  bnd (sp_sound t i π) fun a => bnd (sp_num t a.1 64 true) fun n => bnd (sp_dots t 4 (a.1 + 1) 0) fun d =>
    if tK t d.1 = 126 then (if tK t i = 266 then .inl (7, tP t d.1) else .inr (d.1 + 1, addE a.2 n d.2 1)) else .inr (d.1, addE a.2 n d.2 0)
/-- a part that isn't an event: kind, two numbers -/
def addP (π : pm_T) (k a b : Int) : pm_T := up2 (up2 (up2 (up2 (up2 π 1 (sz π) k) 2 (sz π) a) 3 (sz π) b) 14 (sz π) (π 0 0)) 0 0 (π 0 0 + 1)
def opn (π : pm_T) : pm_T := up2 (up2 (up2 π 15 (dp π) (π 0 0)) 16 (dp π) (π 0 0)) 0 1 (π 0 1 + 1)
/-- the innermost [ or { -/
def top (π : pm_T) : Nat := (π 15 (dp π - 1)).toNat
def mrk (π : pm_T) : pm_T := up2 (up2 π 14 (π 16 (dp π - 1)).toNat (π 0 0)) 16 (dp π - 1) (π 0 0)
def addM (π : pm_T) (k : Int) : pm_T := if k = 58 then addP (mrk π) k 0 0 else up2 (addP (mrk π) k 0 0) 0 1 (π 0 1 - 1)
def sp_times (t : tk_T) (i : Nat) (π : pm_T) : F_T ⊕ (Nat × pm_T) :=
  bnd (sp_num t (i + 1) 16 false) fun a => bnd (sp_take t (i + 2) 47) fun _ => bnd (sp_num t (i + 3) 16 false) fun b => bnd (sp_take t (i + 4) 58) fun _ => .inr (i + 5, addP (opn π) 123 a b)
def isMk (π : pm_T) (K : Int) : Prop := 0 < π 0 1 ∧ ((K = 58 ∧ π 1 (top π) = 91) ∨ (K = 93 ∧ π 1 (top π) = 91) ∨ (K = 125 ∧ π 1 (top π) = 123))
theorem isMk_dec (π : pm_T) (K : Int) : isMk π K ∨ ¬ isMk π K := Classical.em _
def mkb (π : pm_T) (K : Int) : Bool := decide (0 < π 0 1) && ((K == 58 && π 1 (top π) == 91) || (K == 93 && π 1 (top π) == 91) || (K == 125 && π 1 (top π) == 123))
def sp_part (t : tk_T) (i : Nat) (π : pm_T) : F_T ⊕ (Nat × pm_T) :=
  if mkb π (tK t i) = true then .inr (i + 1, addM π (tK t i))
  else if tK t i = 258 ∨ tK t i = 266 ∨ tK t i = 60 then (if π 0 1 ≤ 6 then sp_event t i π else .inl (3, tP t i))
  else if tK t i = 124 then (if π 0 1 ≤ 6 then .inr (i + 1, addP π 124 0 0) else .inl (3, tP t i))
  else if tK t i = 91 then (if π 0 1 ≤ 6 then .inr (i + 1, addP (opn π) 91 0 0) else .inl (3, tP t i))
  else if tK t i = 123 then (if π 0 1 ≤ 6 then sp_times t i π else .inl (3, tP t i))
  else .inl (cn t i)
def sp_parts (t : tk_T) : Nat → Nat → pm_T → F_T ⊕ (Nat × pm_T)
  | 0, _, _ => .inl (1, 0)
  | f + 1, i, π => if tK t i = 59 ∧ π 0 1 ≤ 0 then .inr (i, π) else bnd (sp_part t i π) fun q => sp_parts t f q.1 q.2
def par0 : pm_T := fun _ _ => 0
/-! the WALK: rows of its memory: 0: steps, events, lines, far, now (two); 1 the part of an event; 2 its bar; 3, 4 START; 5, 6 LENGTH; 7 the first event of a bar -/
def isFr (a b : Int) : Bool := decide (1000 * b < a) || decide (1000000 < b)
def rdT (a b : Int) : Int := a / (Int.gcd a b : Int)
def rdB (a b : Int) : Int := b / (Int.gcd a b : Int)
def lnT (π : pm_T) (j : Nat) (sT : Int) : Int := sT * (2 ^ ((π 3 j).toNat + 1) - 1)
def lnB (π : pm_T) (j : Nat) (sB : Int) : Int := sB * π 2 j * 2 ^ (π 3 j).toNat
def wk_ev (π : pm_T) (j : Nat) (sT sB : Int) (α : pm_T) : pm_T :=
  let α1 := up2 α 0 1 (α 0 1 + 1)
  if α 0 3 = 0 ∧ α 0 1 < 300 then
    let e := (α 0 1).toNat
    let lT := rdT (lnT π j sT) (lnB π j sB)
    let lB := rdB (lnT π j sT) (lnB π j sB)
    let α2 := up2 (up2 (up2 (up2 (up2 (up2 α1 1 e (j : Int)) 2 e (α 0 2)) 3 e (α 0 4)) 4 e (α 0 5)) 5 e lT) 6 e lB
    if isFr lT lB = true then up2 α2 0 3 1 else
      let nT := rdT (α 0 4 * lB + lT * α 0 5) (α 0 5 * lB)
      let nB := rdB (α 0 4 * lB + lT * α 0 5) (α 0 5 * lB)
      up2 (up2 (up2 α2 0 4 nT) 0 5 nB) 0 3 (if isFr nT nB = true then 1 else 0)
  else α1
def wk_ln (α : pm_T) : pm_T := up2 (if α 0 2 < 100 then up2 α 7 ((α 0 2).toNat + 1) (α 0 1) else α) 0 2 (α 0 2 + 1)
def wk_st (α : pm_T) : pm_T := up2 α 0 0 (α 0 0 + 1)
def lk (π : pm_T) (j : Nat) : Nat := (π 14 j).toNat
/-- where the ] of the [ stands: along the marks -/
def cls (π : pm_T) : Nat → Nat → Nat
  | 0, j => j
  | f + 1, j => if π 1 j = 58 then cls π f (lk π j) else j
/-- mode true: from part x up to part y; mode false: [ at x is walked on from its mark y -/
def wk (π : pm_T) : Nat → Bool → Nat → Nat → Int → Int → pm_T → pm_T
  | 0, _, _, _, _, _, α => α
  | f + 1, true, x, y, sT, sB, α => if y ≤ x then α else
      if π 1 x = 91 then wk π f true (cls π f (lk π x) + 1) y sT sB
        (if π 1 (lk π x) = 58 then wk π f false x (lk π x) sT sB (wk_st α)
         else wk π f true (x + 1) (lk π x) sT sB (wk_st (wk π f true (x + 1) (lk π x) sT sB (wk_st (wk_st α)))))
      else if π 1 x = 123 then wk π f true (lk π x + 1) y sT sB (wk π f true (x + 1) (lk π x) (sT * π 3 x) (sB * π 2 x) (wk_st α))
      else if π 1 x = 124 then wk π f true (x + 1) y sT sB (wk_ln (wk_st α))
      else if π 1 x = 256 then wk π f true (x + 1) y sT sB (wk_ev π x sT sB (wk_st α))
      else wk π f true (x + 1) y sT sB (wk_st α)
  | f + 1, false, x, y, sT, sB, α => if π 1 y = 58 then wk π f false x (lk π y) sT sB (wk π f true (y + 1) (lk π y) sT sB (wk π f true (x + 1) (lk π x) sT sB (wk_st α))) else α
def wk0 : pm_T := up2 (fun _ _ => 0) 0 5 1
def walk (π : pm_T) : pm_T := wk π 5000 true 0 (sz π) 1 1 wk0
/-- a voice's walk in the score's memory: 10 + v: events, bars; 100 + 40 v + what: of an event -/
def addV (μ π α : pm_T) : pm_T := fun a k =>
  if a = 0 ∧ k = 7 then μ 0 7 + 1 else
  if a = 10 + (μ 0 7).toNat ∧ k = 0 then α 0 1 else if a = 10 + (μ 0 7).toNat ∧ k = 1 then α 0 2 + 1 else
  if 100 + 40 * (μ 0 7).toNat ≤ a ∧ a < 140 + 40 * (μ 0 7).toNat then
    (let w := a - (100 + 40 * (μ 0 7).toNat)
     let j := (α 1 k).toNat
     if w < 4 then α (3 + w) k else if w = 4 then π 5 j else if w = 5 then π 4 j else if w = 6 then α 2 k else if w = 7 then π 2 j else if w = 8 then π 3 j else if w = 9 then π 17 j
     else if 10 ≤ w ∧ w < 14 then π (w - 4) j else if 20 ≤ w ∧ w < 24 then π (w - 10) j else if w = 30 then α 7 k else if w = 31 then α 0 (4 + k) else 0)
  else μ a k
def sp_voice (t : tk_T) (i : Nat) (μ : pm_T) : F_T ⊕ (Nat × pm_T) :=
  if μ 0 7 < 4 then bnd (sp_parts t 3000 (i + 1) par0) fun q =>
    if 2000 < walk q.2 0 0 ∨ 300 < walk q.2 0 1 ∨ 100 < walk q.2 0 2 then .inl (3, tP t i) else if walk q.2 0 3 = 0 then .inr (q.1 + 1, addV μ q.2 (walk q.2)) else .inl (6, tP t i)
  else .inl (3, tP t i)
def sp_items (t : tk_T) : Nat → Nat → pm_T → F_T ⊕ pm_T
  | 0, _, _ => .inl (1, 0)
  | f + 1, i, μ => if tK t i = 256 then .inr μ else
      bnd (if tK t i = 261 then sp_time t i μ else if tK t i = 262 then sp_voice t i μ else if tK t i = 263 then sp_line t i μ else if tK t i = 264 then sp_rule t i μ else if tK t i = 265 then sp_row t i μ else .inl (cn t i)) fun q => sp_items t f q.1 q.2
def sco0 : pm_T := up2 (up2 (fun _ _ => 0) 0 1 4) 0 2 4
def sp_score (t : tk_T) : F_T ⊕ pm_T := sp_items t 3000 0 sco0

/-! ===== the class's reader, 5: thin frames ===== -/
/-- what a step and a fault write -/
abbrev WT : Nat → Nat → Prop := fun a k => (a = 3 ∧ (k = 5 ∨ 9 ≤ k)) ∨ (a = 2 ∧ 6 ≤ k)
abbrev QT (t : tk_T) (m s : Nat) (R : F_T ⊕ (Nat × pm_T)) (h : ah_T) : Option av_T → ah_T → Prop := fun r h' => ∃ z, r = some (av_I z) ∧ hb s h' ∧ fr WT h h' ∧ (z = 0 ∨ z = 1) ∧ PBc t m s R z h'
theorem WN_T : ∀ a k, WN a k → WT a k := fun _ _ q => Or.inl q
theorem tt_Reader_blame {G : cx_T} {s : Nat} {h : ah_T} {a1 a2 : Int} (hb0 : hb s h) : con G 0 0 0 m_Reader_blame [av_R (some 2), av_I a1, av_I a2] h (fun r h' => ∃ z, r = some (av_I z) ∧ hb s h' ∧ fr WT h h' ∧ z = 0 ∧ h'.2.1 2 6 = a1 ∧ h'.2.1 2 7 = a2) := by
  refine c_Reader_blame hb0 (fun _ _ => ?_)
  unfold B_Reader_blame_0
  intro h1 e1 h3 e3
  exact ⟨0, rfl, hb_i (hb_i hb0 e1) e3, fr_i (fr_i fr_0 e1 (Or.inr ⟨rfl, by decide⟩)) e3 (Or.inr ⟨rfl, by decide⟩), rfl, by rw [mm_i e3 (by decide), mv_i e1], mv_i e3⟩
theorem tt_Reader_refuse {G : cx_T} {s : Nat} {h : ah_T} {t : tk_T} {m i : Nat} (hb0 : hb s h) (H : RCt t m i h) : con G 0 0 0 m_Reader_refuse [av_R (some 2)] h (fun r h' => ∃ z, r = some (av_I z) ∧ hb s h' ∧ fr WT h h' ∧ z = 0 ∧ h'.2.1 2 6 = (cn t i).1 ∧ h'.2.1 2 7 = (cn t i).2) := by
  obtain ⟨-, -, -, -, -, r6, r7, -, -⟩ := H
  refine c_Reader_refuse hb0 ?_
  unfold B_Reader_refuse_0 B_Reader_refuse_19 cn
  intro x2 e2 _ _
  refine ⟨fun c h1 e1 x4 e4 _ _ h5 e5 => ⟨0, rfl, hb_i (hb_i hb0 e1) e5, fr_i (fr_i fr_0 e1 (Or.inr ⟨rfl, by decide⟩)) e5 (Or.inr ⟨rfl, by decide⟩), rfl, ?_, ?_⟩, fun c h1 e1 x4 e4 _ _ h5 e5 => ⟨0, rfl, hb_i (hb_i hb0 e1) e5, fr_i (fr_i fr_0 e1 (Or.inr ⟨rfl, by decide⟩)) e5 (Or.inr ⟨rfl, by decide⟩), rfl, ?_, ?_⟩⟩
  · rw [mm_i e5 (by decide), mv_i e1, if_pos (by omega)]
  · rw [mv_i e5, e4, mm_i e1 (by decide), r7]
  · rw [mm_i e5 (by decide), mv_i e1, if_neg (by omega)]
  · rw [mv_i e5, e4, mm_i e1 (by decide), r7]
theorem tt_Reader_step {G : cx_T} {s : Nat} {h : ah_T} {t : tk_T} {m i : Nat} {μ : pm_T} (hb0 : hb s h) (H : RCs t m i μ s h) (hi : i + 1 < m) : con G 0 0 0 m_Tokens_next [av_R (some 3)] h (fun r h' => r = none ∧ hb s h' ∧ fr WT h h' ∧ RCs t m (i + 1) μ s h') := by
  have hs : s = 17 ∨ s = 80 := hb0.2.1
  refine con_mono (t_Tokens_next hb0 H.1 hi) ?_
  rintro r h' ⟨rfl, hb1, f1, r1⟩
  exact ⟨rfl, hb1, fr_w f1 WN_T, r1, RSc_f H.2.1 f1 (fun a k p q w => by omega) (fun w => by omega) (fun k w => by omega), (fr_g f1 (by omega)).trans H.2.2⟩
theorem tt_Reader_take {G : cx_T} {s : Nat} {h : ah_T} {t : tk_T} {m i : Nat} {μ : pm_T} {k : Int} (hb0 : hb s h) (H : RCs t m i μ s h) (hg : tK t i = k → i + 1 < m) : con G 1 0 0 m_Reader_take [av_R (some 2), av_I k] h (QT t m s (bnd (sp_take t i k) fun _ => .inr (i + 1, μ)) h) := by
  refine c_Reader_take hb0 (fun _ => ?_)
  unfold B_Reader_take_0
  intro x2 e2 _ _
  have ek : x2 = tK t i := e2.trans H.1.2.2.2.2.2.1
  refine ⟨fun c => ?_, fun c => ?_⟩
  · refine con_mono (tt_Reader_step hb0 H (hg (by omega))) ?_
    rintro r h' ⟨rfl, hb1, f1, r1⟩
    refine ⟨rfl, hb1, 1, rfl, hb1, f1, Or.inr rfl, ?_⟩
    rw [sp_take, if_pos (by omega)]
    exact ⟨rfl, r1⟩
  · refine con_mono (tt_Reader_refuse hb0 H.1) ?_
    rintro r h' ⟨z, rfl, hb1, f1, rfl, r1, r2⟩
    refine ⟨0, rfl, hb1, Or.inl rfl, 0, rfl, hb1, f1, Or.inl rfl, ?_⟩
    rw [sp_take, if_neg (by omega)]
    exact ⟨rfl, r1, r2⟩
theorem tt_Reader_readNumber {G : cx_T} {s : Nat} {h : ah_T} {t : tk_T} {m i : Nat} {μ : pm_T} {most w : Int} {pw : Bool} (hb0 : hb s h) (H : RCs t m i μ s h) (hg : tK t i = 259 → i + 1 < m ∧ 0 ≤ tV' t i ∧ tV' t i ≤ 9999) (hw : w = if pw = true then 1 else 0) (hm : most ≤ 64) : con G 1 0 0 m_Reader_readNumber [av_R (some 2), av_I most, av_I w] h (fun r h' => ∃ z, r = some (av_I z) ∧ hb s h' ∧ fr WT h h' ∧ PNc t m i s μ (sp_num t i most pw) z h') := by
  obtain ⟨c9, c10, c11, c12⟩ := RCs_b H
  refine c_Reader_readNumber hb0 (fun _ _ => ?_)
  unfold B_Reader_readNumber_0
  intro x2 e2 _ _
  refine ⟨fun c x4 e4 _ _ => ?_, fun c => ?_⟩
  · have hk : tK t i = 259 := by omega
    obtain ⟨g1, g2, g3⟩ := hg hk
    have ev : x4 = tV' t i := e4.trans c11
    have bad : ¬ ((1 ≤ tV' t i ∧ tV' t i ≤ most) ∧ (pw = false ∨ pwb (tV' t i) = true)) → ∀ hx : ah_T, hx = h → B_Reader_readNumber_51 G s most w hx (fun r h' => ∃ z, r = some (av_I z) ∧ hb s h' ∧ fr WT h h' ∧ PNc t m i s μ (sp_num t i most pw) z h') := by
      rintro hn hx rfl
      unfold B_Reader_readNumber_51
      intro y ey _ _
      refine con_mono (tt_Reader_blame hb0) ?_
      rintro r h' ⟨z, rfl, hb1, f1, rfl, r1, r2⟩
      refine ⟨0, rfl, hb1, 0, rfl, hb1, f1, ?_⟩
      rw [sp_num, if_pos hk, if_neg hn]
      exact ⟨rfl, r1, by rw [r2, ey, c10]⟩
    have good : ((1 ≤ tV' t i ∧ tV' t i ≤ most) ∧ (pw = false ∨ pwb (tV' t i) = true)) → ∀ hx : ah_T, hx = h → B_Reader_readNumber_66 G s most w x4 hx (fun r h' => ∃ z, r = some (av_I z) ∧ hb s h' ∧ fr WT h h' ∧ PNc t m i s μ (sp_num t i most pw) z h') := by
      rintro hn hx rfl
      unfold B_Reader_readNumber_66
      refine con_mono (tt_Reader_step hb0 H g1) ?_
      rintro r h' ⟨rfl, hb1, f1, r1⟩
      refine ⟨rfl, hb1, x4, rfl, hb1, f1, ?_⟩
      rw [sp_num, if_pos hk, if_pos hn]
      exact ⟨ev, hn.1.1, by omega, r1⟩
    refine ⟨⟨by omega, by omega⟩, fun d => bad (fun q => by omega) h rfl, fun d => ⟨fun d1 => bad (fun q => by omega) h rfl, fun d1 => ⟨fun d2 => good ⟨⟨by omega, by omega⟩, Or.inl ?_⟩ h rfl, fun d2 => ?_⟩⟩⟩
    · cases pw with
      | false => rfl
      | true => simp at hw; omega
    · have hp : pw = true := by
        cases pw with
        | true => rfl
        | false => simp at hw; omega
      refine con_mono (t_bitCount hb0 (by omega) (by omega)) ?_
      rintro r h6 ⟨z8, rfl, hb6, rfl, hz⟩
      refine ⟨z8, rfl, hb6, fun d3 => good ⟨⟨by omega, by omega⟩, Or.inr (by rw [← ev]; exact hz.mp d3)⟩ h6 rfl, fun d3 => bad (fun q => ?_) h6 rfl⟩
      rcases q.2 with q2 | q2
      · rw [hp] at q2; cases q2
      · exact d3 (hz.mpr (by rw [ev]; exact q2))
  · refine con_mono (tt_Reader_refuse hb0 H.1) ?_
    rintro r h' ⟨z, rfl, hb1, f1, rfl, r1, r2⟩
    refine ⟨0, rfl, hb1, 0, rfl, hb1, f1, ?_⟩
    rw [sp_num, if_neg (by omega)]
    exact ⟨rfl, r1, r2⟩

/-! ===== the class: a voice's sounds and parts, cell by cell ===== -/
theorem isV_24 {v : Nat} (h : isV v) : 24 ≤ v := by unfold isV at h; omega
/-- what reading a voice's parts writes -/
abbrev WP (v : Nat) : Nat → Nat → Prop := fun a k => WT a k ∨ (a = 2 ∧ k = 4) ∨ (9 ≤ a ∧ a ≤ 15) ∨ (v ≤ a ∧ a ≤ v + 6)
theorem WT_P {v : Nat} : ∀ a k, WT a k → WP v a k := fun _ _ q => Or.inl q
theorem t_Voice_clear {G : cx_T} {s v : Nat} {h : ah_T} (hv : isV v) (hb0 : hb s h) : con G 0 0 0 m_Voice_clear [av_R (some v)] h (fun r h' => r = none ∧ hb s h' ∧ fr (fun a k => (a = v ∧ (k = 2 ∨ k = 7)) ∨ (a = v + 3 ∧ k = 0)) h h' ∧ h'.2.1 v 2 = 0 ∧ h'.2.1 v 7 = 0 ∧ h'.2.1 (v + 3) 0 = 0) := by
  have v24 := isV_24 hv
  refine c_Voice_clear hv hb0 ?_
  unfold B_Voice_clear_0
  intro h1 e1 h3 e3 h6 e6
  refine ⟨rfl, hb_i (hb_i (hb_i hb0 e1) e3) e6, fr_i (fr_i (fr_i fr_0 e1 (by omega)) e3 (by omega)) e6 (by omega), ?_, ?_, mv_i e6⟩
  · rw [mm_i e6 (by omega), mm_i e3 (by omega), mv_i e1]
  · rw [mm_i e6 (by omega), mv_i e3]
theorem t_Voice_addPitch {G : cx_T} {s v n : Nat} {h : ah_T} {a b : Int} (hv : isV v) (hb0 : hb s h) (hn : h.2.1 v 2 = (n : Int)) : con G 0 0 0 m_Voice_addPitch [av_R (some v), av_I a, av_I b] h (fun r h' => r = none ∧ hb s h' ∧ fr (fun x k => (x = v ∧ k = 2) ∨ (x = v + 1 ∧ k = n) ∨ (x = v + 2 ∧ k = n)) h h' ∧ (n < 300 → h'.2.1 v 2 = (n : Int) + 1 ∧ h'.2.1 (v + 1) n = a ∧ h'.2.1 (v + 2) n = b)) := by
  have v24 := isV_24 hv
  refine c_Voice_addPitch hv hb0 (fun _ _ => ?_)
  unfold B_Voice_addPitch_0 B_Voice_addPitch_42
  intro x1 e1 _ _
  obtain rfl : x1 = (n : Int) := e1.trans hn
  refine ⟨fun c => ⟨rfl, hb0, fr_0, fun d => by omega⟩, fun c => ⟨⟨by omega, by omega⟩, ?_⟩⟩
  rw [tn_c]
  intro h6 e6 h10 e10
  refine ⟨⟨by omega, by omega⟩, fun h14 e14 => ?_⟩
  refine ⟨rfl, hb_i (hb_i (hb_i hb0 e6) e10) e14, fr_i (fr_i (fr_i fr_0 e6 (by omega)) e10 (by omega)) e14 (by omega), fun _ => ⟨mv_i e14, ?_, ?_⟩⟩
  · rw [mm_i e14 (by omega), mm_i e10 (by omega), mv_i e6]
  · rw [mm_i e14 (by omega), mv_i e10]
theorem t_Voice_endSound {G : cx_T} {s v n : Nat} {h : ah_T} {a b c : Int} (hv : isV v) (hb0 : hb s h) (hn : h.2.1 v 7 = (n : Int)) (hn3 : n < 300) (hc : c = 0 ∨ c = 1) : con G 0 0 0 m_Voice_endSound [av_R (some v), av_I a, av_I b, av_I c] h (fun r h' => r = some (av_I (n : Int)) ∧ hb s h' ∧ fr (fun x k => (x = v ∧ k = 7) ∨ (x = v + 3 ∧ k = n + 1) ∨ ((x = v + 4 ∨ x = v + 5 ∨ x = v + 6) ∧ k = n)) h h' ∧ h'.2.1 v 7 = (n : Int) + 1 ∧ h'.2.1 (v + 4) n = a ∧ h'.2.1 (v + 5) n = b ∧ h'.2.1 (v + 6) n = c ∧ h'.2.1 (v + 3) (n + 1) = h.2.1 v 2) := by
  have v24 := isV_24 hv
  refine c_Voice_endSound hv hb0 (fun _ _ _ => ?_)
  unfold B_Voice_endSound_0
  intro x1 e1 _ _
  obtain rfl : x1 = (n : Int) := e1.trans hn
  refine ⟨fun _ => ⟨⟨by omega, by omega⟩, ?_⟩, fun d => by omega⟩
  have en : ((n : Int) + 1).toNat = n + 1 := by omega
  rw [tn_c, en]
  intro h6 e6 h10 e10
  refine ⟨hc, fun h14 e14 => ⟨⟨by omega, by omega⟩, fun h18 e18 x22 e22 _ _ => ⟨⟨by omega, by omega⟩, fun h24 e24 => ⟨⟨by omega, by omega⟩, ?_⟩⟩⟩⟩
  refine ⟨rfl, hb_i (hb_i (hb_i (hb_i (hb_i hb0 e6) e10) e14) e18) e24, fr_i (fr_i (fr_i (fr_i (fr_i fr_0 e6 (by omega)) e10 (by omega)) e14 (by omega)) e18 (by omega)) e24 (by omega), ?_, ?_, ?_, ?_, ?_⟩
  · rw [mm_i e24 (by omega), mv_i e18]
  · rw [mm_i e24 (by omega), mm_i e18 (by omega), mm_i e14 (by omega), mm_i e10 (by omega), mv_i e6]
  · rw [mm_i e24 (by omega), mm_i e18 (by omega), mm_i e14 (by omega), mv_i e10]
  · rw [mm_i e24 (by omega), mm_i e18 (by omega), mv_i e14]
  · rw [mv_i e24, e22, mm_i e18 (by omega), mm_i e14 (by omega), mm_i e10 (by omega), mm_i e6 (by omega)]
theorem t_Parts_clear {G : cx_T} {s : Nat} {h : ah_T} (hb0 : hb s h) : con G 0 0 0 m_Parts_clear [av_R (some 9)] h (fun r h' => r = none ∧ hb s h' ∧ fr (fun a k => a = 9 ∧ (k = 4 ∨ k = 7)) h h' ∧ h'.2.1 9 4 = 0 ∧ h'.2.1 9 7 = 0) := by
  refine c_Parts_clear hb0 ?_
  unfold B_Parts_clear_0
  intro h1 e1 h3 e3
  exact ⟨rfl, hb_i (hb_i hb0 e1) e3, fr_i (fr_i fr_0 e1 (by omega)) e3 (by omega), by rw [mm_i e3 (by omega), mv_i e1], mv_i e3⟩
/-- a part that is no [ and no { -/
theorem t_Parts_add {G : cx_T} {s n : Nat} {h : ah_T} {a b c : Int} (hb0 : hb s h) (hn : h.2.1 9 4 = (n : Int)) (hn2 : n < 2000) (h91 : a ≠ 91) (h123 : a ≠ 123) : con G 0 0 0 m_Parts_add [av_R (some 9), av_I a, av_I b, av_I c] h (fun r h' => r = none ∧ hb s h' ∧ fr (fun x k => (x = 9 ∧ k = 4) ∨ ((x = 10 ∨ x = 11 ∨ x = 12 ∨ x = 13) ∧ k = n)) h h' ∧ h'.2.1 9 4 = (n : Int) + 1 ∧ h'.2.1 10 n = a ∧ h'.2.1 12 n = b ∧ h'.2.1 13 n = c ∧ h'.2.1 11 n = (n : Int)) := by
  refine c_Parts_add hb0 (fun _ _ _ => ?_)
  unfold B_Parts_add_0 B_Parts_add_70
  intro x1 e1 _ _
  refine ⟨fun _ => ⟨fun d => absurd d h91, fun _ => ⟨fun d => absurd d h123, fun _ x2 e2 _ _ => ?_⟩⟩, fun d => by omega⟩
  obtain rfl : x2 = (n : Int) := e2.trans hn
  refine ⟨⟨by omega, by omega⟩, ?_⟩
  rw [tn_c]
  intro h4 e4 h8 e8 h12 e12 h17 e17
  refine ⟨⟨by omega, by omega⟩, fun h21 e21 => ?_⟩
  refine ⟨rfl, hb_i (hb_i (hb_i (hb_i (hb_i hb0 e4) e8) e12) e17) e21, fr_i (fr_i (fr_i (fr_i (fr_i fr_0 e4 (by omega)) e8 (by omega)) e12 (by omega)) e17 (by omega)) e21 (by omega), mv_i e21, ?_, ?_, ?_, ?_⟩
  · rw [mm_i e21 (by omega), mm_i e17 (by omega), mm_i e12 (by omega), mm_i e8 (by omega), mv_i e4]
  · rw [mm_i e21 (by omega), mm_i e17 (by omega), mm_i e12 (by omega), mv_i e8]
  · rw [mm_i e21 (by omega), mm_i e17 (by omega), mv_i e12]
  · rw [mm_i e21 (by omega), mv_i e17]
/-- a [ or { -/
theorem t_Parts_open {G : cx_T} {s n d : Nat} {h : ah_T} {a b c : Int} (hb0 : hb s h) (hn : h.2.1 9 4 = (n : Int)) (hn2 : n < 2000) (hd : h.2.1 9 7 = (d : Int)) (hd7 : d < 7) (ha : a = 91 ∨ a = 123) : con G 0 0 0 m_Parts_add [av_R (some 9), av_I a, av_I b, av_I c] h (fun r h' => r = none ∧ hb s h' ∧ fr (fun x k => (x = 9 ∧ (k = 4 ∨ k = 7)) ∨ ((x = 10 ∨ x = 11 ∨ x = 12 ∨ x = 13) ∧ k = n) ∨ ((x = 14 ∨ x = 15) ∧ k = d)) h h' ∧ h'.2.1 9 4 = (n : Int) + 1 ∧ h'.2.1 10 n = a ∧ h'.2.1 12 n = b ∧ h'.2.1 13 n = c ∧ h'.2.1 11 n = (n : Int) ∧ h'.2.1 9 7 = (d : Int) + 1 ∧ h'.2.1 14 d = (n : Int) ∧ h'.2.1 15 d = (n : Int)) := by
  refine c_Parts_add hb0 (fun _ _ _ => ?_)
  unfold B_Parts_add_0
  intro x1 e1 _ _
  have key : B_Parts_add_25 G s a b c h (fun r h' => r = none ∧ hb s h' ∧ fr (fun x k => (x = 9 ∧ (k = 4 ∨ k = 7)) ∨ ((x = 10 ∨ x = 11 ∨ x = 12 ∨ x = 13) ∧ k = n) ∨ ((x = 14 ∨ x = 15) ∧ k = d)) h h' ∧ h'.2.1 9 4 = (n : Int) + 1 ∧ h'.2.1 10 n = a ∧ h'.2.1 12 n = b ∧ h'.2.1 13 n = c ∧ h'.2.1 11 n = (n : Int) ∧ h'.2.1 9 7 = (d : Int) + 1 ∧ h'.2.1 14 d = (n : Int) ∧ h'.2.1 15 d = (n : Int)) := by
    unfold B_Parts_add_25 B_Parts_add_70
    intro y1 f1 _ _
    obtain rfl : y1 = (d : Int) := f1.trans hd
    refine ⟨fun w => by omega, fun _ x4 e4 _ _ => ?_⟩
    obtain rfl : x4 = (n : Int) := e4.trans hn
    refine ⟨⟨by omega, by omega⟩, ?_⟩
    rw [tn_c d]
    intro h6 e6 h11 e11
    refine ⟨⟨by omega, by omega⟩, fun h15 e15 x2 e2 _ _ => ?_⟩
    have e2' : x2 = (n : Int) := by rw [e2, mm_i e15 (by omega), mm_i e11 (by omega), mm_i e6 (by omega), hn]
    subst e2'
    refine ⟨⟨by omega, by omega⟩, ?_⟩
    rw [tn_c]
    intro g4 d4 g8 d8 g12 d12 g17 d17
    refine ⟨⟨by omega, by omega⟩, fun g21 d21 => ?_⟩
    refine ⟨rfl, hb_i (hb_i (hb_i (hb_i (hb_i (hb_i (hb_i (hb_i hb0 e6) e11) e15) d4) d8) d12) d17) d21, fr_i (fr_i (fr_i (fr_i (fr_i (fr_i (fr_i (fr_i fr_0 e6 (by omega)) e11 (by omega)) e15 (by omega)) d4 (by omega)) d8 (by omega)) d12 (by omega)) d17 (by omega)) d21 (by omega), mv_i d21, ?_, ?_, ?_, ?_, ?_, ?_, ?_⟩
    · rw [mm_i d21 (by omega), mm_i d17 (by omega), mm_i d12 (by omega), mm_i d8 (by omega), mv_i d4]
    · rw [mm_i d21 (by omega), mm_i d17 (by omega), mm_i d12 (by omega), mv_i d8]
    · rw [mm_i d21 (by omega), mm_i d17 (by omega), mv_i d12]
    · rw [mm_i d21 (by omega), mv_i d17]
    · rw [mm_i d21 (by omega), mm_i d17 (by omega), mm_i d12 (by omega), mm_i d8 (by omega), mm_i d4 (by omega), mv_i e15]
    · rw [mm_i d21 (by omega), mm_i d17 (by omega), mm_i d12 (by omega), mm_i d8 (by omega), mm_i d4 (by omega), mm_i e15 (by omega), mm_i e11 (by omega), mv_i e6]
    · rw [mm_i d21 (by omega), mm_i d17 (by omega), mm_i d12 (by omega), mm_i d8 (by omega), mm_i d4 (by omega), mm_i e15 (by omega), mv_i e11]
  exact ⟨fun _ => ⟨fun _ => key, fun w => ⟨fun _ => key, fun w2 => by omega⟩⟩, fun w => by omega⟩
/-- a : or ] of the innermost [, a } of the innermost { -/
theorem t_Parts_addMark {G : cx_T} {s n d o l : Nat} {h : ah_T} {K : Int} (hb0 : hb s h) (hn : h.2.1 9 4 = (n : Int)) (hn2 : n < 2000) (hd : h.2.1 9 7 = (d : Int)) (hd7 : d ≤ 7) (hK : K = 58 ∨ K = 93 ∨ K = 125) (ho : 0 < d → h.2.1 14 (d - 1) = (o : Int) ∧ h.2.1 15 (d - 1) = (l : Int) ∧ o < n ∧ l < n) :
    con G 1 0 0 m_Parts_addMark [av_R (some 9), av_I K] h (fun r h' => hb s h' ∧ ((r = some (av_I 0) ∧ h' = h ∧ ¬ (0 < d ∧ h.2.1 10 o = (if K = 125 then 123 else 91))) ∨ (r = some (av_I 1) ∧ (0 < d ∧ h.2.1 10 o = (if K = 125 then 123 else 91)) ∧ fr (fun x k => (x = 9 ∧ (k = 4 ∨ k = 7)) ∨ ((x = 10 ∨ x = 11 ∨ x = 12 ∨ x = 13) ∧ k = n) ∨ (x = 11 ∧ k = l) ∨ (x = 15 ∧ k = d - 1)) h h' ∧ h'.2.1 9 4 = (n : Int) + 1 ∧ h'.2.1 10 n = K ∧ h'.2.1 11 n = (n : Int) ∧ h'.2.1 11 l = (n : Int) ∧ h'.2.1 15 (d - 1) = (n : Int) ∧ h'.2.1 9 7 = (if K = 58 then (d : Int) else (d : Int) - 1)))) := by
  refine c_Parts_addMark hb0 (fun _ => ?_)
  unfold B_Parts_addMark_0 B_Parts_addMark_29
  intro x1 e1 _ _
  obtain rfl : x1 = (d : Int) := e1.trans hd
  refine ⟨fun w => ⟨hb0, Or.inl ⟨rfl, rfl, fun q => by omega⟩⟩, fun w => ⟨fun w2 => by omega, fun _ x3 e3 _ _ => ⟨fun _ => ⟨⟨by omega, by omega⟩, ⟨by omega, by omega⟩, fun x9 e9 _ _ => ?_⟩, fun w2 => by omega⟩⟩⟩
  have ed : ((d : Int) - 1).toNat = d - 1 := by omega
  obtain ⟨ho1, ho2, ho3, ho4⟩ := ho (by omega)
  have e9' : x9 = (o : Int) := by rw [e9, ed, ho1]
  subst e9'
  refine ⟨⟨by omega, by omega⟩, ?_⟩
  rw [tn_c]
  intro x11 e11 _ _
  have key : ∀ t1, t1 = (if K = 125 then 123 else 91) → B_Parts_addMark_62 G s K ((d : Int) - 1) x11 t1 h (fun r h' => hb s h' ∧ ((r = some (av_I 0) ∧ h' = h ∧ ¬ (0 < d ∧ h.2.1 10 o = (if K = 125 then 123 else 91))) ∨ (r = some (av_I 1) ∧ (0 < d ∧ h.2.1 10 o = (if K = 125 then 123 else 91)) ∧ fr (fun x k => (x = 9 ∧ (k = 4 ∨ k = 7)) ∨ ((x = 10 ∨ x = 11 ∨ x = 12 ∨ x = 13) ∧ k = n) ∨ (x = 11 ∧ k = l) ∨ (x = 15 ∧ k = d - 1)) h h' ∧ h'.2.1 9 4 = (n : Int) + 1 ∧ h'.2.1 10 n = K ∧ h'.2.1 11 n = (n : Int) ∧ h'.2.1 11 l = (n : Int) ∧ h'.2.1 15 (d - 1) = (n : Int) ∧ h'.2.1 9 7 = (if K = 58 then (d : Int) else (d : Int) - 1)))) := by
    intro t1 et
    unfold B_Parts_addMark_62
    refine ⟨fun c => ⟨⟨by omega, by omega⟩, ?_⟩, fun c => ⟨hb0, Or.inl ⟨rfl, rfl, fun q => c (by rw [e11, et]; exact q.2)⟩⟩⟩
    rw [ed]
    intro y3 f3 _ _ y5 f5 _ _
    have f3' : y3 = (l : Int) := f3.trans ho2
    have f5' : y5 = (n : Int) := f5.trans hn
    subst f3' f5'
    refine ⟨⟨by omega, by omega⟩, ?_⟩
    rw [tn_c]
    intro h7 e7 h11 g11
    have hb11 := hb_i (hb_i hb0 e7) g11
    have q : ∀ x k, ¬ (x = 11 ∧ k = l) → ¬ (x = 15 ∧ k = d - 1) → h11.2.1 x k = h.2.1 x k := fun x k q1 q2 => (mm_i g11 q2).trans (mm_i e7 q1)
    refine con_mono (t_Parts_add hb11 (n := n) ((q _ _ (by omega) (by omega)).trans hn) hn2 (by omega) (by omega)) ?_
    rintro r h13 ⟨rfl, hb13, f13, a1, a2, a3, a4, a5⟩
    have fx := fr_t (W := fun x k => (x = 9 ∧ (k = 4 ∨ k = 7)) ∨ ((x = 10 ∨ x = 11 ∨ x = 12 ∨ x = 13) ∧ k = n) ∨ (x = 11 ∧ k = l) ∨ (x = 15 ∧ k = d - 1)) (fr_i (fr_i fr_0 e7 (by omega)) g11 (by omega)) f13 (fun x k w => by omega)
    have cc : 0 < d ∧ h.2.1 10 o = (if K = 125 then 123 else 91) := ⟨by omega, by rw [← e11, c, et]⟩
    have l11 : h13.2.1 11 l = (n : Int) := by rw [fr_g f13 (by omega), mm_i g11 (by omega), mv_i e7]
    have m15 : h13.2.1 15 (d - 1) = (n : Int) := by rw [fr_g f13 (by omega), mv_i g11]
    have d13 : h13.2.1 9 7 = (d : Int) := by rw [fr_g f13 (by omega), q _ _ (by omega) (by omega), hd]
    refine ⟨rfl, hb13, fun c5 => ?_, fun c5 x16 e16 _ _ => ⟨⟨by omega, by omega⟩, fun h18 e18 => ?_⟩⟩
    · unfold B_Parts_addMark_115
      exact ⟨hb13, Or.inr ⟨rfl, cc, fx, a1, a2, a5, l11, m15, by rw [if_pos c5]; exact d13⟩⟩
    · unfold B_Parts_addMark_115
      refine ⟨hb_i hb13 e18, Or.inr ⟨rfl, cc, fr_i fx e18 (by omega), ?_, ?_, ?_, ?_, ?_, ?_⟩⟩
      · rw [mm_i e18 (by omega), a1]
      · rw [mm_i e18 (by omega), a2]
      · rw [mm_i e18 (by omega), a5]
      · rw [mm_i e18 (by omega), l11]
      · rw [mm_i e18 (by omega), m15]
      · rw [mv_i e18, e16, d13, if_neg c5]
  exact ⟨fun c => key 123 (by rw [if_pos c]), fun c => key 91 (by rw [if_neg c])⟩

/-! ===== parts of a voice: what always holds of them ===== -/
def sgs (π : pm_T) (j : Nat) : Nat → Int
  | 0 => 0
  | n + 1 => sgs π j n + sgk (π (6 + n) j) (π (10 + n) j)
def SO (π : pm_T) (j : Nat) : Prop := (0 ≤ π 5 j ∧ π 5 j ≤ 4) ∧ 0 ≤ π 19 j ∧ (∀ p : Nat, (p : Int) < π 5 j → (-2 ≤ π (6 + p) j ∧ π (6 + p) j ≤ 109) ∧ 0 ≤ π (10 + p) j ∧ π (10 + p) j ≤ 62) ∧ π 17 j = sgs π j (π 5 j).toNat
def EVp (π : pm_T) (j : Nat) : Prop := ((1 ≤ π 2 j ∧ π 2 j ≤ 64) ∧ (0 ≤ π 3 j ∧ π 3 j ≤ 3) ∧ (π 4 j = 0 ∨ π 4 j = 1)) ∧ (0 ≤ π 18 j ∧ π 18 j < π 0 3) ∧ π 19 j + π 5 j ≤ π 0 4 ∧ SO π j
def PJ (π : pm_T) (j : Nat) : Prop := (0 ≤ π 14 j ∧ π 14 j < π 0 0) ∧ (π 1 j = 256 → EVp π j) ∧ (π 1 j = 123 → (1 ≤ π 2 j ∧ π 2 j ≤ 16) ∧ 1 ≤ π 3 j ∧ π 3 j ≤ 16)
def PD (π : pm_T) (d : Nat) : Prop := (0 ≤ π 15 d ∧ π 15 d < π 0 0) ∧ 0 ≤ π 16 d ∧ π 16 d < π 0 0
def PW (π : pm_T) : Prop := (0 ≤ π 0 0 ∧ (0 ≤ π 0 1 ∧ π 0 1 ≤ 7) ∧ (0 ≤ π 0 2 ∧ π 0 2 ≤ 300) ∧ (0 ≤ π 0 3 ∧ π 0 3 ≤ π 0 2) ∧ 0 ≤ π 0 4 ∧ π 0 4 ≤ π 0 2) ∧ (∀ d : Nat, (d : Int) < π 0 1 → PD π d) ∧ ∀ j : Nat, (j : Int) < π 0 0 → PJ π j
/-- a sound is being read -/
def PS (π : pm_T) : Prop := SO π (sz π) ∧ π 19 (sz π) + π 5 (sz π) = π 0 4 ∧ π 0 3 + π 5 (sz π) ≤ π 0 2
theorem sgs_c {π π' : pm_T} {j : Nat} : ∀ n, n ≤ 4 → (∀ a, 6 ≤ a → a ≤ 13 → π' a j = π a j) → sgs π' j n = sgs π j n
  | 0, _, _ => rfl
  | n + 1, hn, h => by rw [sgs, sgs, sgs_c n (by omega) h, h _ (by omega) (by omega), h _ (by omega) (by omega)]
theorem SO_c {π π' : pm_T} {j : Nat} (H : SO π j) (h : ∀ a, (5 ≤ a ∧ a ≤ 13) ∨ a = 17 ∨ a = 19 → π' a j = π a j) : SO π' j := by
  obtain ⟨h1, h2, h3, h4⟩ := H
  have e5 := h 5 (by omega)
  refine ⟨by rw [e5]; exact h1, by rw [h 19 (by omega)]; exact h2, fun p hp => ?_, ?_⟩
  · rw [e5] at hp
    rw [h (6 + p) (by omega), h (10 + p) (by omega)]
    exact h3 p hp
  · rw [h 17 (by omega), e5, h4]
    exact (sgs_c _ (by omega) (fun a _ _ => h a (by omega))).symm
theorem EVp_c {π π' : pm_T} {j : Nat} (H : EVp π j) (h : ∀ a, (2 ≤ a ∧ a ≤ 13) ∨ (17 ≤ a ∧ a ≤ 19) → π' a j = π a j) (h3 : π 0 3 ≤ π' 0 3) (h4 : π 0 4 ≤ π' 0 4) : EVp π' j := by
  obtain ⟨a1, a2, a3, a4⟩ := H
  refine ⟨by rw [h 2 (by omega), h 3 (by omega), h 4 (by omega)]; exact a1, by rw [h 18 (by omega)]; omega, by rw [h 19 (by omega), h 5 (by omega)]; omega, SO_c a4 (fun a q => h a (by omega))⟩
theorem PJ_c {π π' : pm_T} {j : Nat} (H : PJ π j) (h : ∀ a, (1 ≤ a ∧ a ≤ 13) ∨ (17 ≤ a ∧ a ≤ 19) → π' a j = π a j) (h14 : 0 ≤ π' 14 j ∧ π' 14 j < π' 0 0) (h3 : π 0 3 ≤ π' 0 3) (h4 : π 0 4 ≤ π' 0 4) : PJ π' j := by
  obtain ⟨a1, a2, a3⟩ := H
  refine ⟨h14, fun q => EVp_c (a2 (by rw [← h 1 (by omega)]; exact q)) (fun a w => h a (by omega)) h3 h4, fun q => ?_⟩
  rw [h 2 (by omega), h 3 (by omega)]
  exact a3 (by rw [← h 1 (by omega)]; exact q)
/-- rows that only a sound being read has -/
theorem PW_c {π π' : pm_T} (H : PW π) (h : ∀ a k, (k ≠ sz π ∧ (a ≠ 0 ∨ (k ≠ 2 ∧ k ≠ 4))) ∨ (14 ≤ a ∧ a ≤ 16) → π' a k = π a k) (h0 : π' 0 0 = π 0 0 ∧ π' 0 1 = π 0 1 ∧ π' 0 3 = π 0 3) (h2 : π 0 2 ≤ π' 0 2 ∧ π' 0 2 ≤ 300) (h4 : π 0 4 ≤ π' 0 4 ∧ π' 0 4 ≤ π' 0 2) : PW π' := by
  obtain ⟨⟨p0, p1, p2, p3, p4⟩, pd, pj⟩ := H
  obtain ⟨e0, e1, e3⟩ := h0
  refine ⟨⟨by omega, by omega, by omega, by omega, by omega⟩, fun d hd => ?_, fun j hj => ?_⟩
  · have := pd d (by omega)
    unfold PD at this ⊢
    rw [h 15 d (by omega), h 16 d (by omega), e0]; exact this
  · have hj' : (j : Int) < π 0 0 := by omega
    have nz : j ≠ sz π := by unfold sz; omega
    refine PJ_c (pj j hj') (fun a q => h a j (Or.inl ⟨nz, Or.inl (by omega)⟩)) ?_ (by omega) (by omega)
    rw [h 14 j (by omega), e0]; exact (pj j hj').1
theorem sz_up {π : pm_T} {a k : Nat} {z : Int} (h : ¬ (a = 0 ∧ k = 0)) : sz (up2 π a k z) = sz π := by
  unfold sz; rw [up2_o (fun q => h ⟨q.1.symm, q.2.symm⟩)]
theorem PW_snd0 {π : pm_T} (H : PW π) : PW (snd0 π) ∧ PS (snd0 π) ∧ sz (snd0 π) = sz π := by
  have es : sz (snd0 π) = sz π := by unfold snd0; rw [sz_up (by omega), sz_up (by omega), sz_up (by omega)]
  have g : ∀ a k, a ≠ 5 ∧ a ≠ 17 ∧ a ≠ 19 ∨ k ≠ sz π → snd0 π a k = π a k := fun a k q => by
    unfold snd0; rw [up2_o (by omega), up2_o (by omega), up2_o (by omega)]
  obtain ⟨p0, p1, p2, p3, p4⟩ := H.1
  have v5 : snd0 π 5 (sz π) = 0 := by unfold snd0; rw [up2_o (by omega), up2_o (by omega), up2_at]
  have v17 : snd0 π 17 (sz π) = 0 := by unfold snd0; rw [up2_o (by omega), up2_at]
  have v19 : snd0 π 19 (sz π) = π 0 4 := by unfold snd0; rw [up2_at]
  refine ⟨PW_c H (fun a k q => g a k (by omega)) ⟨g _ _ (by omega), g _ _ (by omega), g _ _ (by omega)⟩ ?_ ?_, ?_, es⟩
  · rw [g _ _ (by omega)]; omega
  · rw [g 0 4 (by omega), g 0 2 (by omega)]; omega
  · unfold PS SO
    rw [es, v5, v17, v19, g 0 4 (by omega), g 0 2 (by omega), g 0 3 (by omega)]
    exact ⟨⟨by omega, by omega, fun p hp => by omega, rfl⟩, by omega, by omega⟩
/-- one more admitted -/
def adm (π : pm_T) : pm_T := up2 π 0 2 (π 0 2 + 1)
theorem adm_o {π : pm_T} {a k : Nat} (h : ¬ (a = 0 ∧ k = 2)) : adm π a k = π a k := up2_o h
theorem sp_adm_a {t : tk_T} {i : Nat} {π : pm_T} (h : π 0 2 < 300) : sp_adm t i π = .inr (adm π) := by unfold sp_adm adm; rw [if_pos h]
theorem sp_adm_n {t : tk_T} {i : Nat} {π : pm_T} (h : ¬ π 0 2 < 300) : sp_adm t i π = .inl (3, tP t i) := by unfold sp_adm; rw [if_neg h]
theorem adm_2 {π : pm_T} : adm π 0 2 = π 0 2 + 1 := up2_at
theorem sz_adm {π : pm_T} : sz (adm π) = sz π := sz_up (by omega)
theorem PW_adm {π : pm_T} (H : PW π) (S : PS π) (h : π 0 2 < 300) : PW (adm π) ∧ PS (adm π) := by
  obtain ⟨p0, p1, p2, p3, p4⟩ := H.1
  refine ⟨PW_c H (fun a k q => adm_o (by omega)) ⟨adm_o (by omega), adm_o (by omega), adm_o (by omega)⟩ ?_ ?_, ?_⟩
  · rw [adm_2]; omega
  · rw [adm_2, adm_o (by omega)]; omega
  · obtain ⟨s1, s2, s3⟩ := S
    unfold PS
    rw [sz_adm, adm_o (by omega), adm_o (by omega), adm_o (by omega), adm_o (by omega), adm_2]
    exact ⟨SO_c s1 (fun a q => adm_o (by omega)), s2, by omega⟩
theorem pch_5 {t : tk_T} {i : Nat} {g : Int} {π : pm_T} : pch t i g π 5 (sz π) = π 5 (sz π) + 1 := by unfold pch; rw [up2_o (by omega), up2_at]
theorem pch_4 {t : tk_T} {i : Nat} {g : Int} {π : pm_T} : pch t i g π 0 4 = π 0 4 + 1 := by unfold pch; rw [up2_at]
theorem pch_17 {t : tk_T} {i : Nat} {g : Int} {π : pm_T} : pch t i g π 17 (sz π) = π 17 (sz π) + g := by unfold pch; rw [up2_o (by omega), up2_o (by omega), up2_at]
theorem pch_k {t : tk_T} {i : Nat} {g : Int} {π : pm_T} {n : Nat} (h : π 5 (sz π) = (n : Int)) (hn : n ≤ 3) : pch t i g π (6 + n) (sz π) = tV' t i ∧ pch t i g π (10 + n) (sz π) = tS t i := by
  unfold pch
  have e : (π 5 (sz π)).toNat = n := by omega
  rw [e]
  refine ⟨?_, ?_⟩
  · rw [up2_o (by omega), up2_o (by omega), up2_o (by omega), up2_o (by omega), up2_at]
  · rw [up2_o (by omega), up2_o (by omega), up2_o (by omega), up2_at]
theorem pch_o {t : tk_T} {i : Nat} {g : Int} {π : pm_T} {a k n : Nat} (h : π 5 (sz π) = (n : Int)) (q0 : ¬ (a = 0 ∧ k = 4)) (q : k ≠ sz π ∨ (a ≠ 5 ∧ a ≠ 17 ∧ a ≠ 6 + n ∧ a ≠ 10 + n)) : pch t i g π a k = π a k := by
  unfold pch
  have e : (π 5 (sz π)).toNat = n := by omega
  rw [e, up2_o (by omega), up2_o (by omega), up2_o (by omega), up2_o (by omega), up2_o (by omega)]
theorem sz_pch {t : tk_T} {i : Nat} {g : Int} {π : pm_T} : sz (pch t i g π) = sz π := by
  unfold pch; rw [sz_up (by omega), sz_up (by omega), sz_up (by omega), sz_up (by omega), sz_up (by omega)]
/-- a PITCH more; it is admitted already -/
theorem PW_pch {t : tk_T} {i : Nat} {π : pm_T} (H : PW π) (S : PS π) (h5 : π 5 (sz π) < 4) (ha : π 0 3 + π 5 (sz π) < π 0 2) (h4 : π 0 4 < π 0 2) (hk : (-2 ≤ tV' t i ∧ tV' t i ≤ 109) ∧ 0 ≤ tS t i ∧ tS t i ≤ 62) : PW (pch t i (sgt t i) π) ∧ PS (pch t i (sgt t i) π) := by
  obtain ⟨p0, p1, p2, p3, p4⟩ := H.1
  obtain ⟨⟨s1, s2, s3, s4⟩, s5, s6⟩ := S
  obtain ⟨n, en⟩ : ∃ n : Nat, π 5 (sz π) = (n : Int) := ⟨(π 5 (sz π)).toNat, by omega⟩
  have hn : n ≤ 3 := by omega
  refine ⟨PW_c H (fun a k q => pch_o en (by omega) (by omega)) ⟨pch_o en (by omega) (by omega), pch_o en (by omega) (by omega), pch_o en (by omega) (by omega)⟩ ?_ ?_, ?_⟩
  · rw [pch_o en (by omega) (by omega)]; omega
  · rw [pch_4, pch_o en (by omega) (by omega)]; omega
  · unfold PS SO
    rw [sz_pch, pch_5, pch_17, pch_4, pch_o en (by omega) (by omega), pch_o en (by omega) (by omega), pch_o en (by omega) (by omega)]
    refine ⟨⟨by omega, s2, fun p hp => ?_, ?_⟩, by omega, by omega⟩
    · by_cases hc : p = n
      · subst hc
        rw [(pch_k en hn).1, (pch_k en hn).2]; exact hk
      · rw [pch_o en (by omega) (by omega), pch_o en (by omega) (by omega)]
        exact s3 p (by omega)
    · have e1 : (π 5 (sz π) + 1).toNat = n + 1 := by omega
      have e2 : (π 5 (sz π)).toNat = n := by omega
      rw [e1, sgs, (pch_k en hn).1, (pch_k en hn).2, s4, e2]
      congr 1
      have : ∀ k, k ≤ n → sgs (pch t i (sgt t i) π) (sz π) k = sgs π (sz π) k := by
        intro k
        induction k with
        | zero => intro _; rfl
        | succ k ih => intro hk'; rw [sgs, sgs, ih (by omega), pch_o en (by omega) (by omega), pch_o en (by omega) (by omega)]
      exact (this n (Nat.le_refl n)).symm

/-! ===== the class: the parts of a voice told; a sound read ===== -/
def SC (π : pm_T) (v j b : Nat) (h : ah_T) : Prop := h.2.1 (v + 3) b = π 19 j ∧ ∀ p : Nat, (p : Int) < π 5 j → h.2.1 (v + 1) ((π 19 j).toNat + p) = π (6 + p) j ∧ h.2.1 (v + 2) ((π 19 j).toNat + p) = π (10 + p) j
def ECp (π : pm_T) (v j : Nat) (h : ah_T) : Prop := (h.2.1 12 j = π 18 j ∧ h.2.1 (v + 4) (π 18 j).toNat = π 2 j ∧ h.2.1 (v + 5) (π 18 j).toNat = π 3 j ∧ h.2.1 (v + 6) (π 18 j).toNat = π 4 j) ∧ h.2.1 (v + 3) ((π 18 j).toNat + 1) = π 19 j + π 5 j ∧ SC π v j (π 18 j).toNat h
def RPj (π : pm_T) (v j : Nat) (h : ah_T) : Prop := (h.2.1 10 j = π 1 j ∧ h.2.1 11 j = π 14 j) ∧ (π 1 j = 256 → ECp π v j h) ∧ (π 1 j = 123 → h.2.1 12 j = π 2 j ∧ h.2.1 13 j = π 3 j)
def RPc (π : pm_T) (v : Nat) (h : ah_T) : Prop := (h.2.1 9 4 = π 0 0 ∧ h.2.1 9 7 = π 0 1 ∧ h.2.1 2 4 = π 0 2 ∧ h.2.1 v 7 = π 0 3 ∧ h.2.1 v 2 = π 0 4) ∧ (∀ d : Nat, (d : Int) < π 0 1 → h.2.1 14 d = π 15 d ∧ h.2.1 15 d = π 16 d) ∧ ∀ j : Nat, (j : Int) < π 0 0 → RPj π v j h
/-- cells of sound j, that stand below b sounds and n pitches, as they were -/
theorem SC_c {π π' : pm_T} {v j b : Nat} {h h' : ah_T} {n : Int} (H : SC π v j b h) (S : SO π j) (hn : π 19 j + π 5 j ≤ n) (e : ∀ a, (5 ≤ a ∧ a ≤ 13) ∨ a = 19 → π' a j = π a j) (g3 : h'.2.1 (v + 3) b = h.2.1 (v + 3) b) (g : ∀ k : Nat, (k : Int) < n → h'.2.1 (v + 1) k = h.2.1 (v + 1) k ∧ h'.2.1 (v + 2) k = h.2.1 (v + 2) k) : SC π' v j b h' := by
  obtain ⟨h1, h2⟩ := H
  obtain ⟨s1, s2, -, -⟩ := S
  have e5 := e 5 (by omega)
  have e19 := e 19 (by omega)
  refine ⟨by rw [g3, e19]; exact h1, fun p hp => ?_⟩
  rw [e5] at hp
  obtain ⟨g1, g2⟩ := g ((π 19 j).toNat + p) (by omega)
  rw [e19, g1, g2, e (6 + p) (by omega), e (10 + p) (by omega)]
  exact h2 p hp
theorem ECp_c {π π' : pm_T} {v j : Nat} {h h' : ah_T} {n b : Int} (H : ECp π v j h) (S : EVp π j) (hn : π 0 4 ≤ n) (hb : π 0 3 ≤ b) (e : ∀ a, (2 ≤ a ∧ a ≤ 13) ∨ a = 18 ∨ a = 19 → π' a j = π a j) (g12 : h'.2.1 12 j = h.2.1 12 j) (g4 : ∀ k : Nat, (k : Int) < b → h'.2.1 (v + 4) k = h.2.1 (v + 4) k ∧ h'.2.1 (v + 5) k = h.2.1 (v + 5) k ∧ h'.2.1 (v + 6) k = h.2.1 (v + 6) k) (g3 : ∀ k : Nat, (k : Int) ≤ b → h'.2.1 (v + 3) k = h.2.1 (v + 3) k) (g : ∀ k : Nat, (k : Int) < n → h'.2.1 (v + 1) k = h.2.1 (v + 1) k ∧ h'.2.1 (v + 2) k = h.2.1 (v + 2) k) : ECp π' v j h' := by
  obtain ⟨⟨a1, a2, a3, a4⟩, a5, a6⟩ := H
  obtain ⟨-, s2, s3, s4⟩ := S
  have e18 := e 18 (by omega)
  obtain ⟨q4, q5, q6⟩ := g4 (π 18 j).toNat (by omega)
  refine ⟨⟨by rw [g12, e18]; exact a1, ?_, ?_, ?_⟩, ?_, ?_⟩
  · rw [e18, q4, e 2 (by omega)]; exact a2
  · rw [e18, q5, e 3 (by omega)]; exact a3
  · rw [e18, q6, e 4 (by omega)]; exact a4
  · rw [e18, g3 _ (by omega), e 19 (by omega), e 5 (by omega)]; exact a5
  · rw [e18]; exact SC_c a6 s4 (n := n) (by omega) (fun a q => e a (by omega)) (g3 _ (by omega)) g
theorem RPj_c {π π' : pm_T} {v j : Nat} {h h' : ah_T} {n b : Int} (H : RPj π v j h) (S : PJ π j) (hn : π 0 4 ≤ n) (hb : π 0 3 ≤ b) (e : ∀ a, (1 ≤ a ∧ a ≤ 13) ∨ a = 18 ∨ a = 19 → π' a j = π a j) (g10 : h'.2.1 10 j = h.2.1 10 j) (g11 : h'.2.1 11 j = π' 14 j) (g12 : h'.2.1 12 j = h.2.1 12 j ∧ h'.2.1 13 j = h.2.1 13 j) (g4 : ∀ k : Nat, (k : Int) < b → h'.2.1 (v + 4) k = h.2.1 (v + 4) k ∧ h'.2.1 (v + 5) k = h.2.1 (v + 5) k ∧ h'.2.1 (v + 6) k = h.2.1 (v + 6) k) (g3 : ∀ k : Nat, (k : Int) ≤ b → h'.2.1 (v + 3) k = h.2.1 (v + 3) k) (g : ∀ k : Nat, (k : Int) < n → h'.2.1 (v + 1) k = h.2.1 (v + 1) k ∧ h'.2.1 (v + 2) k = h.2.1 (v + 2) k) : RPj π' v j h' := by
  obtain ⟨⟨a1, a2⟩, a3, a4⟩ := H
  have e1 := e 1 (by omega)
  refine ⟨⟨by rw [g10, e1]; exact a1, g11⟩, fun q => ?_, fun q => ?_⟩
  · rw [e1] at q
    exact ECp_c (a3 q) (S.2.1 q) hn hb (fun a w => e a (by omega)) g12.1 g4 g3 g
  · rw [e1] at q
    rw [g12.1, g12.2, e 2 (by omega), e 3 (by omega)]; exact a4 q
/-- the parts stay; the counts of admitted and of pitches, and the sound being read, may change -/
theorem RPc_s {π π' : pm_T} {v : Nat} {h h' : ah_T} {W : Nat → Nat → Prop} (H : RPc π v h) (P : PW π) (f : fr W h h') (hW : ∀ a k, W a k → ((a ≤ 8 ∧ (a = 2 → 4 ≤ k)) ∨ (a = v ∧ k = 2) ∨ ((a = v + 1 ∨ a = v + 2) ∧ π 0 4 ≤ k))) (v24 : 24 ≤ v) (e : ∀ a k, (k ≠ sz π ∧ (a ≠ 0 ∨ (k ≠ 2 ∧ k ≠ 4))) ∨ (14 ≤ a ∧ a ≤ 16) → π' a k = π a k) (e0 : π' 0 0 = π 0 0 ∧ π' 0 1 = π 0 1 ∧ π' 0 3 = π 0 3) (e2 : h'.2.1 2 4 = π' 0 2) (e4 : h'.2.1 v 2 = π' 0 4) : RPc π' v h' := by
  obtain ⟨⟨a1, a2, a3, a4, a5⟩, hd, hj⟩ := H
  obtain ⟨c0, c1, c3⟩ := e0
  have g : ∀ (a k : Nat), ¬ ((a ≤ 8 ∧ (a = 2 → 4 ≤ k)) ∨ (a = v ∧ k = 2) ∨ ((a = v + 1 ∨ a = v + 2) ∧ π 0 4 ≤ k)) → h'.2.1 a k = h.2.1 a k := fun a k q => fr_g f (fun w => q (hW a k w))
  refine ⟨⟨?_, ?_, e2, ?_, e4⟩, fun d hd' => ?_, fun j hj' => ?_⟩
  · rw [g _ _ (by omega), c0]; exact a1
  · rw [g _ _ (by omega), c1]; exact a2
  · rw [g _ _ (by omega), c3]; exact a4
  · rw [c1] at hd'
    rw [g _ _ (by omega), g _ _ (by omega), e _ _ (by omega), e _ _ (by omega)]; exact hd d hd'
  · rw [c0] at hj'
    have nz : j ≠ sz π := by unfold sz; omega
    refine RPj_c (hj j hj') (P.2.2 j hj') (Int.le_refl _) (Int.le_refl _) (fun a q => e a j (Or.inl ⟨nz, by omega⟩)) (g _ _ (by omega)) ?_ ⟨g _ _ (by omega), g _ _ (by omega)⟩ (fun k hk => ⟨g _ _ (by omega), g _ _ (by omega), g _ _ (by omega)⟩) (fun k hk => g _ _ (by omega)) (fun k hk => ⟨g _ _ (by omega), g _ _ (by omega)⟩)
    rw [g _ _ (by omega), e _ _ (by omega)]; exact (hj j hj').1.2
theorem RPc_t {π : pm_T} {v : Nat} {h h' : ah_T} (H : RPc π v h) (P : PW π) (f : fr WT h h') (v24 : 24 ≤ v) : RPc π v h' :=
  RPc_s H P (f := fr_w (W := fun a k => (a = 3 ∧ (k = 5 ∨ 9 ≤ k)) ∨ (a = 2 ∧ 6 ≤ k)) f (fun _ _ w => w)) (fun a k w => by omega) v24 (fun _ _ _ => rfl) ⟨rfl, rfl, rfl⟩ ((fr_g f (by omega)).trans H.1.2.2.1) ((fr_g f (by omega)).trans H.1.2.2.2.2)
/-- what reading keeps: the tokens at i, the score, the parts of the voice v -/
def VSp (t : tk_T) (m i : Nat) (μ : pm_T) (s : Nat) (π : pm_T) (v : Nat) (h : ah_T) : Prop := RCs t m i μ s h ∧ RPc π v h
theorem RCs_p {t : tk_T} {m i : Nat} {μ : pm_T} {s v : Nat} {h h' : ah_T} {W : Nat → Nat → Prop} (H : RCs t m i μ s h) (f : fr W h h') (hs : s = 17 ∨ s = 80) (hv : isV v) (hW : ∀ a k, W a k → (a = 2 ∧ k = 4) ∨ (9 ≤ a ∧ a ≤ 15) ∨ (v ≤ a ∧ a ≤ v + 13)) : RCs t m i μ s h' := by
  unfold isV at hv
  exact ⟨RCt_f H.1 f (fun a k q => by have := hW a k q; omega), RSc_f H.2.1 f (fun a k p q w => by have := hW a k w; omega) (fun w => by have := hW _ _ w; omega) (fun k w => by have := hW _ _ w; omega), (fr_g f (fun q => by have := hW _ _ q; omega)).trans H.2.2⟩
theorem t_Reader_admit {G : cx_T} {s v : Nat} {h : ah_T} {t : tk_T} {m i : Nat} {μ π : pm_T} (hb0 : hb s h) (hv : isV v) (H : RCs t m i μ s h) (hi : i + 1 < m) (ha : h.2.1 2 4 = π 0 2) (ha0 : 0 ≤ π 0 2) : con G 1 0 0 m_Reader_admit [av_R (some 2)] h (fun r h' => ∃ z, r = some (av_I z) ∧ hb s h' ∧ fr (fun a k => WT a k ∨ (a = 2 ∧ k = 4)) h h' ∧ ((π 0 2 < 300 ∧ z = 1 ∧ RCs t m (i + 1) μ s h' ∧ h'.2.1 2 4 = π 0 2 + 1) ∨ (¬ π 0 2 < 300 ∧ z = 0 ∧ h'.2.1 2 6 = 3 ∧ h'.2.1 2 7 = tP t i))) := by
  have hs : s = 17 ∨ s = 80 := hb0.2.1
  refine c_Reader_admit hb0 ?_
  unfold B_Reader_admit_0
  intro x1 e1 _ _
  have ex : x1 = π 0 2 := e1.trans ha
  refine ⟨fun c => ⟨⟨by omega, by omega⟩, fun h4 e4 => ?_⟩, fun c x11 e11 _ _ => ?_⟩
  · have f4 : fr (fun a k => a = 2 ∧ k = 4) h h4 := fr_i fr_0 e4 ⟨rfl, rfl⟩
    have H4 := RCs_p H f4 hs hv (fun a k w => Or.inl w)
    refine con_mono (tt_Reader_step (hb_i hb0 e4) H4 hi) ?_
    rintro r h' ⟨rfl, hb1, f1, R1⟩
    refine ⟨rfl, hb1, 1, rfl, hb1, fr_t (fr_w f4 (fun _ _ w => Or.inr w)) f1 (fun _ _ w => Or.inl w), Or.inl ⟨by omega, rfl, R1, ?_⟩⟩
    rw [fr_g f1 (by omega), mv_i e4, ex]
  · refine con_mono (tt_Reader_blame hb0) ?_
    rintro r h' ⟨z, rfl, hb1, f1, rfl, r1, r2⟩
    exact ⟨0, rfl, hb1, Or.inl rfl, 0, rfl, hb1, fr_w f1 (fun _ _ w => Or.inl w), Or.inr ⟨by omega, rfl, r1, by rw [r2, e11, (RCs_b H).2.1]⟩⟩
/-- a sound read -/
def PSc (t : tk_T) (m s : Nat) (μ : pm_T) (v : Nat) (R : F_T ⊕ (Nat × pm_T)) (z : Int) (h' : ah_T) : Prop := match R with
  | .inl q => z = 0 ∧ h'.2.1 2 6 = q.1 ∧ h'.2.1 2 7 = q.2
  | .inr q => z = 1 ∧ VSp t m q.1 μ s q.2 v h' ∧ PW q.2 ∧ PS q.2 ∧ SC q.2 v (sz q.2) (q.2 0 3).toNat h' ∧ q.2 0 3 < q.2 0 2
abbrev QS (t : tk_T) (m s : Nat) (μ : pm_T) (v : Nat) (R : F_T ⊕ (Nat × pm_T)) (h : ah_T) : Option av_T → ah_T → Prop := fun r h' => ∃ z, r = some (av_I z) ∧ hb s h' ∧ fr (WP v) h h' ∧ (z = 0 ∨ z = 1) ∧ PSc t m s μ v R z h'

/-! ===== the class: a sound read ===== -/
def RSp (π : pm_T) (v : Nat) (h : ah_T) : Prop := RPc π v h ∧ PW π ∧ PS π ∧ SC π v (sz π) (π 0 3).toNat h
theorem RSp_0 {π : pm_T} {v : Nat} {h : ah_T} (v24 : 24 ≤ v) (H : RPc π v h) (P : PW π) (hB : h.2.1 (v + 3) (π 0 3).toNat = π 0 4) : RSp (snd0 π) v h := by
  obtain ⟨p1, p2, p3⟩ := PW_snd0 P
  have g : ∀ a k, a ≠ 5 ∧ a ≠ 17 ∧ a ≠ 19 ∨ k ≠ sz π → snd0 π a k = π a k := fun a k q => by
    unfold snd0; rw [up2_o (by omega), up2_o (by omega), up2_o (by omega)]
  have v5 : snd0 π 5 (sz π) = 0 := by unfold snd0; rw [up2_o (by omega), up2_o (by omega), up2_at]
  have v19 : snd0 π 19 (sz π) = π 0 4 := by unfold snd0; rw [up2_at]
  refine ⟨RPc_s H P (fr_0 (W := fun _ _ => False)) (fun a k w => w.elim) v24 (fun a k q => g a k (by omega)) ⟨g _ _ (by omega), g _ _ (by omega), g _ _ (by omega)⟩ ?_ ?_, p1, p2, ?_⟩
  · rw [g _ _ (by omega)]; exact H.1.2.2.1
  · rw [g _ _ (by omega)]; exact H.1.2.2.2.2
  · rw [p3, g 0 3 (by omega)]
    exact ⟨by rw [v19]; exact hB, fun p hp => by omega⟩
theorem RSp_a {π : pm_T} {v : Nat} {h h' : ah_T} (v24 : 24 ≤ v) (R : RSp π v h) (f : fr (fun a k => WT a k ∨ (a = 2 ∧ k = 4)) h h') (h3 : π 0 2 < 300) (h2 : h'.2.1 2 4 = π 0 2 + 1) : RSp (adm π) v h' := by
  obtain ⟨H, P, S, C⟩ := R
  obtain ⟨p1, p2⟩ := PW_adm P S h3
  refine ⟨RPc_s H P f (fun a k w => by omega) v24 (fun a k q => adm_o (by omega)) ⟨adm_o (by omega), adm_o (by omega), adm_o (by omega)⟩ (by rw [adm_2, h2]) ?_, p1, p2, ?_⟩
  · rw [fr_g f (by omega), adm_o (by omega)]; exact H.1.2.2.2.2
  · rw [sz_adm, adm_o (by omega)]
    exact SC_c C S.1 (n := π 19 (sz π) + π 5 (sz π)) (Int.le_refl _) (fun a q => adm_o (by omega)) (fr_g f (by omega)) (fun k _ => ⟨fr_g f (by omega), fr_g f (by omega)⟩)
theorem RSp_t {π : pm_T} {v : Nat} {h h' : ah_T} (v24 : 24 ≤ v) (R : RSp π v h) (f : fr WT h h') : RSp π v h' := by
  obtain ⟨H, P, S, C⟩ := R
  exact ⟨RPc_t H P f v24, P, S, SC_c C S.1 (n := π 19 (sz π) + π 5 (sz π)) (Int.le_refl _) (fun _ _ => rfl) (fr_g f (by omega)) (fun k _ => ⟨fr_g f (by omega), fr_g f (by omega)⟩)⟩
/-- a PITCH and its admission -/
theorem RSp_p {π : pm_T} {v n j : Nat} {t : tk_T} {h h1 h' : ah_T} (v24 : 24 ≤ v) (R : RSp π v h) (hn : π 0 4 = (n : Int)) (f1 : fr (fun x k => (x = v ∧ k = 2) ∨ (x = v + 1 ∧ k = n) ∨ (x = v + 2 ∧ k = n)) h h1) (g1 : h1.2.1 v 2 = (n : Int) + 1 ∧ h1.2.1 (v + 1) n = tV' t j ∧ h1.2.1 (v + 2) n = tS t j) (f2 : fr (fun a k => WT a k ∨ (a = 2 ∧ k = 4)) h1 h') (h5 : π 5 (sz π) < 4) (h3 : π 0 2 < 300) (h2 : h'.2.1 2 4 = π 0 2 + 1) (hk : (-2 ≤ tV' t j ∧ tV' t j ≤ 109) ∧ 0 ≤ tS t j ∧ tS t j ≤ 62) : RSp (pch t j (sgt t j) (adm π)) v h' := by
  obtain ⟨H, P, S, C⟩ := R
  obtain ⟨p1, p2⟩ := PW_adm P S h3
  have P' := P
  obtain ⟨P0, -, -⟩ := P
  obtain ⟨⟨s1, s2, s3, s4⟩, s5, s6⟩ := S
  have a5 : adm π 5 (sz (adm π)) = π 5 (sz π) := by rw [sz_adm, adm_o (by omega)]
  obtain ⟨q1, q2⟩ := PW_pch (t := t) (i := j) p1 p2 (by rw [a5]; exact h5) (by rw [a5, adm_o (by omega), adm_2]; omega) (by rw [adm_o (by omega), adm_2]; omega) hk
  obtain ⟨e, en⟩ : ∃ e : Nat, π 5 (sz π) = (e : Int) := ⟨(π 5 (sz π)).toNat, by omega⟩
  have en' : adm π 5 (sz (adm π)) = (e : Int) := a5.trans en
  have f := fr_t (W := fun a k => WT a k ∨ (a = 2 ∧ k = 4) ∨ (a = v ∧ k = 2) ∨ ((a = v + 1 ∨ a = v + 2) ∧ k = n)) (fr_w f1 (fun a k w => by omega)) f2 (fun a k w => by omega)
  have po : ∀ a k, ¬ (a = 0 ∧ (k = 4 ∨ k = 2)) → (k ≠ sz π ∨ (a ≠ 5 ∧ a ≠ 17 ∧ a ≠ 6 + e ∧ a ≠ 10 + e)) → pch t j (sgt t j) (adm π) a k = π a k := fun a k q r => by
    rw [pch_o en' (by omega) (by rw [sz_adm]; omega), adm_o (by omega)]
  refine ⟨RPc_s H P' f (fun a k w => by omega) v24 (fun a k q => po a k (by omega) (by omega)) ⟨po _ _ (by omega) (by omega), po _ _ (by omega) (by omega), po _ _ (by omega) (by omega)⟩ ?_ ?_, q1, q2, ?_⟩
  · rw [pch_o en' (by omega) (by omega), adm_2, h2]
  · rw [pch_4, adm_o (by omega), fr_g f2 (by omega), g1.1, hn]
  · obtain ⟨c1, c2⟩ := C
    have e19 : pch t j (sgt t j) (adm π) 19 (sz π) = π 19 (sz π) := po _ _ (by omega) (by omega)
    have e5 : pch t j (sgt t j) (adm π) 5 (sz π) = π 5 (sz π) + 1 := by
      have := pch_5 (t := t) (i := j) (g := sgt t j) (π := adm π)
      rw [sz_adm] at this
      rw [this, adm_o (by omega)]
    have ek := pch_k (t := t) (i := j) (g := sgt t j) en' (by omega)
    rw [sz_adm] at ek
    rw [sz_pch, sz_adm, po 0 3 (by omega) (by omega)]
    refine ⟨by rw [e19, fr_g f (by omega)]; exact c1, fun p hp => ?_⟩
    rw [e5] at hp
    rw [e19]
    by_cases hc : p = e
    · subst hc
      have : (π 19 (sz π)).toNat + p = n := by omega
      rw [this, fr_g f2 (by omega), fr_g f2 (by omega), g1.2.1, g1.2.2, ek.1, ek.2]
      exact ⟨rfl, rfl⟩
    · rw [fr_g f (by omega), fr_g f (by omega), po _ _ (by omega) (by omega), po _ _ (by omega) (by omega)]
      exact c2 p (by omega)
/-- of a PITCH, an r, or a < with what follows it -/
theorem t_Reader_readSound {G : cx_T} {s v : Nat} {h : ah_T} {t : tk_T} {m i : Nat} {μ π : pm_T} (hb0 : hb s h) (hv : isV v) (hT : TG t m) (H : VSp t m i μ s π v h) (P : PW π) (hB : h.2.1 (v + 3) (π 0 3).toNat = π 0 4) (hk : tK t i = 258 ∨ tK t i = 266 ∨ tK t i = 60) : con G 2 0 0 m_Reader_readSound [av_R (some 2), av_R (some v)] h (QS t m s μ v (sp_sound t i π) h) := by
  have hs : s = 17 ∨ s = 80 := hb0.2.1
  have v24 := isV_24 hv
  obtain ⟨H1, H2⟩ := H
  obtain ⟨c9, c10, c11, c12⟩ := RCs_b H1
  have R0 := RSp_0 v24 H2 P hB
  have e2 : snd0 π 0 2 = π 0 2 := by unfold snd0; rw [up2_o (by omega), up2_o (by omega), up2_o (by omega)]
  have e3 : snd0 π 0 3 = π 0 3 := by unfold snd0; rw [up2_o (by omega), up2_o (by omega), up2_o (by omega)]
  have e4 : snd0 π 0 4 = π 0 4 := by unfold snd0; rw [up2_o (by omega), up2_o (by omega), up2_o (by omega)]
  have e5 : snd0 π 5 (sz (snd0 π)) = 0 := by rw [(PW_snd0 P).2.2]; unfold snd0; rw [up2_o (by omega), up2_o (by omega), up2_at]
  obtain ⟨p0, p1, p2, p3, p4⟩ := P.1
  have hi : i + 1 < m := hT.1 i H1.1.2.2.1 ⟨by omega, by omega⟩
  refine c_Reader_readSound hv (X85 := fun v2 v3 hh => fr (WP v) h hh ∧ ∃ (j : Nat) (ρ : pm_T) (f : Nat), RCs t m j μ s hh ∧ RSp ρ v hh ∧ v3 = ρ 5 (sz ρ) ∧ (f : Int) = 5 - v3 ∧ (0 < v3 → v2 = ρ (5 + (ρ 5 (sz ρ)).toNat) (sz ρ) ∧ ρ 0 3 < ρ 0 2) ∧ (v3 = 0 → v2 = -2147483648 ∧ tK t j = 258) ∧ sp_sound t i π = (if tK t j = 62 ∧ 0 < v3 then .inr (j + 1, ρ) else sp_chord t f j ρ)) ?_ hb0 ?_
  · refine lp_Reader_readSound_85 hv _ (fun _ v3 _ => (5 - v3).toNat) ?_
    rintro v2 v3 hh hb1 ⟨hf, j, ρ, f, Hj, R, ev, ef, eg, ez, es⟩
    obtain ⟨d9, d10, d11, d12⟩ := RCs_b Hj
    obtain ⟨⟨s1, s2, s3, s4⟩, s5, s6⟩ := R.2.2.1
    obtain ⟨r0, r1, r2, r3, r4⟩ := R.2.1.1
    obtain ⟨f', rfl⟩ : ∃ f', f = f' + 1 := ⟨f - 1, by omega⟩
    unfold B_Reader_readSound_85
    refine ⟨fun c => by omega, fun _ x2 y2 _ _ => ⟨fun c x4 y4 _ _ x6 y6 _ _ => ?_, fun c => ?_⟩⟩
    · have hk : tK t j = 258 := by omega
      obtain ⟨kb, sb⟩ := hT.2.2 j Hj.1.2.2.1 hk
      rw [if_neg (by omega), sp_chord, if_pos hk] at es
      have ex6 : x6 = tV' t j := y6.trans d11
      refine ⟨⟨by omega, by omega⟩, fun c4 => ?_, fun c4 x9 y9 _ _ => ?_⟩
      · rw [if_pos (by omega)] at es
        refine con_mono (tt_Reader_blame hb1) ?_
        rintro r h' ⟨z, rfl, hb2, f2, rfl, w1, w2⟩
        exact ⟨0, rfl, hb2, Or.inl rfl, 0, rfl, hb2, fr_t hf f2 WT_P, Or.inl rfl, by rw [es]; exact ⟨rfl, w1, by rw [w2, y4, d10]⟩⟩
      · rw [if_neg (by omega)] at es
        have ex9 : x9 = tS t j := y9.trans d12
        obtain ⟨n, en⟩ : ∃ n : Nat, ρ 0 4 = (n : Int) := ⟨(ρ 0 4).toNat, by omega⟩
        refine con_mono (t_Voice_addPitch hv hb1 (n := n) (by rw [R.1.1.2.2.2.2, en])) ?_
        rintro r h10 ⟨rfl, hb10, f10, g10⟩
        have H10 := RCs_p Hj f10 hs hv (fun a k w => by omega)
        refine ⟨rfl, hb10, ?_⟩
        refine con_mono (t_Reader_admit (π := ρ) hb10 hv H10 (hT.1 j Hj.1.2.2.1 ⟨by omega, by omega⟩) (by rw [fr_g f10 (by omega)]; exact R.1.1.2.2.1) (by omega)) ?_
        rintro r h13 ⟨z, rfl, hb13, f13, q⟩
        have fx := fr_t (fr_t hf f10 (fun a k w => by omega)) f13 (fun a k w => by omega)
        rcases q with ⟨q1, rfl, H13, q2⟩ | ⟨q1, rfl, w1, w2⟩
        · have g10' := g10 (by omega)
          rw [ex6, ex9] at g10'
          have R13 := RSp_p v24 R en f10 g10' f13 (by omega) q1 q2 ⟨kb, sb⟩
          refine ⟨1, rfl, hb13, fun d => absurd d (by decide), fun _ => ⟨fun cv => ?_, fun cv => ?_⟩⟩
          · rw [if_neg (by rintro ⟨u1, u2⟩; have := (eg (by omega)).1; omega), sp_adm_a q1] at es
            have a5 : adm ρ 5 (sz (adm ρ)) = v3 := by rw [sz_adm, adm_o (by omega)]; exact ev.symm
            have b5 : pch t j (sgt t j) (adm ρ) 5 (sz (pch t j (sgt t j) (adm ρ))) = v3 + 1 := by rw [sz_pch, pch_5, a5]
            obtain ⟨e, ee⟩ : ∃ e : Nat, v3 = (e : Int) := ⟨v3.toNat, by omega⟩
            refine ⟨⟨by omega, by omega⟩, ⟨fx, j + 1, pch t j (sgt t j) (adm ρ), f', H13, R13, b5.symm, by omega, fun _ => ⟨?_, ?_⟩, fun w => by omega, ?_⟩, by omega⟩
            · rw [b5, ee]
              have : 5 + ((e : Int) + 1).toNat = 6 + e := by omega
              rw [this, sz_pch, (pch_k (a5.trans ee) (by omega)).1, ex6]
            · rw [pch_o (a5.trans ee) (by omega) (by omega), pch_o (a5.trans ee) (by omega) (by omega), adm_2, adm_o (by omega)]; omega
            · rw [es]
              simp only [bnd]
              by_cases c62 : tK t (j + 1) = 62
              · rw [if_pos c62, if_pos ⟨c62, by omega⟩]
              · rw [if_neg c62, if_neg (fun w => c62 w.1)]
          · have h0 : 0 < v3 := by
              rcases Int.lt_or_le 0 v3 with w | w
              · exact w
              · have := (ez (by omega)).1; omega
            rw [if_pos ⟨by omega, by have := (eg h0).1; omega⟩, if_pos q1] at es
            refine con_mono (tt_Reader_blame hb13) ?_
            rintro r h' ⟨z, rfl, hb2, f2, rfl, w1, w2⟩
            exact ⟨0, rfl, hb2, Or.inl rfl, 0, rfl, hb2, fr_t fx f2 WT_P, Or.inl rfl, by rw [es]; exact ⟨rfl, w1, by rw [w2, y4, d10]⟩⟩
        · refine ⟨0, rfl, hb13, fun _ => ⟨0, rfl, hb13, fx, Or.inl rfl, ?_⟩, fun d => absurd rfl d⟩
          have es' : sp_sound t i π = .inl (3, tP t j) := by
            rw [es, if_neg q1, sp_adm_n q1]
            split <;> rfl
          rw [es']; exact ⟨rfl, w1, w2⟩
    · have hn : ¬ tK t j = 258 := by omega
      have h0 : 0 < v3 := by
        rcases Int.lt_or_le 0 v3 with w | w
        · exact w
        · exact absurd (ez (by omega)).2 hn
      unfold B_Reader_readSound_180
      refine con_mono (tt_Reader_take (k := 62) hb1 Hj (fun w => hT.1 _ Hj.1.2.2.1 (gk_of w (by decide) (by decide)))) ?_
      rintro r h' ⟨z, rfl, hb2, f2, z01, p2⟩
      refine ⟨z, rfl, hb2, z01, z, rfl, hb2, fr_t hf f2 WT_P, z01, ?_⟩
      rw [sp_chord, if_neg hn] at es
      rw [sp_take] at p2
      by_cases c62 : tK t j = 62
      · rw [if_pos ⟨c62, h0⟩] at es
        rw [if_pos c62] at p2
        obtain ⟨rfl, H'⟩ := p2
        have R' := RSp_t v24 R f2
        rw [es]
        exact ⟨rfl, ⟨H', R'.1⟩, R'.2.1, R'.2.2.1, R'.2.2.2, (eg h0).2⟩
      · rw [if_neg (fun w => c62 w.1)] at es
        rw [if_neg c62] at p2
        rw [es]; exact p2
  · unfold B_Reader_readSound_0
    intro x2 y2 _ _
    have ek : x2 = tK t i := y2.trans c9
    refine ⟨fun c => ?_, fun c => ⟨fun c1 x15 y15 _ _ => ⟨?_, fun x18 y18 _ _ => ?_⟩, fun c1 => ?_⟩⟩
    · refine con_mono (t_Reader_admit (π := snd0 π) hb0 hv H1 hi (R0.1.1.2.2.1) (by omega)) ?_
      rintro r h' ⟨z, rfl, hb1, f1, q⟩
      have es : sp_sound t i π = bnd (sp_adm t i (snd0 π)) fun π1 => .inr (i + 1, π1) := by rw [sp_sound, if_pos (by omega)]
      have fx : fr (WP v) h h' := fr_w f1 (fun a k w => by omega)
      rcases q with ⟨q1, rfl, H', q2⟩ | ⟨q1, rfl, w1, w2⟩
      · have R' := RSp_a v24 R0 f1 q1 q2
        rw [sp_adm_a q1] at es
        refine ⟨1, rfl, hb1, Or.inr rfl, 1, rfl, hb1, fx, Or.inr rfl, ?_⟩
        rw [es]
        exact ⟨rfl, ⟨H', R'.1⟩, R'.2.1, R'.2.2.1, R'.2.2.2, by show adm (snd0 π) 0 3 < adm (snd0 π) 0 2; rw [adm_2, adm_o (by omega)]; omega⟩
      · rw [sp_adm_n q1] at es
        exact ⟨0, rfl, hb1, Or.inl rfl, 0, rfl, hb1, fx, Or.inl rfl, by rw [es]; exact ⟨rfl, w1, w2⟩⟩
    · have := hT.2.2 i H1.1.2.2.1 (by omega)
      constructor <;> omega
    · have hk : tK t i = 258 := by omega
      obtain ⟨kb, sb⟩ := hT.2.2 i H1.1.2.2.1 hk
      obtain ⟨n, en⟩ : ∃ n : Nat, snd0 π 0 4 = (n : Int) := ⟨(π 0 4).toNat, by omega⟩
      refine con_mono (t_Voice_addPitch hv hb0 (n := n) (by rw [R0.1.1.2.2.2.2, en])) ?_
      rintro r h10 ⟨rfl, hb10, f10, g10⟩
      have H10 := RCs_p H1 f10 hs hv (fun a k w => by omega)
      refine ⟨rfl, hb10, ?_⟩
      refine con_mono (t_Reader_admit (π := snd0 π) hb10 hv H10 hi (by rw [fr_g f10 (by omega)]; exact R0.1.1.2.2.1) (by omega)) ?_
      rintro r h13 ⟨z, rfl, hb13, f13, q⟩
      have es : sp_sound t i π = bnd (sp_adm t i (snd0 π)) fun π1 => .inr (i + 1, pch t i (sgt t i) π1) := by rw [sp_sound, if_neg (by omega), if_pos hk]
      have fx : fr (WP v) h h13 := fr_t (fr_w f10 (fun a k w => by omega)) f13 (fun a k w => by omega)
      rcases q with ⟨q1, rfl, H', q2⟩ | ⟨q1, rfl, w1, w2⟩
      · have g10' := g10 (by omega)
        rw [y15.trans c11, y18.trans c12] at g10'
        have R' := RSp_p v24 R0 en f10 g10' f13 (by omega) q1 q2 ⟨kb, sb⟩
        rw [sp_adm_a q1] at es
        refine ⟨1, rfl, hb13, Or.inr rfl, 1, rfl, hb13, fx, Or.inr rfl, ?_⟩
        rw [es]
        have a5 : adm (snd0 π) 5 (sz (adm (snd0 π))) = ((0 : Nat) : Int) := by rw [sz_adm, adm_o (by omega)]; exact e5
        exact ⟨rfl, ⟨H', R'.1⟩, R'.2.1, R'.2.2.1, R'.2.2.2, by show pch t i (sgt t i) (adm (snd0 π)) 0 3 < pch t i (sgt t i) (adm (snd0 π)) 0 2; rw [pch_o a5 (by omega) (by omega), pch_o a5 (by omega) (by omega), adm_2, adm_o (by omega)]; omega⟩
      · rw [sp_adm_n q1] at es
        exact ⟨0, rfl, hb13, Or.inl rfl, 0, rfl, hb13, fx, Or.inl rfl, by rw [es]; exact ⟨rfl, w1, w2⟩⟩
    · have es : sp_sound t i π = sp_chord t 5 (i + 1) (snd0 π) := by rw [sp_sound, if_neg (by omega), if_neg (by omega)]
      refine con_mono (tt_Reader_step hb0 H1 hi) ?_
      rintro r h6 ⟨rfl, hb6, f6, H6⟩
      have R6 := RSp_t v24 R0 f6
      refine ⟨rfl, hb6, fun x10 y10 _ _ => ⟨fun c2 => ?_, fun c2 => ?_⟩⟩
      · have hk1 : tK t (i + 1) = 258 := by have := (RCs_b H6).1; omega
        exact ⟨fr_w f6 WT_P, i + 1, snd0 π, 5, H6, R6, e5.symm, by omega, fun w => by omega, fun _ => ⟨rfl, hk1⟩, by rw [es, if_neg (by omega)]⟩
      · have hk1 : ¬ tK t (i + 1) = 258 := by have := (RCs_b H6).1; omega
        refine con_mono (tt_Reader_refuse hb6 H6.1) ?_
        rintro r h' ⟨z, rfl, hb1, f1, rfl, w1, w2⟩
        exact ⟨0, rfl, hb1, Or.inl rfl, 0, rfl, hb1, fr_w (fr_t f6 f1 (fun _ _ w => w)) WT_P, Or.inl rfl, by rw [es, sp_chord, if_neg hk1]; exact ⟨rfl, w1, w2⟩⟩

/-! ===== parts of a voice: a part more ===== -/
theorem PW_add {π π' : pm_T} (H : PW π) (e0 : π' 0 0 = π 0 0 + 1) (e1 : 0 ≤ π' 0 1 ∧ π' 0 1 ≤ 7) (e2 : π' 0 2 = π 0 2) (e3 : π 0 3 ≤ π' 0 3 ∧ π' 0 3 ≤ π 0 2) (e4 : π' 0 4 = π 0 4) (hd : ∀ d : Nat, (d : Int) < π' 0 1 → PD π' d) (ho : ∀ a j, j < sz π → (1 ≤ a ∧ a ≤ 13) ∨ (17 ≤ a ∧ a ≤ 19) → π' a j = π a j) (h14 : ∀ j : Nat, (j : Int) < π 0 0 → 0 ≤ π' 14 j ∧ π' 14 j < π' 0 0) (hn : PJ π' (sz π)) : PW π' := by
  obtain ⟨⟨p0, p1, p2, p3, p4⟩, pd, pj⟩ := H
  refine ⟨⟨by omega, e1, by omega, by omega, by omega⟩, hd, fun j hj => ?_⟩
  by_cases hc : j = sz π
  · subst hc; exact hn
  · have hj' : (j : Int) < π 0 0 := by unfold sz at hc; omega
    exact PJ_c (pj j hj') (fun a q => ho a j (by unfold sz; omega) q) (h14 j hj') (by omega) (by omega)
theorem PD_c {π π' : pm_T} {d : Nat} (H : PD π d) (h0 : π 0 0 ≤ π' 0 0) (h15 : π' 15 d = π 15 d) (h16 : π' 16 d = π 16 d) : PD π' d := by
  unfold PD at H ⊢; omega
theorem addE_o {π : pm_T} {n d w : Int} {a k : Nat} (q0 : ¬ (a = 0 ∧ (k = 3 ∨ k = 0))) (q : k ≠ sz π ∨ ¬ (a = 1 ∨ a = 2 ∨ a = 3 ∨ a = 4 ∨ a = 14 ∨ a = 18)) : addE π n d w a k = π a k := by
  unfold addE
  rw [up2_o (by omega), up2_o (by omega), up2_o (by omega), up2_o (by omega), up2_o (by omega), up2_o (by omega), up2_o (by omega), up2_o (by omega)]
theorem addE_0 {π : pm_T} {n d w : Int} : addE π n d w 0 0 = π 0 0 + 1 ∧ addE π n d w 0 3 = π 0 3 + 1 := by
  unfold addE
  exact ⟨by rw [up2_at], by rw [up2_o (by omega), up2_at]⟩
theorem addE_v {π : pm_T} {n d w : Int} : addE π n d w 1 (sz π) = 256 ∧ addE π n d w 2 (sz π) = n ∧ addE π n d w 3 (sz π) = d ∧ addE π n d w 4 (sz π) = w ∧ addE π n d w 14 (sz π) = π 0 0 ∧ addE π n d w 18 (sz π) = π 0 3 := by
  unfold addE
  refine ⟨?_, ?_, ?_, ?_, ?_, ?_⟩
  · rw [up2_o (by omega), up2_o (by omega), up2_o (by omega), up2_o (by omega), up2_o (by omega), up2_o (by omega), up2_o (by omega), up2_at]
  · rw [up2_o (by omega), up2_o (by omega), up2_o (by omega), up2_o (by omega), up2_o (by omega), up2_o (by omega), up2_at]
  · rw [up2_o (by omega), up2_o (by omega), up2_o (by omega), up2_o (by omega), up2_o (by omega), up2_at]
  · rw [up2_o (by omega), up2_o (by omega), up2_o (by omega), up2_o (by omega), up2_at]
  · rw [up2_o (by omega), up2_o (by omega), up2_o (by omega), up2_at]
  · rw [up2_o (by omega), up2_o (by omega), up2_at]
theorem PW_addE {π : pm_T} {n d w : Int} (H : PW π) (S : PS π) (h3 : π 0 3 < π 0 2) (hn : 1 ≤ n ∧ n ≤ 64) (hd : 0 ≤ d ∧ d ≤ 3) (hw : w = 0 ∨ w = 1) : PW (addE π n d w) := by
  obtain ⟨p0, p1, p2, p3, p4⟩ := H.1
  obtain ⟨v1, v2, v3, v4, v14, v18⟩ := addE_v (π := π) (n := n) (d := d) (w := w)
  obtain ⟨z0, z3⟩ := addE_0 (π := π) (n := n) (d := d) (w := w)
  have o1 : addE π n d w 0 1 = π 0 1 := addE_o (by decide) (Or.inr (by decide))
  have o2 : addE π n d w 0 2 = π 0 2 := addE_o (by decide) (Or.inr (by decide))
  have o4 : addE π n d w 0 4 = π 0 4 := addE_o (by decide) (Or.inr (by decide))
  have o5 : addE π n d w 5 (sz π) = π 5 (sz π) := addE_o (fun w => absurd w.1 (by decide)) (Or.inr (by decide))
  have o19 : addE π n d w 19 (sz π) = π 19 (sz π) := addE_o (fun w => absurd w.1 (by decide)) (Or.inr (by decide))
  refine PW_add H z0 (by rw [o1]; exact p1) o2 (by rw [z3]; omega) o4 (fun d' hd' => ?_) (fun a j hj q => addE_o (fun w => by have w1 := w.1; clear w; omega) (Or.inl (Nat.ne_of_lt hj))) (fun j hj => ?_) ⟨?_, fun _ => ⟨?_, ?_, ?_, ?_⟩, fun q => by omega⟩
  · exact PD_c (H.2.1 d' (by omega)) (by omega) (addE_o (fun w => absurd w.1 (by decide)) (Or.inr (by decide))) (addE_o (fun w => absurd w.1 (by decide)) (Or.inr (by decide)))
  · have := (H.2.2 j hj).1
    have hz : j ≠ sz π := by unfold sz; omega
    rw [addE_o (fun w => absurd w.1 (by decide)) (Or.inl hz), z0]; omega
  · rw [v14, z0]; omega
  · rw [v2, v3, v4]; exact ⟨hn, hd, hw⟩
  · rw [v18, z3]; omega
  · rw [o19, o5, o4]; have := S.2.1; omega
  · exact SO_c S.1 (fun a q => addE_o (by omega) (by omega))
theorem addP_o {π : pm_T} {c x y : Int} {a k : Nat} (q0 : ¬ (a = 0 ∧ k = 0)) (q : k ≠ sz π ∨ ¬ (a = 1 ∨ a = 2 ∨ a = 3 ∨ a = 14)) : addP π c x y a k = π a k := by
  unfold addP
  rw [up2_o (by omega), up2_o (by omega), up2_o (by omega), up2_o (by omega), up2_o (by omega)]
theorem addP_v {π : pm_T} {c x y : Int} : addP π c x y 0 0 = π 0 0 + 1 ∧ addP π c x y 1 (sz π) = c ∧ addP π c x y 2 (sz π) = x ∧ addP π c x y 3 (sz π) = y ∧ addP π c x y 14 (sz π) = π 0 0 := by
  unfold addP
  refine ⟨by rw [up2_at], ?_, ?_, ?_, ?_⟩
  · rw [up2_o (by omega), up2_o (by omega), up2_o (by omega), up2_o (by omega), up2_at]
  · rw [up2_o (by omega), up2_o (by omega), up2_o (by omega), up2_at]
  · rw [up2_o (by omega), up2_o (by omega), up2_at]
  · rw [up2_o (by omega), up2_at]
theorem PW_addP {π : pm_T} {c x y : Int} (H : PW π) (hc : c ≠ 256 ∧ c ≠ 123) : PW (addP π c x y) := by
  obtain ⟨p0, p1, p2, p3, p4⟩ := H.1
  obtain ⟨z0, v1, v2, v3, v14⟩ := addP_v (π := π) (c := c) (x := x) (y := y)
  have o1 : addP π c x y 0 1 = π 0 1 := addP_o (by decide) (Or.inr (by decide))
  have o2 : addP π c x y 0 2 = π 0 2 := addP_o (by decide) (Or.inr (by decide))
  have o3 : addP π c x y 0 3 = π 0 3 := addP_o (by decide) (Or.inr (by decide))
  have o4 : addP π c x y 0 4 = π 0 4 := addP_o (by decide) (Or.inr (by decide))
  refine PW_add H z0 (by rw [o1]; exact p1) o2 (by rw [o3]; omega) o4 (fun d' hd' => ?_) (fun a j hj q => addP_o (fun w => by have w1 := w.1; clear w; omega) (Or.inl (Nat.ne_of_lt hj))) (fun j hj => ?_) ⟨?_, fun q => by omega, fun q => by omega⟩
  · exact PD_c (H.2.1 d' (by omega)) (by omega) (addP_o (fun w => absurd w.1 (by decide)) (Or.inr (by decide))) (addP_o (fun w => absurd w.1 (by decide)) (Or.inr (by decide)))
  · have := (H.2.2 j hj).1
    have hz : j ≠ sz π := by unfold sz; omega
    rw [addP_o (fun w => absurd w.1 (by decide)) (Or.inl hz), z0]; omega
  · rw [v14, z0]; omega
theorem opn_o {π : pm_T} {a k : Nat} (q0 : ¬ (a = 0 ∧ k = 1)) (q : k ≠ dp π ∨ ¬ (a = 15 ∨ a = 16)) : opn π a k = π a k := by
  unfold opn
  rw [up2_o (by omega), up2_o (by omega), up2_o (by omega)]
theorem opn_v {π : pm_T} : opn π 0 1 = π 0 1 + 1 ∧ opn π 15 (dp π) = π 0 0 ∧ opn π 16 (dp π) = π 0 0 := by
  unfold opn
  exact ⟨by rw [up2_at], by rw [up2_o (by omega), up2_o (by omega), up2_at], by rw [up2_o (by omega), up2_at]⟩
theorem sz_opn {π : pm_T} : sz (opn π) = sz π := by unfold sz; rw [opn_o (by omega) (by omega)]
theorem PW_addO {π : pm_T} {c x y : Int} (H : PW π) (h6 : π 0 1 ≤ 6) (hc : c = 91 ∨ (c = 123 ∧ (1 ≤ x ∧ x ≤ 16) ∧ 1 ≤ y ∧ y ≤ 16)) : PW (addP (opn π) c x y) := by
  obtain ⟨p0, p1, p2, p3, p4⟩ := H.1
  obtain ⟨z0, v1, v2, v3, v14⟩ := addP_v (π := opn π) (c := c) (x := x) (y := y)
  obtain ⟨w1, w15, w16⟩ := opn_v (π := π)
  rw [sz_opn] at v1 v2 v3 v14
  have oo : ∀ k, k ≠ 1 → opn π 0 k = π 0 k := fun k hk => opn_o (fun w => hk w.2) (Or.inr (by decide))
  have o1 : addP (opn π) c x y 0 1 = π 0 1 + 1 := by rw [addP_o (by decide) (Or.inr (by decide)), w1]
  have o2 : addP (opn π) c x y 0 2 = π 0 2 := by rw [addP_o (by decide) (Or.inr (by decide)), oo _ (by decide)]
  have o3 : addP (opn π) c x y 0 3 = π 0 3 := by rw [addP_o (by decide) (Or.inr (by decide)), oo _ (by decide)]
  have o4 : addP (opn π) c x y 0 4 = π 0 4 := by rw [addP_o (by decide) (Or.inr (by decide)), oo _ (by decide)]
  rw [oo _ (by decide)] at z0 v14
  have g : ∀ a k, (1 ≤ a ∧ a ≤ 14) ∨ 17 ≤ a → k ≠ sz π → addP (opn π) c x y a k = π a k := fun a k q hk => by
    rw [addP_o (by omega) (by rw [sz_opn]; omega), opn_o (by omega) (by omega)]
  refine PW_add H z0 (by rw [o1]; omega) o2 (by rw [o3]; omega) o4 (fun d' hd' => ?_) (fun a j hj q => g a j (by omega) (by omega)) (fun j hj => ?_) ⟨?_, fun q => by omega, fun q => by omega⟩
  · by_cases hc : d' = dp π
    · subst hc
      unfold PD
      have r15 : addP (opn π) c x y 15 (dp π) = π 0 0 := by rw [addP_o (fun w => absurd w.1 (by decide)) (Or.inr (by decide)), w15]
      have r16 : addP (opn π) c x y 16 (dp π) = π 0 0 := by rw [addP_o (fun w => absurd w.1 (by decide)) (Or.inr (by decide)), w16]
      rw [r15, r16, z0]; omega
    · have : d' < dp π := by unfold dp at hc ⊢; omega
      exact PD_c (H.2.1 d' (by unfold dp at this; omega)) (by omega) (by rw [addP_o (fun w => absurd w.1 (by decide)) (Or.inr (by decide)), opn_o (fun w => absurd w.1 (by decide)) (Or.inl (by omega))]) (by rw [addP_o (fun w => absurd w.1 (by decide)) (Or.inr (by decide)), opn_o (fun w => absurd w.1 (by decide)) (Or.inl (by omega))])
  · have := (H.2.2 j hj).1
    have hz : j ≠ sz π := by unfold sz; omega
    rw [g _ _ (by omega) hz, z0]; omega
  · rw [v14, z0]; omega
theorem mrk_o {π : pm_T} {a k : Nat} (q : ¬ (a = 14 ∧ k = (π 16 (dp π - 1)).toNat)) (q2 : ¬ (a = 16 ∧ k = dp π - 1)) : mrk π a k = π a k := by
  unfold mrk
  rw [up2_o (by omega), up2_o (by omega)]
theorem mrk_v {π : pm_T} : mrk π 14 (π 16 (dp π - 1)).toNat = π 0 0 ∧ mrk π 16 (dp π - 1) = π 0 0 := by
  unfold mrk
  exact ⟨by rw [up2_o (by omega), up2_at], by rw [up2_at]⟩
theorem sz_mrk {π : pm_T} : sz (mrk π) = sz π := by unfold sz; rw [mrk_o (by omega) (by omega)]
/-- what a mark makes -/
theorem addM_o {π : pm_T} {K : Int} {a k : Nat} (q0 : ¬ (a = 0 ∧ (k = 0 ∨ k = 1))) (q : k ≠ sz π ∨ ¬ (a = 1 ∨ a = 2 ∨ a = 3 ∨ a = 14)) (q1 : ¬ (a = 14 ∧ k = (π 16 (dp π - 1)).toNat)) (q2 : ¬ (a = 16 ∧ k = dp π - 1)) : addM π K a k = π a k := by
  unfold addM
  split
  · rw [addP_o (by omega) (by rw [sz_mrk]; omega), mrk_o q1 q2]
  · rw [up2_o (by omega), addP_o (by omega) (by rw [sz_mrk]; omega), mrk_o q1 q2]
theorem addM_v {π : pm_T} {K : Int} (hl : (π 16 (dp π - 1)).toNat ≠ sz π) : addM π K 0 0 = π 0 0 + 1 ∧ addM π K 0 1 = (if K = 58 then π 0 1 else π 0 1 - 1) ∧ addM π K 1 (sz π) = K ∧ addM π K 14 (sz π) = π 0 0 ∧ addM π K 14 (π 16 (dp π - 1)).toNat = π 0 0 ∧ addM π K 16 (dp π - 1) = π 0 0 := by
  obtain ⟨z0, v1, -, -, v14⟩ := addP_v (π := mrk π) (c := K) (x := 0) (y := 0)
  obtain ⟨w14, w16⟩ := mrk_v (π := π)
  rw [sz_mrk] at v1 v14
  have m0 : mrk π 0 0 = π 0 0 := mrk_o (by omega) (by omega)
  have m1 : mrk π 0 1 = π 0 1 := mrk_o (by omega) (by omega)
  have a1 : addP (mrk π) K 0 0 0 1 = π 0 1 := by rw [addP_o (by omega) (by omega), m1]
  have a14 : addP (mrk π) K 0 0 14 (π 16 (dp π - 1)).toNat = π 0 0 := by rw [addP_o (by omega) (by rw [sz_mrk]; omega), w14]
  have a16 : addP (mrk π) K 0 0 16 (dp π - 1) = π 0 0 := by rw [addP_o (by omega) (by omega), w16]
  rw [m0] at z0 v14
  unfold addM
  split
  · exact ⟨z0, a1, v1, v14, a14, a16⟩
  · refine ⟨?_, ?_, ?_, ?_, ?_, ?_⟩
    · rw [up2_o (by omega)]; exact z0
    · rw [up2_at]
    · rw [up2_o (by omega)]; exact v1
    · rw [up2_o (by omega)]; exact v14
    · rw [up2_o (by omega)]; exact a14
    · rw [up2_o (by omega)]; exact a16
theorem PW_addM {π : pm_T} {K : Int} (H : PW π) (h1 : 0 < π 0 1) (hK : K = 58 ∨ K = 93 ∨ K = 125) : PW (addM π K) := by
  obtain ⟨p0, p1, p2, p3, p4⟩ := H.1
  have k1 : K ≠ 256 := by omega
  have k2 : K ≠ 123 := by omega
  have hd := H.2.1 (dp π - 1) (by unfold dp; omega)
  unfold PD at hd
  have hl : (π 16 (dp π - 1)).toNat ≠ sz π := by unfold sz; omega
  obtain ⟨z0, z1, v1, v14, l14, l16⟩ := addM_v (K := K) hl
  have y1 : (0 ≤ addM π K 0 1 ∧ addM π K 0 1 ≤ 7) ∧ addM π K 0 1 ≤ π 0 1 := by
    rw [z1]
    clear z0 z1 v1 v14 l14 l16 hl k1 k2 hK hd
    split <;> omega
  have n1 : ¬ addM π K 1 (sz π) = 256 := by rw [v1]; exact k1
  have n2 : ¬ addM π K 1 (sz π) = 123 := by rw [v1]; exact k2
  have lt : (π 16 (dp π - 1)).toNat < sz π := by unfold sz; omega
  clear z1 v1 hK k1 k2 hl
  have o2 : addM π K 0 2 = π 0 2 := addM_o (by decide) (Or.inr (by decide)) (fun w => absurd w.1 (by decide)) (fun w => absurd w.1 (by decide))
  have o3 : addM π K 0 3 = π 0 3 := addM_o (by decide) (Or.inr (by decide)) (fun w => absurd w.1 (by decide)) (fun w => absurd w.1 (by decide))
  have o4 : addM π K 0 4 = π 0 4 := addM_o (by decide) (Or.inr (by decide)) (fun w => absurd w.1 (by decide)) (fun w => absurd w.1 (by decide))
  refine PW_add H z0 y1.1 o2 (by rw [o3]; omega) o4 (fun d' hd' => ?_) (fun a j hj q => addM_o (fun w => by have w1 := w.1; clear w; omega) (Or.inl (Nat.ne_of_lt hj)) (fun w => by have w1 := w.1; clear w; omega) (fun w => by have w1 := w.1; clear w; omega)) (fun j hj => ?_) ⟨?_, fun q => absurd q n1, fun q => absurd q n2⟩
  · have hd2 : (d' : Int) < π 0 1 := Int.lt_of_lt_of_le hd' y1.2
    have := H.2.1 d' hd2
    unfold PD at this ⊢
    by_cases hc : d' = dp π - 1
    · have r15 : addM π K 15 (dp π - 1) = π 15 (dp π - 1) := addM_o (fun w => absurd w.1 (by decide)) (Or.inr (by decide)) (fun w => absurd w.1 (by decide)) (fun w => absurd w.1 (by decide))
      rw [hc, l16, r15, z0]; omega
    · have r15 : addM π K 15 d' = π 15 d' := addM_o (fun w => absurd w.1 (by decide)) (Or.inr (by decide)) (fun w => absurd w.1 (by decide)) (fun w => absurd w.1 (by decide))
      have r16 : addM π K 16 d' = π 16 d' := addM_o (fun w => absurd w.1 (by decide)) (Or.inr (by decide)) (fun w => absurd w.1 (by decide)) (fun w => hc w.2)
      rw [r15, r16, z0]; omega
  · have := (H.2.2 j hj).1
    have hz : j ≠ sz π := by unfold sz; omega
    by_cases hc : j = (π 16 (dp π - 1)).toNat
    · rw [hc, l14, z0]; omega
    · rw [addM_o (fun w => absurd w.1 (by decide)) (Or.inl hz) (fun w => hc w.2) (fun w => absurd w.1 (by decide)), z0]; omega
  · rw [v14, z0]; omega

/-! ===== the class: a part more ===== -/
theorem RPc_add {π π' : pm_T} {v : Nat} {h h' : ah_T} {W : Nat → Nat → Prop} (H : RPc π v h) (P : PW π) (f : fr W h h') (hW : ∀ a k, W a k → (a ≤ 8 ∧ (a = 2 → 5 ≤ k)) ∨ a = 9 ∨ ((a = 10 ∨ a = 12 ∨ a = 13) ∧ k = sz π) ∨ a = 11 ∨ a = 14 ∨ a = 15 ∨ (a = v ∧ k = 7) ∨ (a = v + 3 ∧ π 0 3 < k) ∨ ((a = v + 4 ∨ a = v + 5 ∨ a = v + 6) ∧ π 0 3 ≤ k)) (v24 : 24 ≤ v) (e0 : π' 0 0 = π 0 0 + 1) (h94 : h'.2.1 9 4 = π' 0 0) (h97 : h'.2.1 9 7 = π' 0 1) (e2 : π' 0 2 = π 0 2) (h7 : h'.2.1 v 7 = π' 0 3) (e4 : π' 0 4 = π 0 4) (hd : ∀ d : Nat, (d : Int) < π' 0 1 → h'.2.1 14 d = π' 15 d ∧ h'.2.1 15 d = π' 16 d) (ho : ∀ a j, j < sz π → (1 ≤ a ∧ a ≤ 13) ∨ (17 ≤ a ∧ a ≤ 19) → π' a j = π a j) (h11 : ∀ j : Nat, (j : Int) < π 0 0 → h'.2.1 11 j = π' 14 j) (hn : RPj π' v (sz π) h') : RPc π' v h' := by
  obtain ⟨⟨a1, a2, a3, a4, a5⟩, -, hj⟩ := H
  have g : ∀ (a k : Nat), ¬ ((a ≤ 8 ∧ (a = 2 → 5 ≤ k)) ∨ a = 9 ∨ ((a = 10 ∨ a = 12 ∨ a = 13) ∧ k = sz π) ∨ a = 11 ∨ a = 14 ∨ a = 15 ∨ (a = v ∧ k = 7) ∨ (a = v + 3 ∧ π 0 3 < k) ∨ ((a = v + 4 ∨ a = v + 5 ∨ a = v + 6) ∧ π 0 3 ≤ k)) → h'.2.1 a k = h.2.1 a k := fun a k q => fr_g f (fun w => q (hW a k w))
  refine ⟨⟨h94, h97, ?_, h7, ?_⟩, hd, fun j hj' => ?_⟩
  · rw [g _ _ (by omega), e2]; exact a3
  · rw [g _ _ (by omega), e4]; exact a5
  · by_cases hc : j = sz π
    · subst hc; exact hn
    · have hlt : (j : Int) < π 0 0 := by unfold sz at hc; have := P.1.1; omega
      exact RPj_c (hj j hlt) (P.2.2 j hlt) (Int.le_refl _) (Int.le_refl _) (fun a q => ho a j (by unfold sz; omega) (by omega)) (g _ _ (by omega)) (h11 j hlt) ⟨g _ _ (by omega), g _ _ (by omega)⟩ (fun k hk => ⟨g _ _ (by omega), g _ _ (by omega), g _ _ (by omega)⟩) (fun k hk => g _ _ (by omega)) (fun k hk => ⟨g _ _ (by omega), g _ _ (by omega)⟩)
/-- what reading keeps from part to part -/
def VE (t : tk_T) (m i : Nat) (μ : pm_T) (s : Nat) (π : pm_T) (v : Nat) (h : ah_T) : Prop := VSp t m i μ s π v h ∧ PW π ∧ h.2.1 (v + 3) (π 0 3).toNat = π 0 4 ∧ π 0 0 + 1 ≤ i
theorem RPc_addE {π : pm_T} {v b k : Nat} {n d w : Int} {h h2 h' : ah_T} (v24 : 24 ≤ v) (R : RSp π v h) (h3 : π 0 3 < π 0 2) (hb : π 0 3 = (b : Int)) (hk : π 0 0 = (k : Int)) (f1 : fr (fun x k => (x = v ∧ k = 7) ∨ (x = v + 3 ∧ k = b + 1) ∨ ((x = v + 4 ∨ x = v + 5 ∨ x = v + 6) ∧ k = b)) h h2) (g1 : h2.2.1 v 7 = (b : Int) + 1 ∧ h2.2.1 (v + 4) b = n ∧ h2.2.1 (v + 5) b = d ∧ h2.2.1 (v + 6) b = w ∧ h2.2.1 (v + 3) (b + 1) = h.2.1 v 2) (f2 : fr (fun x j => (x = 9 ∧ j = 4) ∨ ((x = 10 ∨ x = 11 ∨ x = 12 ∨ x = 13) ∧ j = k)) h2 h') (g2 : h'.2.1 9 4 = (k : Int) + 1 ∧ h'.2.1 10 k = 256 ∧ h'.2.1 12 k = (b : Int) ∧ h'.2.1 13 k = 0 ∧ h'.2.1 11 k = (k : Int)) : RPc (addE π n d w) v h' ∧ h'.2.1 (v + 3) (addE π n d w 0 3).toNat = addE π n d w 0 4 := by
  obtain ⟨H, P, S, C⟩ := R
  obtain ⟨p0, p1, p2, p3, p4⟩ := P.1
  obtain ⟨v1, v2, v3, v4, v14, v18⟩ := addE_v (π := π) (n := n) (d := d) (w := w)
  obtain ⟨z0, z3⟩ := addE_0 (π := π) (n := n) (d := d) (w := w)
  have hsz : sz π = k := by unfold sz; omega
  have o1 : addE π n d w 0 1 = π 0 1 := addE_o (by omega) (by omega)
  have o4 : addE π n d w 0 4 = π 0 4 := addE_o (by omega) (by omega)
  have o5 : addE π n d w 5 (sz π) = π 5 (sz π) := addE_o (by omega) (by omega)
  have o19 : addE π n d w 19 (sz π) = π 19 (sz π) := addE_o (by omega) (by omega)
  have f := fr_t (W := fun x j => ((x = v ∧ j = 7) ∨ (x = v + 3 ∧ j = b + 1) ∨ ((x = v + 4 ∨ x = v + 5 ∨ x = v + 6) ∧ j = b)) ∨ (x = 9 ∧ j = 4) ∨ ((x = 10 ∨ x = 11 ∨ x = 12 ∨ x = 13) ∧ j = k)) (fr_w f1 (fun a k w => Or.inl w)) f2 (fun a k w => Or.inr w)
  have eb : (b : Int).toNat = b := tn_c b
  have e1 : (addE π n d w 0 3).toNat = b + 1 := by rw [z3]; omega
  have hl : h'.2.1 (v + 3) (b + 1) = π 0 4 := by rw [fr_g f2 (by omega), g1.2.2.2.2]; exact H.1.2.2.2.2
  refine ⟨RPc_add H P f ?_ v24 z0 (by rw [z0, g2.1]; omega) ?_ (addE_o (by omega) (by omega)) ?_ o4 (fun d' hd' => ?_) (fun a j hj q => addE_o (by omega) (by omega)) (fun j hj => ?_) ?_, by rw [e1, o4]; exact hl⟩
  · rintro a j ((⟨rfl, rfl⟩ | ⟨rfl, rfl⟩ | ⟨q, rfl⟩) | ⟨rfl, rfl⟩ | ⟨q, rfl⟩)
    · exact Or.inr (Or.inr (Or.inr (Or.inr (Or.inr (Or.inr (Or.inl ⟨rfl, rfl⟩))))))
    · exact Or.inr (Or.inr (Or.inr (Or.inr (Or.inr (Or.inr (Or.inr (Or.inl ⟨rfl, by omega⟩)))))))
    · exact Or.inr (Or.inr (Or.inr (Or.inr (Or.inr (Or.inr (Or.inr (Or.inr ⟨q, by omega⟩)))))))
    · exact Or.inr (Or.inl rfl)
    · rcases q with q | q | q | q
      · exact Or.inr (Or.inr (Or.inl ⟨Or.inl q, hsz.symm⟩))
      · exact Or.inr (Or.inr (Or.inr (Or.inl q)))
      · exact Or.inr (Or.inr (Or.inl ⟨Or.inr (Or.inl q), hsz.symm⟩))
      · exact Or.inr (Or.inr (Or.inl ⟨Or.inr (Or.inr q), hsz.symm⟩))
  · rw [fr_g f (by omega), o1]; exact H.1.2.1
  · rw [fr_g f2 (by omega), g1.1, z3]; omega
  · have := H.2.1 d' (by omega)
    rw [fr_g f (by omega), fr_g f (by omega), addE_o (by omega) (by omega), addE_o (by omega) (by omega)]; exact this
  · rw [fr_g f (by omega), addE_o (by omega) (by unfold sz; omega)]; exact (H.2.2 j hj).1.2
  · refine ⟨⟨by rw [hsz, g2.2.1, ← hsz, v1], by rw [v14, hsz, g2.2.2.2.2]; omega⟩, fun _ => ⟨⟨?_, ?_, ?_, ?_⟩, ?_, ?_⟩, fun q => by omega⟩
    · rw [v18, hsz, g2.2.2.1]; omega
    · rw [v18, v2, hb, eb, fr_g f2 (by omega)]; exact g1.2.1
    · rw [v18, v3, hb, eb, fr_g f2 (by omega)]; exact g1.2.2.1
    · rw [v18, v4, hb, eb, fr_g f2 (by omega)]; exact g1.2.2.2.1
    · rw [v18, hb, eb, o19, o5, hl, S.2.1]
    · rw [v18]
      exact SC_c C S.1 (n := π 0 4) (by have := S.2.1; omega) (fun a q => addE_o (by omega) (by omega)) (fr_g f (by omega)) (fun q _ => ⟨fr_g f (by omega), fr_g f (by omega)⟩)
theorem RPc_addP {π : pm_T} {v k : Nat} {c x y : Int} {h h' : ah_T} (v24 : 24 ≤ v) (H : RPc π v h) (P : PW π) (hB : h.2.1 (v + 3) (π 0 3).toNat = π 0 4) (hc : c ≠ 256 ∧ c ≠ 123) (hk : π 0 0 = (k : Int)) (f : fr (fun x j => (x = 9 ∧ j = 4) ∨ ((x = 10 ∨ x = 11 ∨ x = 12 ∨ x = 13) ∧ j = k)) h h') (g : h'.2.1 9 4 = (k : Int) + 1 ∧ h'.2.1 10 k = c ∧ h'.2.1 12 k = x ∧ h'.2.1 13 k = y ∧ h'.2.1 11 k = (k : Int)) : RPc (addP π c x y) v h' ∧ h'.2.1 (v + 3) (addP π c x y 0 3).toNat = addP π c x y 0 4 := by
  obtain ⟨p0, p1, p2, p3, p4⟩ := P.1
  obtain ⟨z0, v1, v2, v3, v14⟩ := addP_v (π := π) (c := c) (x := x) (y := y)
  have hsz : sz π = k := by unfold sz; omega
  have o : ∀ j, j ≠ 0 → addP π c x y 0 j = π 0 j := fun j hj => addP_o (by omega) (by omega)
  refine ⟨RPc_add H P f ?_ v24 z0 (by rw [z0, g.1]; omega) ?_ (o _ (by omega)) ?_ (o _ (by omega)) (fun d' hd' => ?_) (fun a j hj q => addP_o (by omega) (by omega)) (fun j hj => ?_) ⟨⟨by rw [hsz, g.2.1, ← hsz, v1], by rw [v14, hsz, g.2.2.2.2]; omega⟩, fun q => by omega, fun q => by omega⟩, ?_⟩
  · rintro a j (⟨rfl, rfl⟩ | ⟨q, rfl⟩)
    · exact Or.inr (Or.inl rfl)
    · rcases q with q | q | q | q
      · exact Or.inr (Or.inr (Or.inl ⟨Or.inl q, hsz.symm⟩))
      · exact Or.inr (Or.inr (Or.inr (Or.inl q)))
      · exact Or.inr (Or.inr (Or.inl ⟨Or.inr (Or.inl q), hsz.symm⟩))
      · exact Or.inr (Or.inr (Or.inl ⟨Or.inr (Or.inr q), hsz.symm⟩))
  · rw [fr_g f (by omega), o _ (by omega)]; exact H.1.2.1
  · rw [fr_g f (by omega), o _ (by omega)]; exact H.1.2.2.2.1
  · rw [o _ (by omega)] at hd'
    have := H.2.1 d' hd'
    rw [fr_g f (by omega), fr_g f (by omega), addP_o (by omega) (by omega), addP_o (by omega) (by omega)]; exact this
  · rw [fr_g f (by omega), addP_o (by omega) (by unfold sz; omega)]; exact (H.2.2 j hj).1.2
  · rw [o _ (by omega), o _ (by omega), fr_g f (by omega)]; exact hB
theorem RPc_addO {π : pm_T} {v k d : Nat} {c x y : Int} {h h' : ah_T} (v24 : 24 ≤ v) (H : RPc π v h) (P : PW π) (hB : h.2.1 (v + 3) (π 0 3).toNat = π 0 4) (hc : c = 91 ∨ c = 123) (hk : π 0 0 = (k : Int)) (hd : π 0 1 = (d : Int)) (f : fr (fun x j => (x = 9 ∧ (j = 4 ∨ j = 7)) ∨ ((x = 10 ∨ x = 11 ∨ x = 12 ∨ x = 13) ∧ j = k) ∨ ((x = 14 ∨ x = 15) ∧ j = d)) h h') (g : h'.2.1 9 4 = (k : Int) + 1 ∧ h'.2.1 10 k = c ∧ h'.2.1 12 k = x ∧ h'.2.1 13 k = y ∧ h'.2.1 11 k = (k : Int) ∧ h'.2.1 9 7 = (d : Int) + 1 ∧ h'.2.1 14 d = (k : Int) ∧ h'.2.1 15 d = (k : Int)) : RPc (addP (opn π) c x y) v h' ∧ h'.2.1 (v + 3) (addP (opn π) c x y 0 3).toNat = addP (opn π) c x y 0 4 := by
  obtain ⟨p0, p1, p2, p3, p4⟩ := P.1
  obtain ⟨z0, v1, v2, v3, v14⟩ := addP_v (π := opn π) (c := c) (x := x) (y := y)
  obtain ⟨w1, w15, w16⟩ := opn_v (π := π)
  rw [sz_opn] at v1 v2 v3 v14
  have oo : ∀ j, j ≠ 1 → opn π 0 j = π 0 j := fun j hj => opn_o (by omega) (by omega)
  rw [oo _ (by omega)] at z0 v14
  have hsz : sz π = k := by unfold sz; omega
  have hdp : dp π = d := by unfold dp; omega
  have o1 : addP (opn π) c x y 0 1 = π 0 1 + 1 := by rw [addP_o (by omega) (by omega), w1]
  have o : ∀ j, j ≠ 0 → j ≠ 1 → addP (opn π) c x y 0 j = π 0 j := fun j hj hj1 => by rw [addP_o (by omega) (by omega), oo _ hj1]
  have g1 : ∀ a k, (1 ≤ a ∧ a ≤ 14) ∨ 17 ≤ a → k ≠ sz π → addP (opn π) c x y a k = π a k := fun a k q hk => by
    rw [addP_o (by omega) (by rw [sz_opn]; omega), opn_o (by omega) (by omega)]
  refine ⟨RPc_add H P f ?_ v24 z0 (by rw [z0, g.1]; omega) (by rw [o1, g.2.2.2.2.2.1]; omega) (o _ (by omega) (by omega)) ?_ (o _ (by omega) (by omega)) (fun d' hd' => ?_) (fun a j hj q => g1 a j (by omega) (by omega)) (fun j hj => ?_) ⟨⟨by rw [hsz, g.2.1, ← hsz, v1], by rw [v14, hsz, g.2.2.2.2.1]; omega⟩, fun q => by omega, fun q => by rw [hsz, g.2.2.1, g.2.2.2.1, ← hsz, v2, v3]; exact ⟨rfl, rfl⟩⟩, ?_⟩
  · rintro a j (⟨rfl, -⟩ | ⟨q, rfl⟩ | ⟨q, -⟩)
    · exact Or.inr (Or.inl rfl)
    · rcases q with q | q | q | q
      · exact Or.inr (Or.inr (Or.inl ⟨Or.inl q, hsz.symm⟩))
      · exact Or.inr (Or.inr (Or.inr (Or.inl q)))
      · exact Or.inr (Or.inr (Or.inl ⟨Or.inr (Or.inl q), hsz.symm⟩))
      · exact Or.inr (Or.inr (Or.inl ⟨Or.inr (Or.inr q), hsz.symm⟩))
    · rcases q with q | q
      · exact Or.inr (Or.inr (Or.inr (Or.inr (Or.inl q))))
      · exact Or.inr (Or.inr (Or.inr (Or.inr (Or.inr (Or.inl q)))))
  · rw [fr_g f (by omega), o _ (by omega) (by omega)]; exact H.1.2.2.2.1
  · have r : ∀ a, a = 15 ∨ a = 16 → addP (opn π) c x y a d' = opn π a d' := fun a ha => addP_o (by omega) (by omega)
    rw [r _ (Or.inl rfl), r _ (Or.inr rfl)]
    by_cases hc : d' = d
    · subst hc
      rw [← hdp, w15, w16, hdp, g.2.2.2.2.2.2.1, g.2.2.2.2.2.2.2, hk]; exact ⟨rfl, rfl⟩
    · have hlt : (d' : Int) < π 0 1 := by omega
      have := H.2.1 d' hlt
      rw [fr_g f (by omega), fr_g f (by omega), opn_o (by omega) (by omega), opn_o (by omega) (by omega)]; exact this
  · rw [fr_g f (by omega), g1 _ _ (by omega) (by unfold sz; omega)]; exact (H.2.2 j hj).1.2
  · rw [o _ (by omega) (by omega), o _ (by omega) (by omega), fr_g f (by omega)]; exact hB
theorem RPc_addM {π : pm_T} {v k d l : Nat} {K : Int} {h h' : ah_T} (v24 : 24 ≤ v) (H : RPc π v h) (P : PW π) (hB : h.2.1 (v + 3) (π 0 3).toNat = π 0 4) (hK : K ≠ 256 ∧ K ≠ 123) (h1 : 0 < π 0 1) (hk : π 0 0 = (k : Int)) (hd : π 0 1 = (d : Int)) (hl : π 16 (d - 1) = (l : Int)) (f : fr (fun x j => (x = 9 ∧ (j = 4 ∨ j = 7)) ∨ ((x = 10 ∨ x = 11 ∨ x = 12 ∨ x = 13) ∧ j = k) ∨ (x = 11 ∧ j = l) ∨ (x = 15 ∧ j = d - 1)) h h') (g : h'.2.1 9 4 = (k : Int) + 1 ∧ h'.2.1 10 k = K ∧ h'.2.1 11 k = (k : Int) ∧ h'.2.1 11 l = (k : Int) ∧ h'.2.1 15 (d - 1) = (k : Int) ∧ h'.2.1 9 7 = addM π K 0 1) : RPc (addM π K) v h' ∧ h'.2.1 (v + 3) (addM π K 0 3).toNat = addM π K 0 4 := by
  obtain ⟨p0, p1, p2, p3, p4⟩ := P.1
  have hsz : sz π = k := by unfold sz; omega
  have hdp : dp π = d := by unfold dp; omega
  have hD := P.2.1 (d - 1) (by omega)
  unfold PD at hD
  have el : (π 16 (dp π - 1)).toNat = l := by rw [hdp]; omega
  obtain ⟨z0, z1, v1, v14, l14, l16⟩ := addM_v (π := π) (K := K) (by rw [el, hsz]; omega)
  replace z1 : addM π K 0 1 ≤ π 0 1 := by rw [z1]; split <;> omega
  obtain ⟨g1, g2, g3, g4, g5, g6⟩ := g
  have gf : ∀ (x j : Nat), ¬ ((x = 9 ∧ (j = 4 ∨ j = 7)) ∨ ((x = 10 ∨ x = 11 ∨ x = 12 ∨ x = 13) ∧ j = k) ∨ (x = 11 ∧ j = l) ∨ (x = 15 ∧ j = d - 1)) → h'.2.1 x j = h.2.1 x j := fun x j q => fr_g f q
  have mo : ∀ (a j : Nat), ¬ (a = 0 ∧ (j = 0 ∨ j = 1)) → (j ≠ k ∨ ¬ (a = 1 ∨ a = 2 ∨ a = 3 ∨ a = 14)) → ¬ (a = 14 ∧ j = l) → ¬ (a = 16 ∧ j = d - 1) → addM π K a j = π a j := fun a j q0 q q1 q2 => addM_o q0 (by rw [hsz]; exact q) (by rw [el]; exact q1) (by rw [hdp]; exact q2)
  rw [el] at l14
  clear el p1 p2 p3 p4
  have o : ∀ j, j ≠ 0 → j ≠ 1 → addM π K 0 j = π 0 j := fun j hj hj1 => addM_o (by omega) (by omega) (by omega) (by omega)
  rw [hdp] at l16
  have hlk : l < k := by omega
  have hd0 : 0 < d := by omega
  clear hD h1 p0
  refine ⟨RPc_add H P f ?_ v24 z0 (by rw [z0, g1, hk]) g6 (o _ (by decide) (by decide)) ?_ (o _ (by decide) (by decide)) ?_ ?_ ?_ ⟨⟨by rw [hsz, g2, ← hsz, v1], by rw [v14, hsz, g3, hk]⟩, fun q => absurd (v1.symm.trans q) hK.1, fun q => absurd (v1.symm.trans q) hK.2⟩, ?_⟩
  · rintro a j (⟨rfl, -⟩ | ⟨q, rfl⟩ | ⟨rfl, -⟩ | ⟨rfl, -⟩)
    · exact Or.inr (Or.inl rfl)
    · rw [hsz]
      rcases q with q | q | q | q
      · exact Or.inr (Or.inr (Or.inl ⟨Or.inl q, rfl⟩))
      · exact Or.inr (Or.inr (Or.inr (Or.inl q)))
      · exact Or.inr (Or.inr (Or.inl ⟨Or.inr (Or.inl q), rfl⟩))
      · exact Or.inr (Or.inr (Or.inl ⟨Or.inr (Or.inr q), rfl⟩))
    · exact Or.inr (Or.inr (Or.inr (Or.inl rfl)))
    · exact Or.inr (Or.inr (Or.inr (Or.inr (Or.inr (Or.inl rfl)))))
  · rw [gf _ _ (by omega), o _ (by decide) (by decide)]; exact H.1.2.2.2.1
  · intro d' hd'
    have hd2 : (d' : Int) < π 0 1 := by omega
    obtain ⟨q1, q2⟩ := H.2.1 d' hd2
    have r15 : addM π K 15 d' = π 15 d' := mo _ _ (by omega) (by omega) (by omega) (by omega)
    refine ⟨by rw [gf _ _ (by omega), r15]; exact q1, ?_⟩
    by_cases hc : d' = d - 1
    · have : addM π K 16 d' = π 0 0 := by rw [hc]; exact l16
      rw [this, hc, g5, hk]
    · rw [gf _ _ (by omega), mo _ _ (by omega) (by omega) (by omega) (by omega)]; exact q2
  · intro a j hj q
    rw [hsz] at hj
    exact mo a j (by omega) (by omega) (by omega) (by omega)
  · intro j hj
    by_cases hc : j = l
    · rw [hc, g4, l14, hk]
    · have hjk : j ≠ k := by omega
      rw [gf _ _ (by omega), mo _ _ (by omega) (by omega) (by omega) (by omega)]; exact (H.2.2 j hj).1.2
  · rw [o _ (by decide) (by decide), o _ (by decide) (by decide), gf _ _ (by omega)]; exact hB
