/-! ===== the reference's reader, 3: names, rules, rows ===== -/
def PMm (X : tx_T) (i : Nat) (R : F_T ⊕ (Int × pm_T)) (z : Int) (h h' : ah_T) : Prop := match R with
  | .inl q => z < 0 ∧ h'.2.1 170 11 = q.1 ∧ h'.2.1 170 12 = q.2
  | .inr v => z = v.1 ∧ 0 ≤ v.1 ∧ v.1 ≤ 15 ∧ RMs X i v.2 h'
/-- of a NAME; the token stays -/
theorem t_MD_nameNumber {G : cx_T} {s : Nat} {h : ah_T} {X : tx_T} {i : Nat} {μ : pm_T} (hb0 : hb s h) (H : RMs X i μ h) (hk : tK X.2.2.1 i = 260) : con G 1 0 0 m_MD_nameNumber [av_R (some 170)] h (fun r h' => ∃ z, r = some (av_I z) ∧ hb s h' ∧ fr (fun a k => (a = 170 ∧ (k = 11 ∨ k = 12)) ∨ (a = 183 ∧ k = 1) ∨ (a = 184 ∧ 16 ≤ k)) h h' ∧ PMm X i (sp_name X.2.2.1 i μ) z h h') := by
  have hna := H.2.1.2.2.2.2.2
  have h6 := H.2.1.2.1.2.2.2.1
  have e6 : h.2.1 183 1 = μ 0 6 := H.2.1.1.2.2.2.2.2.1
  have ev := H.1.2.2.2.2.2.2.2.2.1 hk
  have r5 := H.1.2.2.1
  refine c_MD_nameNumber (X2 := fun v1 hh => hh = h ∧ ∃ k : Nat, v1 = (k : Int) ∧ (k : Int) ≤ μ 0 6 ∧ ∀ j, j < k → μ 6 j ≠ tV' X.2.2.1 i) ?_ hb0 ?_
  · refine lp_MD_nameNumber_2 _ (fun v1 _ => (17 - v1).toNat) ?_
    rintro v1 hh hb1 ⟨rfl, k, rfl, k1, k2⟩
    unfold B_MD_nameNumber_2
    intro x2 e2 _ _
    refine ⟨fun c => ?_, fun c => ?_⟩
    · have hk6 : (k : Int) = μ 0 6 := by omega
      have ek : (μ 0 6).toNat = k := by omega
      refine ⟨fun c1 y ey _ _ => ?_, fun c1 => ?_⟩
      · -- too many
        have h0 := H.2.2
        refine c_MD_wrong hb1 (fun _ _ => ?_)
        unfold B_MD_wrong_0 B_MD_wrong_17
        intro w1 we _ _
        refine ⟨fun _ h2 e2 h4 e4 => ⟨0, rfl, hb_i (hb_i hb1 e2) e4, -2, rfl, hb_i (hb_i hb1 e2) e4, fr_i (fr_i fr_0 e2 (Or.inl ⟨rfl, Or.inl rfl⟩)) e4 (Or.inl ⟨rfl, Or.inr rfl⟩), ?_⟩, fun q => absurd (we.trans h0) q⟩
        rw [sp_name, if_pos hk, ek, fnd_no k k2, if_neg (by omega), if_pos (by omega)]
        exact ⟨by decide, by rw [mm_i e4 (by decide), mv_i e2], by rw [mv_i e4, ey, r5]⟩
      · refine ⟨⟨by omega, by omega⟩, fun x9 e9 _ _ => ⟨⟨by omega, by omega⟩, ?_⟩⟩
        rw [show (x2 + 16).toNat = 16 + k by omega]
        intro h11 e11
        refine ⟨⟨by omega, by omega⟩, fun h16 e16 => ⟨⟨by omega, by omega⟩, ?_⟩⟩
        have g16 := fr_i (fr_l (W := fun a k => (a = 170 ∧ (k = 11 ∨ k = 12)) ∨ (a = 183 ∧ k = 1) ∨ (a = 184 ∧ 16 ≤ k)) fr_0 e11 (Or.inr (Or.inr ⟨rfl, by omega⟩))) e16 (Or.inr (Or.inl ⟨rfl, rfl⟩))
        have f16 := fr_i (fr_l (W := fun a k => (a = 183 ∧ k = 1) ∨ a = 184) fr_0 e11 (Or.inr rfl)) e16 (Or.inl ⟨rfl, rfl⟩)
        refine ⟨x2, rfl, hb_i (hb_l hb1 e11) e16, g16, ?_⟩
        rw [sp_name, if_pos hk, ek, fnd_no k k2, if_neg (by omega), if_neg (by omega)]
        refine ⟨by omega, by show 0 ≤ μ 0 6; omega, by show μ 0 6 ≤ 15; omega, RMt_f H.1 f16 (fun a k q => by omega), ?_, (fr_g f16 (by omega)).trans H.2.2⟩
        obtain ⟨⟨a1, a2, a3, a4, a5, a6, a7⟩, ⟨b3, b4, b5, b6, b7⟩, l, ru, ro, na⟩ := H.2.1
        have g : ∀ x j, ¬ (x = 183 ∧ j = 1) → h16.2.1 x j = hh.2.1 x j := fun x j q => (mm_i e16 q).trans (mm_lo e11)
        refine ⟨⟨(g _ _ (by omega)).trans a1, (g _ _ (by omega)).trans a2, (g _ _ (by omega)).trans a3, (g _ _ (by omega)).trans a4, (g _ _ (by omega)).trans a5, ?_, (g _ _ (by omega)).trans a7⟩, ⟨b3, b4, b5, ⟨?_, ?_⟩, b7⟩, fun j hj => (g _ _ (by omega)).trans (l j hj), fun j hj => ?_, fun j hj => (g _ _ (by omega)).trans (ro j hj), fun j hj => ?_⟩
        · rw [mv_i e16]; show x2 + 1 = μ 0 6 + 1; omega
        · show 0 ≤ μ 0 6 + 1; omega
        · show μ 0 6 + 1 ≤ 16; omega
        · rw [g _ _ (by omega), g _ _ (by omega), g _ _ (by omega)]; exact ru j hj
        · have hj : (j : Int) < μ 0 6 + 1 := hj
          show h16.2.2.1 184 (16 + j) = up2 μ 6 k (tV' X.2.2.1 i) 6 j
          rw [mm_io e16]
          by_cases hc : j = k
          · rw [hc, mv_l e11, up2_at, e9, ev]
          · rw [mm_l e11 (by omega), up2_o (fun q => hc q.2)]; exact na j (by omega)
    · refine ⟨⟨by omega, by omega⟩, ⟨by omega, by omega⟩, ?_⟩
      rw [show ((k : Int) + 16).toNat = 16 + k by omega]
      intro x27 e27 _ _ x29 e29 _ _
      have ex : x27 = μ 6 k := e27.trans (hna k (by omega))
      refine ⟨fun c2 => ⟨(k : Int), rfl, hb1, fr_0, ?_⟩, fun c2 => ⟨⟨by omega, by omega⟩, ⟨rfl, k + 1, by omega, by omega, fun j hj => ?_⟩, by omega⟩⟩
      · rw [sp_name, if_pos hk, fnd_at k2 (by rw [← ex, c2, e29, ev]) _ (by omega), if_pos (by omega)]
        exact ⟨rfl, by show 0 ≤ (k : Int); omega, by show (k : Int) ≤ 15; omega, H⟩
      · by_cases hjk : j = k
        · subst hjk; rw [← ex, ← ev, ← e29]; exact c2
        · exact k2 j (by omega)
  · exact ⟨rfl, 0, rfl, by omega, fun j hj => absurd hj (by omega)⟩
abbrev WNN : Nat → Nat → Prop := fun a k => (a = 170 ∧ (k = 11 ∨ k = 12)) ∨ (a = 183 ∧ k = 1) ∨ (a = 184 ∧ 16 ≤ k)
theorem WNN_J : ∀ a k, WNN a k → WJ a k := by
  intro a k q
  rcases q with ⟨q1, q2⟩ | ⟨q1, q2⟩ | ⟨q1, q2⟩
  · exact Or.inl ⟨q1, Or.inl (by omega)⟩
  · exact Or.inr (Or.inl ⟨by omega, q2⟩)
  · exact Or.inr (Or.inr (Or.inr (Or.inr (Or.inr ⟨q1, q2⟩))))
theorem RH_n {μ ν : pm_T} {h : ah_T} (H : RH μ h) (e0 : ν 0 0 = μ 0 0) (e3 : ν 0 3 = μ 0 3) (e5 : ν 0 5 = μ 0 5) : RH ν h := by
  unfold RH at *
  rw [e0, e3, e5]; exact H
theorem t_MD_ruleItem {G : cx_T} {s : Nat} {h : ah_T} {X : tx_T} {i : Nat} {μ : pm_T} (hb0 : hb s h) (hA : XA X) (H : RMs X i μ h) (hR : RH μ h) (hg : gk (tK X.2.2.1 i)) : con G 4 0 0 m_MD_ruleItem [av_R (some 170)] h (QC s X (sp_rule X.2.2.1 i μ) h) := by
  have h4 := H.2.1.2.1.2.1
  have e4 : h.2.1 177 1 = μ 0 4 := H.2.1.1.2.2.2.1
  obtain ⟨n, hn⟩ : ∃ n : Nat, μ 0 4 = (n : Int) := ⟨(μ 0 4).toNat, by omega⟩
  -- what the store of a name in a rule's place leaves
  have sto : ∀ {a : Nat} {j : Nat} {ν : pm_T} {hh h1 : ah_T} {z : Int}, (a = 178 ∨ a = 179 ∨ a = 180) → RMs X j ν hh → ν 0 4 = (n : Int) → h1 = st_i hh a (24 + n) z → RMs X j ν h1 := by
    intro a j ν hh h1 z ha Hj en e1
    have f1 := fr_i (W := fun x k => x = a ∧ k = 24 + n) fr_0 e1 ⟨rfl, rfl⟩
    obtain ⟨⟨a1, a2, a3, a4, a5, a6, a7⟩, b, l, ru, ro, na⟩ := Hj.2.1
    refine ⟨RMt_f Hj.1 f1 (fun x k q => by omega), ?_, (fr_g f1 (by omega)).trans Hj.2.2⟩
    have g : ∀ x k, ¬ (x = a ∧ k = 24 + n) → h1.2.1 x k = hh.2.1 x k := fun x k q => fr_g f1 q
    refine ⟨⟨(g _ _ (by omega)).trans a1, (g _ _ (by omega)).trans a2, (g _ _ (by omega)).trans a3, (g _ _ (by omega)).trans a4, (g _ _ (by omega)).trans a5, (g _ _ (by omega)).trans a6, (g _ _ (by omega)).trans a7⟩, b, fun j hj => (g _ _ (by omega)).trans (l j hj), fun j hj => ?_, fun j hj => (g _ _ (by omega)).trans (ro j hj), fun j hj => (fr_gl f1 (by omega)).trans (na j hj)⟩
    rw [g _ _ (by omega), g _ _ (by omega), g _ _ (by omega)]; exact ru j hj
  have stf : ∀ {a : Nat} {h0 hh h1 : ah_T} {z : Int}, (a = 178 ∨ a = 179 ∨ a = 180) → fr WJ h0 hh → h1 = st_i hh a (24 + n) z → fr WJ h0 h1 := by
    intro a h0 hh h1 z ha f0 e1
    exact fr_i f0 e1 (Or.inr (Or.inr (Or.inr (Or.inl ⟨ha, by omega⟩))))
  have strh : ∀ {a : Nat} {ν : pm_T} {hh h1 : ah_T} {z : Int}, (a = 178 ∨ a = 179 ∨ a = 180) → RH ν hh → h1 = st_i hh a (24 + n) z → RH ν h1 := by
    intro a ν hh h1 z ha R0 e1
    exact RH_f R0 (fr_i (W := fun x _ => x = a) fr_0 e1 rfl) (fun k _ _ q => by omega)
  -- the end of a rule
  have k167 : ∀ (hh : ah_T) (j : Nat) (ν : pm_T) (a b c : Int), hb s hh → fr WJ h hh → RMs X j ν hh → RH ν hh → ν 0 4 = (n : Int) → n < 24 → hh.2.1 178 (24 + n) = a → hh.2.1 179 (24 + n) = b → hh.2.1 180 (24 + n) = nz c → sp_rule X.2.2.1 i μ = bnd (sp_take X.2.2.1 j 59) (fun _ => .inr (j + 1, addr ν a b c)) → B_MD_ruleItem_167 G s hh (QC s X (sp_rule X.2.2.1 i μ) h) := by
    intro hh j ν a b c hb1 hf Hj hRj en hlt ea eb ec es
    unfold B_MD_ruleItem_167
    intro x2 e2 _ _
    have ex : x2 = (n : Int) := by rw [e2, Hj.2.1.1.2.2.2.1]; exact en
    refine ⟨⟨by omega, by omega⟩, fun h1 e1 => ?_⟩
    have g1 := fr_i (W := fun x k => x = 177 ∧ k = 1) fr_0 e1 ⟨rfl, rfl⟩
    have R1 : RSn (addr ν a b c) h1 := by
      obtain ⟨⟨a1, a2, a3, a4, a5, a6, a7⟩, ⟨b3, b4, bb⟩, l, ru, ro, na⟩ := Hj.2.1
      have g : ∀ x k, x ≠ 177 → h1.2.1 x k = hh.2.1 x k := fun x k q => fr_g g1 (fun w => q w.1)
      have en' : (ν 0 4).toNat = n := by omega
      unfold addr
      rw [en']
      refine ⟨⟨(g _ _ (by decide)).trans a1, (g _ _ (by decide)).trans a2, (g _ _ (by decide)).trans a3, ?_, (g _ _ (by decide)).trans a5, (g _ _ (by decide)).trans a6, (g _ _ (by decide)).trans a7⟩, ⟨b3, ⟨?_, ?_⟩, bb⟩, fun j hj => (g _ _ (by decide)).trans (l j hj), fun j hj => ?_, fun j hj => (g _ _ (by decide)).trans (ro j hj), fun j hj => (fr_gl g1 (by omega)).trans (na j hj)⟩
      · rw [mv_i e1]; show x2 + 1 = ν 0 4 + 1; omega
      · show 0 ≤ ν 0 4 + 1; omega
      · show ν 0 4 + 1 ≤ 24; omega
      · have hj : (j : Int) < ν 0 4 + 1 := hj
        rw [g _ _ (by decide), g _ _ (by decide), g _ _ (by decide)]
        show hh.2.1 178 (24 + j) = up2 ν 2 n a 2 j ∧ hh.2.1 179 (24 + j) = up2 ν 3 n b 3 j ∧ hh.2.1 180 (24 + j) = nz (up2 ν 4 n c 4 j)
        by_cases hc : j = n
        · subst hc; rw [up2_at, up2_at, up2_at]; exact ⟨ea, eb, ec⟩
        · rw [up2_o (fun q => hc q.2), up2_o (fun q => hc q.2), up2_o (fun q => hc q.2)]; exact ru j (by omega)
    have H1 : RMs X j (addr ν a b c) h1 := ⟨RMt_f Hj.1 g1 (fun x k q => by omega), R1, (fr_g g1 (by omega)).trans Hj.2.2⟩
    have RH1 : RH (addr ν a b c) h1 := RH_n (RH_f hRj g1 (fun k _ _ q => by omega)) rfl rfl rfl
    refine con_mono (t_MD_want (hb_i hb1 e1) hA H1 RH1 sg_59) ?_
    rintro r h' ⟨z, rfl, hb2, f2, z01, p2⟩
    exact ⟨z, rfl, hb2, z01, z, rfl, hb2, fr_t (fr_i hf e1 (Or.inr (Or.inl ⟨by decide, rfl⟩))) f2 (fun _ _ w => w), z01, by rw [es]; exact p2⟩
  refine c_MD_ruleItem hb0 ?_
  unfold B_MD_ruleItem_0
  intro x2 e2 _ _
  refine ⟨fun c x58 e58 _ _ => ?_, fun c => ⟨⟨by omega, by omega⟩, ?_⟩⟩
  · rw [sp_rule, if_neg (by omega)]
    refine con_mono (t_MD_wrong hb0 H.2.2) ?_
    rintro r h' ⟨z, rfl, hb1, f1, rfl, q1, q2⟩
    exact ⟨0, rfl, hb1, Or.inl rfl, 0, rfl, hb1, f1, Or.inl rfl, rfl, q1, by rw [q2, e58, H.1.2.2.1]⟩
  have hlt : n < 24 := by omega
  have ix : (x2 + 24).toNat = 24 + n := by omega
  rw [ix]
  have ed : sp_rule X.2.2.1 i μ = bnd (sp_name X.2.2.1 (i + 1) μ) fun a => bnd (sp_take X.2.2.1 (i + 2) 61) fun _ => bnd (sp_name X.2.2.1 (i + 3) a.2) fun b => if tK X.2.2.1 (i + 4) = 260 then bnd (sp_name X.2.2.1 (i + 4) b.2) fun c => bnd (sp_take X.2.2.1 (i + 5) 59) fun _ => .inr (i + 6, addr c.2 a.1 b.1 c.1) else bnd (sp_take X.2.2.1 (i + 4) 59) fun _ => .inr (i + 5, addr b.2 a.1 b.1 (-1)) := by
    rw [sp_rule, if_pos (by omega)]
  refine con_mono (t_MD_step hb0 hA H hg) ?_
  rintro r h6 ⟨z8, rfl, hb6, f6, H6, -⟩
  have R6 := RH_M hR f6
  have f06 := fr_w f6 WM_J
  refine ⟨z8, rfl, hb6, fun x9 e9 _ _ => ⟨fun c1 => ?_, fun c1 => ?_⟩⟩
  · have hk1 : tK X.2.2.1 (i + 1) = 260 := ek_2.mp (by rw [← H6.1.2.2.2.1, ← e9]; exact c1)
    refine con_mono (t_MD_nameNumber hb6 H6 hk1) ?_
    rintro r h11 ⟨z13, rfl, hb11, f11, p11⟩
    have R11 : RH μ h11 := RH_f R6 f11 (fun k _ _ q => by omega)
    have f011 := fr_t f06 f11 WNN_J
    refine ⟨z13, rfl, hb11, ⟨by omega, by omega⟩, fun h15 e15 => ?_⟩
    have hb15 := hb_i hb11 e15
    have f015 := stf (Or.inl rfl) f011 e15
    rcases n1 : sp_name X.2.2.1 (i + 1) μ with q | v1
    · rw [n1] at p11 ed
      obtain ⟨z0, q1, q2⟩ := p11
      exact ⟨fun d => by omega, fun _ => ⟨0, rfl, hb15, f015, Or.inl rfl, by rw [ed]; exact ⟨rfl, by rw [mm_i e15 (by omega)]; exact q1, by rw [mm_i e15 (by omega)]; exact q2⟩⟩⟩
    rw [n1] at p11 ed
    obtain ⟨rfl, z0, z1, H11⟩ := p11
    have y1 := sp_name_4 n1
    have en1 : v1.2 0 4 = (n : Int) := by omega
    have H15 := sto (Or.inl rfl) H11 en1 e15
    have R15 : RH v1.2 h15 := RH_n (strh (Or.inl rfl) R11 e15) y1.2.2.2.2 y1.2.2.1 y1.2.1
    have a15 : h15.2.1 178 (24 + n) = v1.1 := mv_i e15
    dsimp only [bnd] at ed
    refine ⟨fun _ => ?_, fun d => absurd z0 d⟩
    refine con_mono (t_MD_step hb15 hA H15 (gk_of hk1 (by decide) (by decide))) ?_
    rintro r h19 ⟨z21, rfl, hb19, f19, H19, -⟩
    have f019 := fr_t f015 f19 WM_J
    have a19 : h19.2.1 178 (24 + n) = v1.1 := (fr_g f19 (by omega)).trans a15
    refine ⟨z21, rfl, hb19, ?_⟩
    refine con_mono (t_MD_wantk hb19 hA H19 (RH_M R15 f19) sg_61) ?_
    rintro r h22 ⟨z24, rfl, hb22, f22, -, p22⟩
    have f022 := fr_t f019 f22 WK_J
    rcases t1 : sp_take X.2.2.1 (i + 2) 61 with q | u
    · rw [show i + 1 + 1 = i + 2 from rfl, t1] at p22; rw [t1] at ed
      obtain ⟨rfl, p22⟩ := p22
      exact ⟨0, rfl, hb22, fun _ => ⟨0, rfl, hb22, f022, Or.inl rfl, by rw [ed]; exact ⟨rfl, p22⟩⟩, fun d => absurd rfl d⟩
    rw [show i + 1 + 1 = i + 2 from rfl, t1] at p22; rw [t1] at ed
    obtain ⟨rfl, H22', R22⟩ := p22
    have H22 : RMs X (i + 3) v1.2 h22 := H22'
    have a22 : h22.2.1 178 (24 + n) = v1.1 := (fr_g f22 (by omega)).trans a19
    dsimp only at ed
    refine ⟨1, rfl, hb22, fun d => absurd d (by decide), fun _ x25 e25 _ _ => ⟨fun c2 => ?_, fun c2 => ?_⟩⟩
    · have hk3 : tK X.2.2.1 (i + 3) = 260 := ek_2.mp (by rw [← H22.1.2.2.2.1, ← e25]; exact c2)
      refine con_mono (t_MD_nameNumber hb22 H22 hk3) ?_
      rintro r h27 ⟨z29, rfl, hb27, f27, p27⟩
      have R27 : RH v1.2 h27 := RH_f R22 f27 (fun k _ _ q => by omega)
      have f027 := fr_t f022 f27 WNN_J
      have a27 : h27.2.1 178 (24 + n) = v1.1 := (fr_g f27 (by omega)).trans a22
      refine ⟨z29, rfl, hb27, fun h30 e30 => ?_⟩
      have hb30 := hb_i hb27 e30
      have f030 := stf (Or.inr (Or.inl rfl)) f027 e30
      rcases n2 : sp_name X.2.2.1 (i + 3) v1.2 with q | v2
      · rw [n2] at p27 ed
        obtain ⟨z0, q1, q2⟩ := p27
        exact ⟨fun d => by omega, fun _ => ⟨0, rfl, hb30, f030, Or.inl rfl, by rw [ed]; exact ⟨rfl, by rw [mm_i e30 (by omega)]; exact q1, by rw [mm_i e30 (by omega)]; exact q2⟩⟩⟩
      rw [n2] at p27 ed
      obtain ⟨rfl, w0, w1, H27⟩ := p27
      have y2 := sp_name_4 n2
      have en2 : v2.2 0 4 = (n : Int) := by omega
      have H30 := sto (Or.inr (Or.inl rfl)) H27 en2 e30
      have R30 : RH v2.2 h30 := RH_n (strh (Or.inr (Or.inl rfl)) R27 e30) y2.2.2.2.2 y2.2.2.1 y2.2.1
      have a30 : h30.2.1 178 (24 + n) = v1.1 := (mm_i e30 (by omega)).trans a27
      have b30 : h30.2.1 179 (24 + n) = v2.1 := mv_i e30
      dsimp only at ed
      refine ⟨fun _ h35 e35 => ?_, fun d => absurd w0 d⟩
      have hb35 := hb_i hb30 e35
      have f035 := stf (Or.inr (Or.inr rfl)) f030 e35
      have H35 := sto (Or.inr (Or.inr rfl)) H30 en2 e35
      have R35 := strh (Or.inr (Or.inr rfl)) R30 e35
      have a35 : h35.2.1 178 (24 + n) = v1.1 := (mm_i e35 (by omega)).trans a30
      have b35 : h35.2.1 179 (24 + n) = v2.1 := (mm_i e35 (by omega)).trans b30
      have c35 : h35.2.1 180 (24 + n) = -2 := mv_i e35
      refine con_mono (t_MD_step hb35 hA H35 (gk_of hk3 (by decide) (by decide))) ?_
      rintro r h37 ⟨z39, rfl, hb37, f37, H37', -⟩
      have H37 : RMs X (i + 4) v2.2 h37 := H37'
      have f037 := fr_t f035 f37 WM_J
      have R37 := RH_M R35 f37
      have a37 : h37.2.1 178 (24 + n) = v1.1 := (fr_g f37 (by omega)).trans a35
      have b37 : h37.2.1 179 (24 + n) = v2.1 := (fr_g f37 (by omega)).trans b35
      have c37 : h37.2.1 180 (24 + n) = -2 := (fr_g f37 (by omega)).trans c35
      refine ⟨z39, rfl, hb37, fun x40 e40 _ _ => ⟨fun c3 => ?_, fun c3 => ?_⟩⟩
      · have hk4 : tK X.2.2.1 (i + 4) = 260 := ek_2.mp (by rw [← H37.1.2.2.2.1, ← e40]; exact c3)
        rw [if_pos hk4] at ed
        refine con_mono (t_MD_nameNumber hb37 H37 hk4) ?_
        rintro r h42 ⟨z44, rfl, hb42, f42, p42⟩
        have R42 : RH v2.2 h42 := RH_f R37 f42 (fun k _ _ q => by omega)
        have f042 := fr_t f037 f42 WNN_J
        refine ⟨z44, rfl, hb42, fun h45 e45 => ?_⟩
        have hb45 := hb_i hb42 e45
        have f045 := stf (Or.inr (Or.inr rfl)) f042 e45
        rcases n3 : sp_name X.2.2.1 (i + 4) v2.2 with q | v3
        · rw [n3] at p42 ed
          obtain ⟨u0, q1, q2⟩ := p42
          exact ⟨fun d => by omega, fun _ => ⟨0, rfl, hb45, f045, Or.inl rfl, by rw [ed]; exact ⟨rfl, by rw [mm_i e45 (by omega)]; exact q1, by rw [mm_i e45 (by omega)]; exact q2⟩⟩⟩
        rw [n3] at p42 ed
        obtain ⟨rfl, u0, u1, H42⟩ := p42
        have y3 := sp_name_4 n3
        have en3 : v3.2 0 4 = (n : Int) := by omega
        have H45 := sto (Or.inr (Or.inr rfl)) H42 en3 e45
        have R45 : RH v3.2 h45 := RH_n (strh (Or.inr (Or.inr rfl)) R42 e45) y3.2.2.2.2 y3.2.2.1 y3.2.1
        have a45 : h45.2.1 178 (24 + n) = v1.1 := (mm_i e45 (by omega)).trans ((fr_g f42 (by omega)).trans a37)
        have b45 : h45.2.1 179 (24 + n) = v2.1 := (mm_i e45 (by omega)).trans ((fr_g f42 (by omega)).trans b37)
        have c45 : h45.2.1 180 (24 + n) = v3.1 := mv_i e45
        refine ⟨fun _ => ?_, fun d => absurd u0 d⟩
        refine con_mono (t_MD_step hb45 hA H45 (gk_of hk4 (by decide) (by decide))) ?_
        rintro r h49 ⟨z51, rfl, hb49, f49, H49, -⟩
        refine ⟨z51, rfl, hb49, ?_⟩
        exact k167 h49 (i + 5) v3.2 v1.1 v2.1 v3.1 hb49 (fr_t f045 f49 WM_J) H49 (RH_M R45 f49) en3 hlt ((fr_g f49 (by omega)).trans a45) ((fr_g f49 (by omega)).trans b45) (by rw [fr_g f49 (by omega), c45]; unfold nz; rw [if_neg (by omega)]) (by rw [ed]; rfl)
      · have hk4 : ¬ tK X.2.2.1 (i + 4) = 260 := fun w => c3 (by rw [e40, H37.1.2.2.2.1]; exact ek_2.mpr w)
        rw [if_neg hk4] at ed
        exact k167 h37 (i + 4) v2.2 v1.1 v2.1 (-1) hb37 f037 H37 R37 en2 hlt a37 b37 (c37.trans rfl) (by rw [ed]; rfl)
    · have hk3 : ¬ tK X.2.2.1 (i + 3) = 260 := fun w => c2 (by rw [e25, H22.1.2.2.2.1]; exact ek_2.mpr w)
      have n2 : sp_name X.2.2.1 (i + 3) v1.2 = .inl (cn X.2.2.1 (i + 3)) := by rw [sp_name, if_neg hk3]
      rw [n2] at ed
      refine con_mono (t_MD_cant hb22 H22) ?_
      rintro r h' ⟨z, rfl, hb5, f5, rfl, q1, q2⟩
      exact ⟨0, rfl, hb5, Or.inl rfl, 0, rfl, hb5, fr_t f022 f5 (fun _ _ w => w), Or.inl rfl, by rw [ed]; exact ⟨rfl, q1, q2⟩⟩
  · have hk1 : ¬ tK X.2.2.1 (i + 1) = 260 := fun w => c1 (by rw [e9, H6.1.2.2.2.1]; exact ek_2.mpr w)
    have n1 : sp_name X.2.2.1 (i + 1) μ = .inl (cn X.2.2.1 (i + 1)) := by rw [sp_name, if_neg hk1]
    rw [n1] at ed
    refine con_mono (t_MD_cant hb6 H6) ?_
    rintro r h' ⟨z, rfl, hb5, f5, rfl, q1, q2⟩
    exact ⟨0, rfl, hb5, Or.inl rfl, 0, rfl, hb5, fr_t f06 f5 (fun _ _ w => w), Or.inl rfl, by rw [ed]; exact ⟨rfl, q1, q2⟩⟩
theorem t_MD_rowItem {G : cx_T} {s : Nat} {h : ah_T} {X : tx_T} {i : Nat} {μ : pm_T} (hb0 : hb s h) (hA : XA X) (H : RMs X i μ h) (hR : RH μ h) (hg : gk (tK X.2.2.1 i)) : con G 3 0 0 m_MD_rowItem [av_R (some 170)] h (QC s X (sp_row X.2.2.1 i μ) h) := by
  let I : ah_T → Prop := fun hh => fr WJ h hh ∧ ∃ (j : Nat) (ν : pm_T) (f : Nat), RMs X j ν hh ∧ (hh.2.1 170 59 = ν 0 0 ∧ (hh.2.1 170 60 = 0 ↔ ν 0 3 ≤ 0) ∧ hh.2.1 170 61 ≠ 0) ∧ (f : Int) = 14 - ν 0 5 ∧ sp_row X.2.2.1 i μ = sp_rows X.2.2.1 f j ν
  refine c_MD_rowItem (X27 := I) ?_ hb0 ?_
  · refine lp_MD_rowItem_27 _ (fun hh => (14 - hh.2.1 181 1).toNat) ?_
    rintro hh hb1 ⟨hf, j, ν, f, Hj, ⟨k59, k60, k61⟩, ef, es⟩
    have n4 := Hj.1.2.2.2.1
    have r5 := Hj.1.2.2.1
    have e5 : hh.2.1 181 1 = ν 0 5 := Hj.2.1.1.2.2.2.2.1
    have hb8 := Hj.2.1.2.1.2.2.1
    obtain ⟨f', rfl⟩ : ∃ f', f = f' + 1 := ⟨f - 1, by omega⟩
    rw [sp_rows] at es
    unfold B_MD_rowItem_27
    intro x1 e1 _ _
    refine ⟨fun c x3 ex3 _ _ => ⟨fun c1 y ey _ _ => ?_, fun c1 => ?_⟩, fun c => ?_⟩
    · have hk : tK X.2.2.1 j = 260 := ek_2.mp (by rw [← n4, ← e1]; exact c)
      rw [if_pos hk, if_neg (by omega)] at es
      refine con_mono (t_MD_wrong hb1 Hj.2.2) ?_
      rintro r h' ⟨z, rfl, hb5, f5, rfl, q1, q2⟩
      exact ⟨0, rfl, hb5, Or.inl rfl, 0, rfl, hb5, fr_t hf f5 (fun _ _ w => w), Or.inl rfl, by rw [es]; exact ⟨rfl, q1, by rw [q2, ey, r5]⟩⟩
    · have hk : tK X.2.2.1 j = 260 := ek_2.mp (by rw [← n4, ← e1]; exact c)
      rw [if_pos hk, if_pos (by omega)] at es
      refine con_mono (t_MD_nameNumber hb1 Hj hk) ?_
      rintro r h4 ⟨z6, rfl, hb4, f4, p4⟩
      have f04 := fr_t hf f4 WNN_J
      rcases n1 : sp_name X.2.2.1 j ν with q | v
      · rw [n1] at p4 es
        obtain ⟨z0, p4⟩ := p4
        exact ⟨z6, rfl, hb4, fun d => by omega, fun _ => ⟨0, rfl, hb4, f04, Or.inl rfl, by rw [es]; exact ⟨rfl, p4⟩⟩⟩
      rw [n1] at p4 es
      obtain ⟨rfl, z0, z1, H4⟩ := p4
      have y1 := sp_name_4 n1
      dsimp only [bnd] at es
      have e54 : h4.2.1 181 1 = v.2 0 5 := H4.2.1.1.2.2.2.2.1
      refine ⟨v.1, rfl, hb4, fun _ x9 e9 _ _ => ⟨⟨by omega, by omega⟩, ⟨by omega, by omega⟩, ?_⟩, fun d => absurd z0 d⟩
      have ix : (x9 + 12).toNat = 12 + (v.2 0 5).toNat := by omega
      rw [ix]
      intro h12 e12
      refine ⟨⟨by omega, by omega⟩, fun h17 e17 => ?_⟩
      have hb17 := hb_i (hb_i hb4 e12) e17
      have f17 := fr_i (fr_i f04 e12 (Or.inr (Or.inr (Or.inr (Or.inr (Or.inl ⟨rfl, by omega⟩)))))) e17 (Or.inr (Or.inl ⟨by decide, rfl⟩))
      have g17 := fr_i (fr_i (W := fun a k => a = 182 ∨ (a = 181 ∧ k = 1)) fr_0 e12 (Or.inl rfl)) e17 (Or.inr ⟨rfl, rfl⟩)
      have R17 : RSn (rowa v.2 v.1) h17 := by
        obtain ⟨⟨a1, a2, a3, a4, a5, a6, a7⟩, ⟨b3, b4, b5, b⟩, l, ru, ro, na⟩ := H4.2.1
        have g : ∀ a k, a ≠ 182 → a ≠ 181 → h17.2.1 a k = h4.2.1 a k := fun a k q1 q2 => fr_g g17 (by omega)
        unfold rowa
        refine ⟨⟨(g _ _ (by decide) (by decide)).trans a1, (g _ _ (by decide) (by decide)).trans a2, (g _ _ (by decide) (by decide)).trans a3, (g _ _ (by decide) (by decide)).trans a4, ?_, (g _ _ (by decide) (by decide)).trans a6, (g _ _ (by decide) (by decide)).trans a7⟩, ⟨b3, b4, ⟨?_, ?_⟩, b⟩, fun j hj => (g _ _ (by decide) (by decide)).trans (l j hj), fun j hj => ?_, fun j hj => ?_, fun j hj => (fr_gl g17 (by omega)).trans (na j hj)⟩
        · rw [mv_i e17]; show x9 + 1 = v.2 0 5 + 1; omega
        · show 0 ≤ v.2 0 5 + 1; omega
        · show v.2 0 5 + 1 ≤ 12; omega
        · rw [g _ _ (by decide) (by decide), g _ _ (by decide) (by decide), g _ _ (by decide) (by decide)]; exact ru j hj
        · have hj : (j : Int) < v.2 0 5 + 1 := hj
          show h17.2.1 182 (12 + j) = up2 v.2 5 (v.2 0 5).toNat v.1 5 j
          rw [mm_i e17 (by omega)]
          by_cases hc : j = (v.2 0 5).toNat
          · rw [hc, mv_i e12, up2_at]
          · rw [mm_i e12 (by omega), up2_o (fun q => hc q.2)]; exact ro j (by omega)
      have H17 : RMs X j (rowa v.2 v.1) h17 := ⟨RMt_f H4.1 g17 (fun a k q => by omega), R17, (fr_g g17 (by omega)).trans H4.2.2⟩
      refine con_mono (t_MD_step hb17 hA H17 (gk_of hk (by decide) (by decide))) ?_
      rintro r h19 ⟨z21, rfl, hb19, f19, H19, -⟩
      have f019 := fr_t f17 f19 WM_J
      have y59 : h19.2.1 170 59 = v.2 0 0 := by rw [fr_g f19 (by omega), fr_g g17 (by omega), fr_g f4 (by omega), k59, y1.2.2.2.2]
      have y60 : h19.2.1 170 60 = 0 ↔ v.2 0 3 ≤ 0 := by rw [fr_g f19 (by omega), fr_g g17 (by omega), fr_g f4 (by omega), y1.2.2.1]; exact k60
      have y61 : h19.2.1 170 61 ≠ 0 := by rw [fr_g f19 (by omega), fr_g g17 (by omega), fr_g f4 (by omega)]; exact k61
      have e181 : h19.2.1 181 1 = x9 + 1 := by rw [fr_g f19 (by omega), mv_i e17]
      refine ⟨z21, rfl, hb19, ?_⟩
      refine con_mono (t_MD_isSign hb19 hA H19 sg_59) ?_
      rintro r h22 ⟨z24, rfl, hb22, rfl, -, z02⟩
      refine ⟨z24, rfl, hb22, fun d => ⟨⟨f019, j + 1, rowa v.2 v.1, f', H19, ⟨y59, y60, y61⟩, ?_, ?_⟩, by omega⟩, fun d => ?_⟩
      · show (f' : Int) = 14 - (v.2 0 5 + 1); omega
      · rw [es, if_neg (z02.mp d)]
      · have hk9 : tK X.2.2.1 (j + 1) = 59 := Classical.not_not.mp (fun w => d (z02.mpr w))
        rw [if_pos hk9] at es
        refine con_mono (t_MD_step hb22 hA H19 (gk_s hk9 sg_59)) ?_
        rintro r h' ⟨z, rfl, hb5, f5, H5, rfl⟩
        refine ⟨1, rfl, hb5, Or.inr rfl, 1, rfl, hb5, fr_t f019 f5 WM_J, Or.inr rfl, ?_⟩
        rw [es]
        refine ⟨rfl, H5, ?_, ?_, ?_⟩
        · rw [fr_g f5 (by omega)]; exact y59
        · rw [fr_g f5 (by omega)]; exact y60
        · rw [fr_g f5 (by omega)]
          exact ⟨fun w => absurd w y61, fun w => by
            have w : v.2 0 5 + 1 ≤ 0 := w
            omega⟩
    · have hk : ¬ tK X.2.2.1 j = 260 := fun w => c (by rw [e1, n4]; exact ek_2.mpr w)
      rw [if_neg hk] at es
      refine con_mono (t_MD_cant hb1 Hj) ?_
      rintro r h' ⟨z, rfl, hb5, f5, rfl, q1, q2⟩
      exact ⟨0, rfl, hb5, Or.inl rfl, 0, rfl, hb5, fr_t hf f5 (fun _ _ w => w), Or.inl rfl, by rw [es]; exact ⟨rfl, q1, q2⟩⟩
  · unfold B_MD_rowItem_0
    intro x1 e1 _
    have h61 := hR.2.2
    refine ⟨fun c h2 e2 => ?_, fun c x7 e7 _ _ => ?_⟩
    · have hb2 := hb_i hb0 e2
      have f2 := fr_i (W := WJ) fr_0 e2 (Or.inl ⟨rfl, Or.inr (by decide)⟩)
      have g2 := fr_i (W := fun a k => a = 170 ∧ k = 61) fr_0 e2 ⟨rfl, rfl⟩
      have H2 := RMs_f H g2 (fun a k q => by omega) (RSn_f H.2.1 g2 (fun a k q => by omega))
      refine con_mono (t_MD_step hb2 hA H2 hg) ?_
      rintro r h4 ⟨z6, rfl, hb4, f4, H4, -⟩
      have h5 : μ 0 5 ≤ 0 := h61.mp (by omega)
      have h50 := H.2.1.2.1.2.2.1
      refine ⟨z6, rfl, hb4, fr_t f2 f4 WM_J, i + 1, μ, 14, H4, ⟨?_, ?_, ?_⟩, by omega, ?_⟩
      · rw [fr_g f4 (by omega), mm_i e2 (by decide)]; exact hR.1
      · rw [fr_g f4 (by omega), mm_i e2 (by decide)]; exact hR.2.1
      · rw [fr_g f4 (by omega), mv_i e2]; decide
      · rw [sp_row, if_pos h5]
    · have h5 : ¬ μ 0 5 ≤ 0 := fun w => c (by have := h61.mpr w; omega)
      rw [sp_row, if_neg h5]
      refine con_mono (t_MD_wrong hb0 H.2.2) ?_
      rintro r h' ⟨z, rfl, hb1, f1, rfl, q1, q2⟩
      exact ⟨0, rfl, hb1, Or.inl rfl, 0, rfl, hb1, f1, Or.inl rfl, rfl, q1, by rw [q2, e7, H.1.2.2.1]⟩
