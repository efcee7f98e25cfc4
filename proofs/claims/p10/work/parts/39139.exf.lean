/-! ===== score, and what was found: kept with a fault, forgotten with a score ===== -/
/-- the class's findings are as they were -/
def fkc (h0 h : ah_T) : Prop := (∀ a k, 143 ≤ a → a < 170 → icb a k = true → h.2.1 a k = h0.2.1 a k) ∧ ∀ a k, 143 ≤ a → a < 170 → lcb a k = true → h.2.2.1 a k = h0.2.2.1 a k
/-- how many were found, in the reference -/
def fkL : List Nat := [80, 85, 89, 91, 98, 104, 105]
def fkm (h0 h : ah_T) : Prop := ∀ k, k ∈ fkL → h.2.1 170 k = h0.2.1 170 k
/-- the reference's rules and row are as they were -/
def Rce (a k : Nat) : Prop := ((a = 177 ∨ a = 181) ∧ k = 0) ∨ ((178 ≤ a ∧ a ≤ 180) ∧ k < 24) ∨ (a = 182 ∧ k < 12)
def fkr (h0 h : ah_T) : Prop := ∀ a k, Rce a k → icb a k = true → h.2.1 a k = h0.2.1 a k
def Zer (h : ah_T) : Prop := ∀ k, k ∈ fkL → h.2.1 170 k = 0
def FQf (R : F_T ⊕ pm_T) (h0 h : ah_T) : Prop := match R with
  | .inl _ => fkc h0 h
  | .inr _ => Fgt h
def SDf (s : Nat) (z : Int) (h0 h : ah_T) : Prop := h.2.1 0 1 = 0 ∧ ∃ (T : Nat → Int) (n : Nat), n ≤ 2000 ∧ TRt T n h ∧ (∀ j, j < n → 0 ≤ T j ∧ T j ≤ 255) ∧ ∃ (t : tk_T) (m : Nat) (a b : Nat → Nat), TkA T n t m a b ∧ SRr s (sp_score t) z h ∧ FQf (sp_score t) h0 h
/-- of both, behind both scores: h0 before, h1 between, h behind -/
def FZ (h0 h1 h : ah_T) : Prop := (fkc h0 h ∧ fkm h1 h ∧ fkr h1 h) ∨ (Fgt h ∧ Zer h)
theorem SDf_q {s : Nat} {z : Int} {h0 h : ah_T} (E : SDf s z h0 h) : SDq s z h := by
  obtain ⟨q, T, n, hn, tr, hT, t, m, a, b, TK, SR, -⟩ := E
  exact ⟨q, T, n, hn, tr, hT, t, m, a, b, TK, SR⟩
theorem e_PM_score_f {G : cx_T} {s : Nat} {h : ah_T} (hx : xi s h) (hm : mi h) (E : EX s h) : con G 24 0 0 m_PM_score [av_R (some 0)] h (fun r h' => ∃ z, r = some (av_I z) ∧ ((-2147483648) ≤ z ∧ z ≤ 2147483647) ∧ ∃ s', xi s' h' ∧ h'.2.1 0 1 = 0 ∧ (∀ a, 170 ≤ a → same3 h h' a) ∧ SDf s' z h h') := by
  obtain ⟨⟨T, n, hn, tc, tr⟩, p, μ, C, R⟩ := E
  have hb0 := hb_xm hx hm
  refine con_mono (con_conj (h2 := h) (s_PM_score hx) (t_PM_score hb0 tc.1 hn tc.2)) ?_
  rintro r h' ⟨⟨z, q1, q2, s', hx', q3, f⟩, r2, h2, ⟨z2, s2, q4, hb2, -, q5, t, m, a, b, TK, PS⟩, er, S⟩
  have A : agI h2 h' := agI_of hb2.1 hx'.1 (sh_sym S)
  have L : agL h2 h' := agL_of hb2.1 hx'.1 (sh_sym S)
  obtain rfl : s' = s2 := s_eq hx' hb2 (agR_of hb2.1 hx'.1 (sh_sym S))
  subst q1
  have ez := cv_I er q4
  refine ⟨z, rfl, q2, s', hx', q3, f, q3, T, n, hn, TR_e tr (congrFun (f 170 (by decide)).1 1) (f 171 (by decide)).1, fun j hj => (tc.2 j hj).2, t, m, a, b, TK, ?_⟩
  have R' : SRq μ h' := KS_s2 R (fun a k q1 q2 => ⟨congrFun (f a (by omega)).1 k, congrFun (f a (by omega)).2.1 k⟩)
  revert PS
  generalize sp_score t = Y
  intro PS
  have h04 : h'.2.1 0 4 = h2.2.1 0 4 := A 0 4 (by decide +kernel)
  have hs := hx.2.1
  cases Y with
  | inl q =>
    obtain ⟨rfl, rfl, -, e4, fw⟩ := PS
    have nw : ∀ a k, 143 ≤ a → a < 170 → ¬ (WY s' a k ∨ (a = 0 ∧ (k = 1 ∨ k = 4))) := fun a k q1 q2 w => by
      unfold isS at hs
      rcases w with (w | w) | w <;> omega
    refine ⟨⟨ez, h04.trans e4, μ, ?_, R'⟩, fun a k q1 q2 i => (A a k i).trans (fr_g fw (nw a k q1 q2)), fun a k q1 q2 i => (L a k i).trans (fr_gl fw (nw a k q1 q2))⟩
    refine CKn_ag (by unfold isS at *; omega) (CKn_f C fw (fun a k w => ?_)) A L hx'
    unfold isS at hs
    rcases w with (w | w) | w <;> omega
  | inr ν =>
    obtain ⟨e1, rfl, e4, K, g1, g2, g3, g4, g5, g6, g7⟩ := PS
    refine ⟨⟨ez, h04.trans e4, ?_⟩, (A _ _ (by decide +kernel)).trans g1, (A _ _ (by decide +kernel)).trans g2, (A _ _ (by decide +kernel)).trans g3, (A _ _ (by decide +kernel)).trans g4, (A _ _ (by decide +kernel)).trans g5, (A _ _ (by decide +kernel)).trans g6, (A _ _ (by decide +kernel)).trans g7⟩
    have : 97 - s' = s := by unfold isS at hs; omega
    rw [this]
    exact CKn_ag hs K A L hx'
theorem WSf_z : ∀ k, k ∈ fkL → ¬ WSf 170 k := by
  intro k hk w
  simp only [fkL, List.mem_cons, List.not_mem_nil, or_false] at hk
  rcases w with ((w | w | w | w | w | w) | w | w | w | w | w) | w <;> omega
theorem WSf_r : ∀ a k, Rce a k → ¬ WSf a k := by
  intro a k q w
  unfold Rce at q
  rcases w with ((w | w | w | w | w | w) | w | w | w | w | w) | w <;> omega
theorem e_MD_score_f {G : cx_T} {s : Nat} {z : Int} {h0 h : ah_T} (hx : xi s h) (hm : mi h) (hp : PX h) (hz : (-2147483648) ≤ z ∧ z ≤ 2147483647) (E : SDf s z h0 h) : con G 8 0 0 m_MD_score [av_R (some 170)] h (fun r h' => ∃ w, r = some (av_I w) ∧ ((-2147483648) ≤ w ∧ w ≤ 2147483647) ∧ (h'.2.1 170 1 = 0 ∧ PX h') ∧ kM (pm [1, 2, 3, 4, 5, 6, 7, 8, 9, 10, 11, 12, 13, 43, 59, 60, 61, 63, 64, 65, 66, 70, 71, 72, 73, 74, 75, 76, 77, 78, 80, 85, 89, 91, 98, 104, 105] [172, 173, 174, 175, 176, 177, 178, 179, 180, 181, 182, 183, 184, 185, 186, 187, 188, 189, 190, 191, 192, 193, 194, 195, 196, 197, 198, 199, 200, 201, 202, 203, 204, 205, 206, 207, 208, 209, 210, 211, 212, 213, 214, 215, 216, 217, 218, 219, 220]) h h' ∧ z = w ∧ EX s h' ∧ FZ h0 h h') := by
  have E' := E
  obtain ⟨q0, T, n, hn, tr, hT, t, m, a, b, TK, SR, fq⟩ := E'
  have hb0 := hb_xm hx hm
  refine con_mono (con_conj (h2 := h) (e_MD_score hx hm hp hz (SDf_q E)) (t_MD_score (X := (T, n, t, m, a, b)) hb0 TK tr.1 hn (fun j hj => ⟨tr.2 j hj, hT j hj⟩))) ?_
  rintro r h' ⟨⟨w, q1, q2, q3, kn, ezw, EE⟩, r2, h2, ⟨z2, q4, hb2, -, q5, PS⟩, er, S⟩
  have A : agI h2 h' := agI_of hb2.1 kn.1.1 (sh_sym S)
  have f := kn.2.1
  refine ⟨w, q1, q2, q3, kn, ezw, EE, ?_⟩
  replace PS : PSm (sp_score t) z2 h h2 := PS
  have ic : ∀ k, k ∈ fkL → icb 170 k = true := by decide +kernel
  revert PS fq
  generalize sp_score t = Y
  intro fq PS
  cases Y with
  | inl q =>
    obtain ⟨p1, p2, p3, fw⟩ := PS
    obtain ⟨f1, f2⟩ := fq
    refine Or.inl ⟨⟨fun a k q1 q2 i => (congrFun (f a q2).1 k).trans (f1 a k q1 q2 i), fun a k q1 q2 i => (congrFun (f a q2).2.1 k).trans (f2 a k q1 q2 i)⟩, fun k hk => (A 170 k (ic k hk)).trans (fr_g fw (WSf_z k hk)), fun a k q i => (A a k i).trans (fr_g fw (WSf_r a k q))⟩
  | inr ν =>
    obtain ⟨p1, p2, K, p73, p74, z1, z2, z3, z4, z5, z6, z7⟩ := PS
    have fq : Fgt h := fq
    obtain ⟨g1, g2, g3, g4, g5, g6, g7⟩ := fq
    have cf : ∀ a k, a < 170 → h'.2.1 a k = h.2.1 a k := fun a k q => congrFun (f a q).1 k
    refine Or.inr ⟨⟨by rw [cf _ _ (by decide)]; exact g1, by rw [cf _ _ (by decide)]; exact g2, by rw [cf _ _ (by decide)]; exact g3, by rw [cf _ _ (by decide)]; exact g4, by rw [cf _ _ (by decide)]; exact g5, by rw [cf _ _ (by decide)]; exact g6, by rw [cf _ _ (by decide)]; exact g7⟩, fun k hk => ?_⟩
    rw [A 170 k (ic k hk)]
    simp only [fkL, List.mem_cons, List.not_mem_nil, or_false] at hk
    rcases hk with rfl | rfl | rfl | rfl | rfl | rfl | rfl <;> assumption
