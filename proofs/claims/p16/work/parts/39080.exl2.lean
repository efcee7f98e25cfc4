/-! ===== feed, cut and score of both, one after the other ===== -/
theorem e_MD_feed {G : cx_T} {s : Nat} {h : ah_T} {a b c d e : Int} (hx : xi s h) (hm : mi h) (E : FDq s a b c d e h) : con G 1 0 0 m_MD_feed [av_R (some 170), av_I a, av_I b, av_I c, av_I d, av_I e] h (fun r h' => ∃ z, r = some (av_I z) ∧ ((-3) ≤ z ∧ z ≤ 2000) ∧ ((h.2.1 170 1 ≤ 1980 → z = h.2.1 170 1 + 20 ∧ h'.2.1 170 1 = h.2.1 170 1 + 20) ∧ (1980 < h.2.1 170 1 → z = -3 ∧ h'.2.1 170 1 = h.2.1 170 1)) ∧ kM (pm [1] [171]) h h' ∧ EX s h') := by
  obtain ⟨⟨T, n, hn, tr, tc⟩, p, μ, C, R⟩ := E
  have hb0 := hb_xm hx hm
  refine con_mono (con_conj (h2 := h) (s_MD_feed hm) (t_MD_feed hb0 tr.1 hn)) ?_
  rintro r h' ⟨⟨z, q1, q2, q3, kn⟩, r2, h2, ⟨hb2, q⟩, -, S⟩
  have A : agI h2 h' := agI_of hb2.1 kn.1.1 (sh_sym S)
  have kn' := kn
  obtain ⟨-, f, k1, k2⟩ := kn'
  have hP : ∀ a k, 172 ≤ a → pm [1] [171] a k = false := by
    intro a k q1
    have n1 : (a == 170) = false := by simp; omega
    have n2 : [171].contains a = false := by simp; omega
    unfold pm
    rw [n1, n2]
    rfl
  refine ⟨z, q1, q2, q3, kn, ?_, ?_, μ, CK_s hx.2.1 C (fun a q1 q2 => f a (by omega)), KS_s2 R (fun a k q1 q2 => ⟨k1 a k (hP a k q1), k2 a k (hP a k q1)⟩)⟩
  · have tc' : ∀ {m : Nat}, TCt T m h → TCt T m h' := fun H => TC_e H (congrFun (f 0 (by decide)).1 1) (f 1 (by decide)).1
    rcases q with ⟨w1, -, w3, w4, w5⟩ | ⟨w1, -, rfl⟩
    · rcases tc with ⟨v1, v2, v3⟩ | ⟨v1, v2⟩
      · refine ⟨T, n + 20, v1, tc' v2, TR_ag v1 ⟨by rw [w4]; omega, fun j hj => ?_⟩ A⟩
        by_cases c : j < n
        · rw [fr_g w3 (by omega)]
          exact tr.2 j c
        · have e1 := w5 (j - n) (by omega)
          have e2 := v3 (j - n) (by omega)
          rw [show n + (j - n) = j by omega] at e1 e2
          rw [e1, e2]
      · exact absurd w1 v1
    · rcases tc with ⟨v1, v2, v3⟩ | ⟨v1, v2⟩
      · exact absurd v1 w1
      · exact ⟨T, n, hn, tc' v2, TR_ag hn tr A⟩
  · rw [(f 0 (by decide)).1, k1 170 13 rfl]
    exact p
/-- between the two cuts -/
def CTq (s : Nat) (a : Int) (h : ah_T) : Prop := (∃ (T : Nat → Int) (n m : Nat), n ≤ 2000 ∧ m ≤ n ∧ TRt T n h ∧ TCt T m h ∧ ((0 ≤ a ∧ a ≤ n ∧ (m : Int) = n - a) ∨ (¬ (0 ≤ a ∧ a ≤ n) ∧ m = n))) ∧ h.2.1 0 4 = h.2.1 170 13 ∧ SCq s h
theorem e_PM_cut {G : cx_T} {s : Nat} {h : ah_T} {a : Int} (hx : xi s h) (hm : mi h) (E : EX s h) : con G 0 0 0 m_PM_cut [av_R (some 0), av_I a] h (fun r h' => ∃ z, r = some (av_I z) ∧ ((-1) ≤ z ∧ z ≤ 2000) ∧ ((a < 0 ∨ h.2.1 0 1 < a → z = -1 ∧ h'.2.1 0 1 = h.2.1 0 1) ∧ (0 ≤ a → a ≤ h.2.1 0 1 → z = h.2.1 0 1 - a ∧ h'.2.1 0 1 = h.2.1 0 1 - a)) ∧ kF FA s h h' ∧ CTq s a h') := by
  obtain ⟨⟨T, n, hn, tc, tr⟩, p, μ, C, R⟩ := E
  have hb0 := hb_xm hx hm
  refine con_mono (con_conj (h2 := h) (s_PM_cut hx) (t_PM_cut hb0 tc.1 hn)) ?_
  rintro r h' ⟨⟨z, q1, q2, q3, kf⟩, r2, h2, ⟨hb2, q⟩, -, S⟩
  have A : agI h2 h' := agI_of hb2.1 kf.1.1 (sh_sym S)
  refine ⟨z, q1, q2, q3, kf, ?_, ?_, μ, CK_s hx.2.1 C (fun a q1 q2 => kf.2 a (Or.inl ⟨q1, q2⟩)), KS_s2 R (fun a k q1 q2 => ⟨congrFun (kf.2 a (Or.inr (by omega))).1 k, congrFun (kf.2 a (Or.inr (by omega))).2.1 k⟩)⟩
  · have tr' : TRt T n h' := TR_e tr (congrFun (kf.2 170 (Or.inr (by decide))).1 1) (kf.2 171 (Or.inr (by decide))).1
    rcases q with ⟨w1, w2, -, w3, w4⟩ | ⟨w1, -, rfl⟩
    · refine ⟨T, n, (n - a).toNat, hn, by omega, tr', TC_ag (by omega) ⟨by rw [w4]; omega, fun j hj => ?_⟩ A, Or.inl ⟨w1, w2, by omega⟩⟩
      rw [fr_g w3 (by omega)]
      exact tc.2 j (by omega)
    · exact ⟨T, n, n, hn, Nat.le_refl _, tr', TC_ag hn tc A, Or.inr ⟨w1, rfl⟩⟩
  · rw [A 0 4 (by decide +kernel), (kf.2 170 (Or.inr (by decide))).1, ← p]
    rcases q with ⟨w1, w2, -, w3, w4⟩ | ⟨w1, -, rfl⟩
    · exact fr_g w3 (by omega)
    · rfl
theorem e_MD_cut {G : cx_T} {s : Nat} {h : ah_T} {a : Int} (hx : xi s h) (hm : mi h) (E : CTq s a h) : con G 0 0 0 m_MD_cut [av_R (some 170), av_I a] h (fun r h' => ∃ z, r = some (av_I z) ∧ ((-1) ≤ z ∧ z ≤ 2000) ∧ ((a < 0 ∨ h.2.1 170 1 < a → z = -1 ∧ h'.2.1 170 1 = h.2.1 170 1) ∧ (0 ≤ a → a ≤ h.2.1 170 1 → z = h.2.1 170 1 - a ∧ h'.2.1 170 1 = h.2.1 170 1 - a)) ∧ kM (pm [1] []) h h' ∧ EX s h') := by
  obtain ⟨⟨T, n, m, hn, hmn, tr, tc, ca⟩, p, μ, C, R⟩ := E
  have hb0 := hb_xm hx hm
  refine con_mono (con_conj (h2 := h) (s_MD_cut hm) (t_MD_cut hb0 tr.1 hn)) ?_
  rintro r h' ⟨⟨z, q1, q2, q3, kn⟩, r2, h2, ⟨hb2, q⟩, -, S⟩
  have A : agI h2 h' := agI_of hb2.1 kn.1.1 (sh_sym S)
  have kn' := kn
  obtain ⟨-, f, k1, k2⟩ := kn'
  have hP : ∀ a k, 171 ≤ a → pm [1] [] a k = false := by
    intro a k q1
    have n1 : (a == 170) = false := by simp; omega
    unfold pm
    rw [n1]
    rfl
  refine ⟨z, q1, q2, q3, kn, ?_, ?_, μ, CK_s hx.2.1 C (fun a q1 q2 => f a (by omega)), KS_s2 R (fun a k q1 q2 => ⟨k1 a k (hP a k (by omega)), k2 a k (hP a k (by omega))⟩)⟩
  · have tc' : TCt T m h' := TC_e tc (congrFun (f 0 (by decide)).1 1) (f 1 (by decide)).1
    refine ⟨T, m, by omega, tc', TR_ag (by omega) ⟨?_, fun j hj => ?_⟩ A⟩
    · rcases q with ⟨w1, w2, -, w3, w4⟩ | ⟨w1, -, rfl⟩
      · rw [w4]; omega
      · rw [tr.1]; omega
    · rcases q with ⟨w1, w2, -, w3, w4⟩ | ⟨w1, -, rfl⟩
      · rw [fr_g w3 (by omega)]
        exact tr.2 j (by omega)
      · exact tr.2 j (by omega)
  · rw [(f 0 (by decide)).1, k1 170 13 rfl]
    exact p
/-- between the two scores -/
def SRr (s : Nat) (R : F_T ⊕ pm_T) (z : Int) (h : ah_T) : Prop := match R with
  | .inl q => Int32.ofInt z = Int32.ofInt (-10 - q.1) ∧ h.2.1 0 4 = q.2 ∧ SCq s h
  | .inr μ => Int32.ofInt z = Int32.ofInt (evs μ (μ 0 7).toNat) ∧ h.2.1 0 4 = -2 ∧ CKn μ (97 - s) h
def SDq (s : Nat) (z : Int) (h : ah_T) : Prop := h.2.1 0 1 = 0 ∧ ∃ (T : Nat → Int) (n : Nat), n ≤ 2000 ∧ TRt T n h ∧ (∀ j, j < n → 0 ≤ T j ∧ T j ≤ 255) ∧ ∃ (t : tk_T) (m : Nat) (a b : Nat → Nat), TkA T n t m a b ∧ SRr s (sp_score t) z h
theorem cv_I {G : cx_T} {z w : Int} {r : Option av_T} (e : r.map (cv G) = (some (av_I z)).map (cv G)) (hr : r = some (av_I w)) : Int32.ofInt z = Int32.ofInt w := by
  subst hr
  have e1 : some (Value.int (Int32.ofInt w)) = some (Value.int (Int32.ofInt z)) := e
  injection e1 with e2
  injection e2 with e3
  exact e3.symm
theorem e_PM_score {G : cx_T} {s : Nat} {h : ah_T} (hx : xi s h) (hm : mi h) (E : EX s h) : con G 24 0 0 m_PM_score [av_R (some 0)] h (fun r h' => ∃ z, r = some (av_I z) ∧ ((-2147483648) ≤ z ∧ z ≤ 2147483647) ∧ ∃ s', xi s' h' ∧ h'.2.1 0 1 = 0 ∧ (∀ a, 170 ≤ a → same3 h h' a) ∧ SDq s' z h') := by
  obtain ⟨⟨T, n, hn, tc, tr⟩, p, μ, C, R⟩ := E
  have hb0 := hb_xm hx hm
  refine con_mono (con_conj (h2 := h) (s_PM_score hx) (t_PM_score hb0 tc.1 hn tc.2)) ?_
  rintro r h' ⟨⟨z, q1, q2, s', hx', q3, f⟩, r2, h2, ⟨z2, s2, q4, hb2, -, q5, t, m, a, b, TK, PS⟩, er, S⟩
  have A : agI h2 h' := agI_of hb2.1 hx'.1 (sh_sym S)
  have L : agL h2 h' := agL_of hb2.1 hx'.1 (sh_sym S)
  obtain rfl : s' = s2 := s_eq hx' hb2 (agR_of hb2.1 hx'.1 (sh_sym S))
  subst q1
  have ez := cv_I er q4
  refine ⟨z, rfl, q2, s', hx', q3, f, q3, T, n, hn, TR_e tr (congrFun (f 170 (by decide)).1 1) (f 171 (by decide)).1, fun j hj => (tc.2 j hj).2, t, m, a, b, TK, ?_⟩
  have R' : SRq μ h' := KS_s2 R (fun a k q1 q2 => ⟨congrFun (f a (by omega)).1 k, congrFun (f a (by omega)).2.1 k⟩)
  revert PS
  generalize sp_score t = Y
  intro PS
  have h04 : h'.2.1 0 4 = h2.2.1 0 4 := A 0 4 (by decide +kernel)
  have hs := hx.2.1
  cases Y with
  | inl q =>
    obtain ⟨rfl, rfl, -, e4, fw⟩ := PS
    refine ⟨ez, h04.trans e4, μ, ?_, R'⟩
    refine CKn_ag (by unfold isS at *; omega) (CKn_f C fw (fun a k w => ?_)) A L hx'
    unfold isS at hs
    rcases w with (w | w) | w <;> omega
  | inr ν =>
    obtain ⟨e1, rfl, e4, K, -⟩ := PS
    refine ⟨ez, h04.trans e4, ?_⟩
    have : 97 - s' = s := by unfold isS at hs; omega
    rw [this]
    exact CKn_ag hs K A L hx'
theorem e_MD_score {G : cx_T} {s : Nat} {z : Int} {h : ah_T} (hx : xi s h) (hm : mi h) (hp : PX h) (hz : (-2147483648) ≤ z ∧ z ≤ 2147483647) (E : SDq s z h) : con G 8 0 0 m_MD_score [av_R (some 170)] h (fun r h' => ∃ w, r = some (av_I w) ∧ ((-2147483648) ≤ w ∧ w ≤ 2147483647) ∧ (h'.2.1 170 1 = 0 ∧ PX h') ∧ kM (pm [1, 2, 3, 4, 5, 6, 7, 8, 9, 10, 11, 12, 13, 43, 59, 60, 61, 63, 64, 65, 66, 70, 71, 72, 73, 74, 75, 76, 77, 78, 80, 85, 89, 91, 98, 104, 105] [172, 173, 174, 175, 176, 177, 178, 179, 180, 181, 182, 183, 184, 185, 186, 187, 188, 189, 190, 191, 192, 193, 194, 195, 196, 197, 198, 199, 200, 201, 202, 203, 204, 205, 206, 207, 208, 209, 210, 211, 212, 213, 214, 215, 216, 217, 218, 219, 220]) h h' ∧ z = w ∧ EX s h') := by
  obtain ⟨q0, T, n, hn, tr, hT, t, m, a, b, TK, SR⟩ := E
  have hb0 := hb_xm hx hm
  refine con_mono (con_conj (h2 := h) (s_MD_score hm hp) (t_MD_score (X := (T, n, t, m, a, b)) hb0 TK tr.1 hn (fun j hj => ⟨tr.2 j hj, hT j hj⟩))) ?_
  rintro r h' ⟨⟨w, q1, q2, q3, kn⟩, r2, h2, ⟨z2, q4, hb2, -, q5, PS⟩, er, S⟩
  have A : agI h2 h' := agI_of hb2.1 kn.1.1 (sh_sym S)
  have L : agL h2 h' := agL_of hb2.1 kn.1.1 (sh_sym S)
  have f := kn.2.1
  subst q1
  have ez := cv_I er q4
  have tq : TPq h' := ⟨fun _ => 0, 0, by decide, ⟨by rw [(f 0 (by decide)).1]; exact q0, fun j hj => by omega⟩, ⟨q3.1, fun j hj => by omega⟩⟩
  have h13 : h'.2.1 170 13 = h2.2.1 170 13 := A 170 13 (by decide +kernel)
  have h04 : h'.2.1 0 4 = h.2.1 0 4 := by rw [(f 0 (by decide)).1]
  have fin : ∀ v, Int32.ofInt z = Int32.ofInt v → v = z2 → z = w := by
    rintro v e rfl
    rw [← ez] at e
    exact (i32_eq (by unfold i32; omega) (by unfold i32; omega)).mp e
  replace PS : PSm (sp_score t) z2 h h2 := PS
  have TMs : ∀ ν, sp_score t = .inr ν → OKm ν := fun ν e => Or.inl ⟨(T, n, t, m, a, b), TK, e⟩
  revert SR PS TMs
  generalize sp_score t = Y
  intro SR PS TMs
  cases Y with
  | inl q =>
    obtain ⟨e1, e2, μ, C, R⟩ := SR
    obtain ⟨p1, p2, p3, fw⟩ := PS
    refine ⟨w, rfl, q2, q3, kn, fin _ e1 p1.symm, tq, ?_, μ, CK_s hx.2.1 C (fun a q1 q2 => f a (by omega)), ?_⟩
    · rw [h04, h13, e2, p3]
    · obtain ⟨K, t1, t2, TT, t3⟩ := R
      have e73 : h'.2.1 173 0 = h.2.1 173 0 := (A 173 0 (by decide +kernel)).trans (fr_g fw (WSf_k 173 0 (by omega)))
      have e74 : h'.2.1 174 0 = h.2.1 174 0 := (A 174 0 (by decide +kernel)).trans (fr_g fw (WSf_k 174 0 (by omega)))
      refine ⟨KSn_ag (KSn_g K (fun a k q => ⟨fr_g fw (WSf_k a k q), fr_gl fw (WSf_k a k q)⟩)) A L, by rw [e73]; exact t1, by rw [e74]; exact t2, TT, by rw [e73, e74]; exact t3⟩
  | inr ν =>
    obtain ⟨e1, e2, C⟩ := SR
    obtain ⟨p1, p2, K, p73, p74, -⟩ := PS
    have OO := TMs ν rfl
    have TT := OKm_t OO
    have e73 : h'.2.1 173 0 = ν 0 1 := (A 173 0 (by decide +kernel)).trans p73
    have e74 : h'.2.1 174 0 = ν 0 2 := (A 174 0 (by decide +kernel)).trans p74
    refine ⟨w, rfl, q2, q3, kn, fin _ e1 p1.symm, tq, ?_, ν, CK_s hx.2.1 C (fun a q1 q2 => f a (by omega)), KSn_ag K A L, ?_, ?_, OO, fun _ => ⟨e73, e74⟩⟩
    · rw [h04, h13, e2, p2]
    · rw [e73]
      unfold tmo
      have := TT.1
      rw [if_neg (by omega)]
    · rw [e74]
      unfold tmo
      have := TT.2.1
      rw [if_neg (by omega)]
