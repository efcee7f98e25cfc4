/-! ===== what the law carries: both tell one tape, one place, one score ===== -/
def tmo (x : Int) : Int := if x = 0 then 4 else x
def TCt (T : Nat → Int) (n : Nat) (h : ah_T) : Prop := h.2.1 0 1 = (n : Int) ∧ ∀ j, j < n → h.2.1 1 j = T j ∧ 0 ≤ T j ∧ T j ≤ 255
def TRt (T : Nat → Int) (n : Nat) (h : ah_T) : Prop := h.2.1 170 1 = (n : Int) ∧ ∀ j, j < n → h.2.1 171 j = T j
def TPq (h : ah_T) : Prop := ∃ (T : Nat → Int) (n : Nat), n ≤ 2000 ∧ TCt T n h ∧ TRt T n h
/-- a memory that a text gave, or the one of the start -/
def OKm (μ : pm_T) : Prop := (∃ X : tx_T, XA X ∧ sp_score X.2.2.1 = .inr μ) ∨ μ = sco0
def SRq (μ : pm_T) (h : ah_T) : Prop := KSn μ h ∧ tmo (h.2.1 173 0) = μ 0 1 ∧ tmo (h.2.1 174 0) = μ 0 2 ∧ OKm μ ∧ (0 < μ 0 7 → h.2.1 173 0 = μ 0 1 ∧ h.2.1 174 0 = μ 0 2)
theorem OKm_t {μ : pm_T} (H : OKm μ) : TMg μ := by
  rcases H with ⟨X, -, e⟩ | rfl
  · exact tg_score e
  · unfold TMg sco0
    refine ⟨⟨?_, ?_⟩, ⟨?_, ?_⟩, ?_⟩ <;> simp [up2, pwb]
def SCq (s : Nat) (h : ah_T) : Prop := ∃ μ : pm_T, CKn μ (97 - s) h ∧ SRq μ h
def EX (s : Nat) (h : ah_T) : Prop := TPq h ∧ h.2.1 0 4 = h.2.1 170 13 ∧ SCq s h
theorem sm_fr {W : Nat → Prop} {h h' : ah_T} (f : ∀ a, ¬ W a → same3 h h' a) (h3 : ¬ W 3) : fr (fun a _ => W a) h h' :=
  ⟨fun a k q => ⟨congrFun (f a q).1 k, congrFun (f a q).2.1 k⟩, fun e => by rw [(f 3 h3).2.2]; exact e⟩
theorem sh_sym {G : cx_T} {h h' : ah_T} (S : sameH G h h') : sameH G h' h := by
  obtain ⟨t, a, b⟩ := S
  exact ⟨t, b, a⟩
theorem CK_s {s : Nat} {μ : pm_T} {h h' : ah_T} (hs : isS s) (H : CKn μ (97 - s) h) (f : ∀ a, 17 ≤ a → a < 143 → same3 h h' a) : CKn μ (97 - s) h' := by
  have H' : CKn μ (97 - s) (h.1, h.2.1, h.2.2.1, fun _ _ => none) := H
  have f' : fr (fun a _ => ¬ (17 ≤ a ∧ a < 143)) (h.1, h.2.1, h.2.2.1, fun _ _ => none) h' := ⟨fun a k q => by
    have q2 : 17 ≤ a ∧ a < 143 := Decidable.of_not_not q
    exact ⟨congrFun (f a q2.1 q2.2).1 k, congrFun (f a q2.1 q2.2).2.1 k⟩, fun e => by cases e⟩
  refine CKn_f H' f' (fun a k q => ?_)
  unfold isS at hs
  omega
theorem KS_s2 {μ : pm_T} {h h' : ah_T} (H : SRq μ h) (f : ∀ a k, 172 ≤ a → a ≤ 200 → h'.2.1 a k = h.2.1 a k ∧ h'.2.2.1 a k = h.2.2.1 a k) : SRq μ h' := by
  obtain ⟨K, t1, t2, T, t3⟩ := H
  refine ⟨KSn_g K (fun a k q => f a k ?_ ?_), ?_, ?_, T, ?_⟩
  · rcases q with ⟨p1, p2⟩ | ⟨p1, p2⟩ | ⟨p1, p2⟩ | ⟨p1, p2⟩ | ⟨p1, p2⟩ | ⟨p1, p2⟩ | ⟨p1, p2⟩ | ⟨p1, p2⟩ <;> omega
  · rcases q with ⟨p1, p2⟩ | ⟨p1, p2⟩ | ⟨p1, p2⟩ | ⟨p1, p2⟩ | ⟨p1, p2⟩ | ⟨p1, p2⟩ | ⟨p1, p2⟩ | ⟨p1, p2⟩ <;> omega
  · rw [(f 173 0 (by decide) (by decide)).1]; exact t1
  · rw [(f 174 0 (by decide) (by decide)).1]; exact t2
  · rw [(f 173 0 (by decide) (by decide)).1, (f 174 0 (by decide) (by decide)).1]; exact t3
theorem TC_e {T : Nat → Int} {n : Nat} {h h' : ah_T} (H : TCt T n h) (f0 : h'.2.1 0 1 = h.2.1 0 1) (f1 : h'.2.1 1 = h.2.1 1) : TCt T n h' := by
  unfold TCt
  rw [f0, f1]
  exact H
theorem TR_e {T : Nat → Int} {n : Nat} {h h' : ah_T} (H : TRt T n h) (f0 : h'.2.1 170 1 = h.2.1 170 1) (f1 : h'.2.1 171 = h.2.1 171) : TRt T n h' := by
  unfold TRt
  rw [f0, f1]
  exact H
/-- the class's other calls -/
theorem EX_c {s : Nat} {h h' : ah_T} (E : EX s h) (k : kF FC s h h') : EX s h' := by
  obtain ⟨⟨T, n, hn, c, r⟩, p, μ, C, R⟩ := E
  obtain ⟨hx, f⟩ := k
  have g : ∀ a, a < 143 ∨ 170 ≤ a → same3 h h' a := fun a q => f a q
  refine ⟨⟨T, n, hn, TC_e c (congrFun (g 0 (by decide)).1 1) (g 1 (by decide)).1, TR_e r (congrFun (g 170 (by decide)).1 1) (g 171 (by decide)).1⟩, ?_, μ, CK_s hx.2.1 C (fun a q1 q2 => g a (Or.inl q2)), KS_s2 R (fun a k q1 q2 => ⟨congrFun (g a (by omega)).1 k, congrFun (g a (by omega)).2.1 k⟩)⟩
  rw [(g 0 (by decide)).1, (g 170 (by decide)).1]
  exact p
/-- the reference's other calls -/
theorem EX_m {s : Nat} {F A : List Nat} {h h' : ah_T} (E : EX s h) (hs : isS s) (kn : kM (pm F A) h h') (hA : A.all (fun x => decide (200 < x)) = true) (hF : F.contains 1 = false) (hF2 : F.contains 13 = false) : EX s h' := by
  obtain ⟨⟨T, n, hn, c, r⟩, p, μ, C, R⟩ := E
  obtain ⟨-, f, k1, k2⟩ := kn
  have hP : ∀ a k, 171 ≤ a → a ≤ 200 → pm F A a k = false := by
    intro a k q1 q2
    have n1 : (a == 170) = false := by simp; omega
    have n2 : A.contains a = false := by
      cases c : A.contains a with
      | false => rfl
      | true =>
        have := of_decide_eq_true (List.all_eq_true.mp hA a (by simpa using c))
        omega
    unfold pm
    rw [n1, n2]
    rfl
  have nA : A.contains 170 = false := by
    cases c : A.contains 170 with
    | false => rfl
    | true =>
      have := of_decide_eq_true (List.all_eq_true.mp hA 170 (by simpa using c))
      omega
  have h1 : pm F A 170 1 = false := by
    unfold pm
    rw [hF, nA]
    rfl
  have h13 : pm F A 170 13 = false := by
    unfold pm
    rw [hF2, nA]
    rfl
  refine ⟨⟨T, n, hn, TC_e c (congrFun (f 0 (by decide)).1 1) (f 1 (by decide)).1, TR_e r (k1 170 1 h1) (funext fun j => k1 171 j (hP 171 j (by decide) (by decide)))⟩, ?_, μ, CK_s hs C (fun a q1 q2 => f a (by omega)), KS_s2 R (fun a k q1 q2 => ⟨k1 a k (hP a k (by omega) q2), k2 a k (hP a k (by omega) q2)⟩)⟩
  rw [(f 0 (by decide)).1, k1 170 13 h13]
  exact p
/-- between the two feeds -/
def FDq (s : Nat) (a b c d e : Int) (h : ah_T) : Prop := (∃ (T : Nat → Int) (n : Nat), n ≤ 2000 ∧ TRt T n h ∧ ((n + 20 ≤ 2000 ∧ TCt T (n + 20) h ∧ ∀ j, j < 20 → T (n + j) = fdb a b c d e j) ∨ (¬ n + 20 ≤ 2000 ∧ TCt T n h))) ∧ h.2.1 0 4 = h.2.1 170 13 ∧ SCq s h
theorem TC_ag {T : Nat → Int} {n : Nat} {h h' : ah_T} (hn : n ≤ 2000) (H : TCt T n h) (A : agI h h') : TCt T n h' :=
  ⟨(A 0 1 (by decide +kernel)).trans H.1, fun j hj => ⟨(A 1 j (ic0 (n := 2000) (by decide +kernel) (by omega))).trans (H.2 j hj).1, (H.2 j hj).2⟩⟩
theorem TR_ag {T : Nat → Int} {n : Nat} {h h' : ah_T} (hn : n ≤ 2000) (H : TRt T n h) (A : agI h h') : TRt T n h' :=
  ⟨(A 170 1 (by decide +kernel)).trans H.1, fun j hj => (A 171 j (ic0 (n := 2000) (by decide +kernel) (by omega))).trans (H.2 j hj)⟩
theorem e_PM_feed {G : cx_T} {s : Nat} {h : ah_T} {a b c d e : Int} (hx : xi s h) (hm : mi h) (E : EX s h) : con G 1 0 0 m_PM_feed [av_R (some 0), av_I a, av_I b, av_I c, av_I d, av_I e] h (fun r h' => ∃ z, r = some (av_I z) ∧ ((-3) ≤ z ∧ z ≤ 2000) ∧ ((h.2.1 0 1 ≤ 1980 → z = h.2.1 0 1 + 20 ∧ h'.2.1 0 1 = h.2.1 0 1 + 20) ∧ (1980 < h.2.1 0 1 → z = -3 ∧ h'.2.1 0 1 = h.2.1 0 1)) ∧ kF FA s h h' ∧ FDq s a b c d e h') := by
  obtain ⟨⟨T, n, hn, tc, tr⟩, p, μ, C, R⟩ := E
  have hb0 := hb_xm hx hm
  refine con_mono (con_conj (h2 := h) (s_PM_feed hx) (t_PM_feed hb0 tc.1 hn)) ?_
  rintro r h' ⟨⟨z, q1, q2, q3, kf⟩, r2, h2, ⟨hb2, q⟩, -, S⟩
  refine ⟨z, q1, q2, q3, kf, ?_, ?_, μ, CK_s hx.2.1 C (fun a q1 q2 => kf.2 a (Or.inl ⟨q1, q2⟩)), KS_s2 R (fun a k q1 q2 => ⟨congrFun (kf.2 a (Or.inr (by omega))).1 k, congrFun (kf.2 a (Or.inr (by omega))).2.1 k⟩)⟩
  all_goals have A : agI h2 h' := agI_of hb2.1 kf.1.1 (sh_sym S)
  · have tr' : TRt T n h' := TR_e tr (congrFun (kf.2 170 (Or.inr (by decide))).1 1) (kf.2 171 (Or.inr (by decide))).1
    rcases q with ⟨w1, -, w3, w4, w5⟩ | ⟨w1, -, rfl⟩
    · refine ⟨fun j => if j < n then T j else fdb a b c d e (j - n), n, hn, ⟨tr'.1, fun j hj => ?_⟩, Or.inl ⟨w1, TC_ag w1 ⟨by rw [w4]; omega, fun j hj => ?_⟩ A, fun j hj => ?_⟩⟩
      · dsimp only
        rw [if_pos hj]
        exact tr'.2 j hj
      · dsimp only
        by_cases c : j < n
        · rw [if_pos c, fr_g w3 (by omega)]
          exact tc.2 j c
        · have := w5 (j - n) (by omega)
          rw [show n + (j - n) = j by omega] at this
          rw [if_neg c]
          exact ⟨this, fdb_b _ _ _ _ _ _⟩
      · dsimp only
        rw [if_neg (by omega), show n + j - n = j by omega]
    · exact ⟨T, n, hn, tr', Or.inr ⟨w1, TC_ag hn tc A⟩⟩
  · rw [A 0 4 (by decide +kernel), (kf.2 170 (Or.inr (by decide))).1, ← p]
    rcases q with ⟨w1, -, w3, w4, w5⟩ | ⟨w1, -, rfl⟩
    · exact fr_g w3 (by omega)
    · rfl

/-! ===== feed, cut and score of both, one after the other ===== -/
theorem e_MD_feed {G : cx_T} {s : Nat} {h : ah_T} {a b c d e : Int} (hx : xi s h) (hm : mi h) (E : FDq s a b c d e h) : con G 1 0 0 m_MD_feed [av_R (some 170), av_I a, av_I b, av_I c, av_I d, av_I e] h (fun r h' => ∃ z, r = some (av_I z) ∧ ((-3) ≤ z ∧ z ≤ 2000) ∧ ((h.2.1 170 1 ≤ 1980 → z = h.2.1 170 1 + 20 ∧ h'.2.1 170 1 = h.2.1 170 1 + 20) ∧ (1980 < h.2.1 170 1 → z = -3 ∧ h'.2.1 170 1 = h.2.1 170 1)) ∧ kM (pm [1] [171]) h h' ∧ EX s h') := by
  obtain ⟨⟨T, n, hn, tr, tc⟩, p, μ, C, R⟩ := E
  have hb0 := hb_xm hx hm
  refine con_mono (con_conj (h2 := h) (s_MD_feed hm) (t_MD_feed hb0 tr.1 hn)) ?_
  rintro r h' ⟨⟨z, q1, q2, q3, kn⟩, r2, h2, ⟨hb2, q⟩, -, S⟩
  have A : agI h2 h' := agI_of hb2.1 kn.1.1 (sh_sym S)
  have kn' := kn
  obtain ⟨-, f, k1, k2⟩ := kn'
  have hP : ∀ a k, 172 ≤ a → pm [1] [171] a k = false := by
    intro a k q1
    have n1 : (a == 170) = false := by simp; omega
    have n2 : [171].contains a = false := by simp; omega
    unfold pm
    rw [n1, n2]
    rfl
  refine ⟨z, q1, q2, q3, kn, ?_, ?_, μ, CK_s hx.2.1 C (fun a q1 q2 => f a (by omega)), KS_s2 R (fun a k q1 q2 => ⟨k1 a k (hP a k q1), k2 a k (hP a k q1)⟩)⟩
  · have tc' : ∀ {m : Nat}, TCt T m h → TCt T m h' := fun H => TC_e H (congrFun (f 0 (by decide)).1 1) (f 1 (by decide)).1
    rcases q with ⟨w1, -, w3, w4, w5⟩ | ⟨w1, -, rfl⟩
    · rcases tc with ⟨v1, v2, v3⟩ | ⟨v1, v2⟩
      · refine ⟨T, n + 20, v1, tc' v2, TR_ag v1 ⟨by rw [w4]; omega, fun j hj => ?_⟩ A⟩
        by_cases c : j < n
        · rw [fr_g w3 (by omega)]
          exact tr.2 j c
        · have e1 := w5 (j - n) (by omega)
          have e2 := v3 (j - n) (by omega)
          rw [show n + (j - n) = j by omega] at e1 e2
          rw [e1, e2]
      · exact absurd w1 v1
    · rcases tc with ⟨v1, v2, v3⟩ | ⟨v1, v2⟩
      · exact absurd v1 w1
      · exact ⟨T, n, hn, tc' v2, TR_ag hn tr A⟩
  · rw [(f 0 (by decide)).1, k1 170 13 rfl]
    exact p
/-- between the two cuts -/
def CTq (s : Nat) (a : Int) (h : ah_T) : Prop := (∃ (T : Nat → Int) (n m : Nat), n ≤ 2000 ∧ m ≤ n ∧ TRt T n h ∧ TCt T m h ∧ ((0 ≤ a ∧ a ≤ n ∧ (m : Int) = n - a) ∨ (¬ (0 ≤ a ∧ a ≤ n) ∧ m = n))) ∧ h.2.1 0 4 = h.2.1 170 13 ∧ SCq s h
theorem e_PM_cut {G : cx_T} {s : Nat} {h : ah_T} {a : Int} (hx : xi s h) (hm : mi h) (E : EX s h) : con G 0 0 0 m_PM_cut [av_R (some 0), av_I a] h (fun r h' => ∃ z, r = some (av_I z) ∧ ((-1) ≤ z ∧ z ≤ 2000) ∧ ((a < 0 ∨ h.2.1 0 1 < a → z = -1 ∧ h'.2.1 0 1 = h.2.1 0 1) ∧ (0 ≤ a → a ≤ h.2.1 0 1 → z = h.2.1 0 1 - a ∧ h'.2.1 0 1 = h.2.1 0 1 - a)) ∧ kF FA s h h' ∧ CTq s a h') := by
  obtain ⟨⟨T, n, hn, tc, tr⟩, p, μ, C, R⟩ := E
  have hb0 := hb_xm hx hm
  refine con_mono (con_conj (h2 := h) (s_PM_cut hx) (t_PM_cut hb0 tc.1 hn)) ?_
  rintro r h' ⟨⟨z, q1, q2, q3, kf⟩, r2, h2, ⟨hb2, q⟩, -, S⟩
  have A : agI h2 h' := agI_of hb2.1 kf.1.1 (sh_sym S)
  refine ⟨z, q1, q2, q3, kf, ?_, ?_, μ, CK_s hx.2.1 C (fun a q1 q2 => kf.2 a (Or.inl ⟨q1, q2⟩)), KS_s2 R (fun a k q1 q2 => ⟨congrFun (kf.2 a (Or.inr (by omega))).1 k, congrFun (kf.2 a (Or.inr (by omega))).2.1 k⟩)⟩
  · have tr' : TRt T n h' := TR_e tr (congrFun (kf.2 170 (Or.inr (by decide))).1 1) (kf.2 171 (Or.inr (by decide))).1
    rcases q with ⟨w1, w2, -, w3, w4⟩ | ⟨w1, -, rfl⟩
    · refine ⟨T, n, (n - a).toNat, hn, by omega, tr', TC_ag (by omega) ⟨by rw [w4]; omega, fun j hj => ?_⟩ A, Or.inl ⟨w1, w2, by omega⟩⟩
      rw [fr_g w3 (by omega)]
      exact tc.2 j (by omega)
    · exact ⟨T, n, n, hn, Nat.le_refl _, tr', TC_ag hn tc A, Or.inr ⟨w1, rfl⟩⟩
  · rw [A 0 4 (by decide +kernel), (kf.2 170 (Or.inr (by decide))).1, ← p]
    rcases q with ⟨w1, w2, -, w3, w4⟩ | ⟨w1, -, rfl⟩
    · exact fr_g w3 (by omega)
    · rfl
theorem e_MD_cut {G : cx_T} {s : Nat} {h : ah_T} {a : Int} (hx : xi s h) (hm : mi h) (E : CTq s a h) : con G 0 0 0 m_MD_cut [av_R (some 170), av_I a] h (fun r h' => ∃ z, r = some (av_I z) ∧ ((-1) ≤ z ∧ z ≤ 2000) ∧ ((a < 0 ∨ h.2.1 170 1 < a → z = -1 ∧ h'.2.1 170 1 = h.2.1 170 1) ∧ (0 ≤ a → a ≤ h.2.1 170 1 → z = h.2.1 170 1 - a ∧ h'.2.1 170 1 = h.2.1 170 1 - a)) ∧ kM (pm [1] []) h h' ∧ EX s h') := by
  obtain ⟨⟨T, n, m, hn, hmn, tr, tc, ca⟩, p, μ, C, R⟩ := E
  have hb0 := hb_xm hx hm
  refine con_mono (con_conj (h2 := h) (s_MD_cut hm) (t_MD_cut hb0 tr.1 hn)) ?_
  rintro r h' ⟨⟨z, q1, q2, q3, kn⟩, r2, h2, ⟨hb2, q⟩, -, S⟩
  have A : agI h2 h' := agI_of hb2.1 kn.1.1 (sh_sym S)
  have kn' := kn
  obtain ⟨-, f, k1, k2⟩ := kn'
  have hP : ∀ a k, 171 ≤ a → pm [1] [] a k = false := by
    intro a k q1
    have n1 : (a == 170) = false := by simp; omega
    unfold pm
    rw [n1]
    rfl
  refine ⟨z, q1, q2, q3, kn, ?_, ?_, μ, CK_s hx.2.1 C (fun a q1 q2 => f a (by omega)), KS_s2 R (fun a k q1 q2 => ⟨k1 a k (hP a k (by omega)), k2 a k (hP a k (by omega))⟩)⟩
  · have tc' : TCt T m h' := TC_e tc (congrFun (f 0 (by decide)).1 1) (f 1 (by decide)).1
    refine ⟨T, m, by omega, tc', TR_ag (by omega) ⟨?_, fun j hj => ?_⟩ A⟩
    · rcases q with ⟨w1, w2, -, w3, w4⟩ | ⟨w1, -, rfl⟩
      · rw [w4]; omega
      · rw [tr.1]; omega
    · rcases q with ⟨w1, w2, -, w3, w4⟩ | ⟨w1, -, rfl⟩
      · rw [fr_g w3 (by omega)]
        exact tr.2 j (by omega)
      · exact tr.2 j (by omega)
  · rw [(f 0 (by decide)).1, k1 170 13 rfl]
    exact p
/-- between the two scores -/
def SRr (s : Nat) (R : F_T ⊕ pm_T) (z : Int) (h : ah_T) : Prop := match R with
  | .inl q => Int32.ofInt z = Int32.ofInt (-10 - q.1) ∧ h.2.1 0 4 = q.2 ∧ SCq s h
  | .inr μ => Int32.ofInt z = Int32.ofInt (evs μ (μ 0 7).toNat) ∧ h.2.1 0 4 = -2 ∧ CKn μ (97 - s) h
def SDq (s : Nat) (z : Int) (h : ah_T) : Prop := h.2.1 0 1 = 0 ∧ ∃ (T : Nat → Int) (n : Nat), n ≤ 2000 ∧ TRt T n h ∧ (∀ j, j < n → 0 ≤ T j ∧ T j ≤ 255) ∧ ∃ (t : tk_T) (m : Nat) (a b : Nat → Nat), TkA T n t m a b ∧ SRr s (sp_score t) z h
theorem cv_I {G : cx_T} {z w : Int} {r : Option av_T} (e : r.map (cv G) = (some (av_I z)).map (cv G)) (hr : r = some (av_I w)) : Int32.ofInt z = Int32.ofInt w := by
  subst hr
  have e1 : some (Value.int (Int32.ofInt w)) = some (Value.int (Int32.ofInt z)) := e
  injection e1 with e2
  injection e2 with e3
  exact e3.symm
theorem e_PM_score {G : cx_T} {s : Nat} {h : ah_T} (hx : xi s h) (hm : mi h) (E : EX s h) : con G 24 0 0 m_PM_score [av_R (some 0)] h (fun r h' => ∃ z, r = some (av_I z) ∧ ((-2147483648) ≤ z ∧ z ≤ 2147483647) ∧ ∃ s', xi s' h' ∧ h'.2.1 0 1 = 0 ∧ (∀ a, 170 ≤ a → same3 h h' a) ∧ SDq s' z h') := by
  obtain ⟨⟨T, n, hn, tc, tr⟩, p, μ, C, R⟩ := E
  have hb0 := hb_xm hx hm
  refine con_mono (con_conj (h2 := h) (s_PM_score hx) (t_PM_score hb0 tc.1 hn tc.2)) ?_
  rintro r h' ⟨⟨z, q1, q2, s', hx', q3, f⟩, r2, h2, ⟨z2, s2, q4, hb2, -, q5, t, m, a, b, TK, PS⟩, er, S⟩
  have A : agI h2 h' := agI_of hb2.1 hx'.1 (sh_sym S)
  have L : agL h2 h' := agL_of hb2.1 hx'.1 (sh_sym S)
  obtain rfl : s' = s2 := s_eq hx' hb2 (agR_of hb2.1 hx'.1 (sh_sym S))
  subst q1
  have ez := cv_I er q4
  refine ⟨z, rfl, q2, s', hx', q3, f, q3, T, n, hn, TR_e tr (congrFun (f 170 (by decide)).1 1) (f 171 (by decide)).1, fun j hj => (tc.2 j hj).2, t, m, a, b, TK, ?_⟩
  have R' : SRq μ h' := KS_s2 R (fun a k q1 q2 => ⟨congrFun (f a (by omega)).1 k, congrFun (f a (by omega)).2.1 k⟩)
  revert PS
  generalize sp_score t = Y
  intro PS
  have h04 : h'.2.1 0 4 = h2.2.1 0 4 := A 0 4 (by decide +kernel)
  have hs := hx.2.1
  cases Y with
  | inl q =>
    obtain ⟨rfl, rfl, -, e4, fw⟩ := PS
    refine ⟨ez, h04.trans e4, μ, ?_, R'⟩
    refine CKn_ag (by unfold isS at *; omega) (CKn_f C fw (fun a k w => ?_)) A L hx'
    unfold isS at hs
    rcases w with (w | w) | w <;> omega
  | inr ν =>
    obtain ⟨e1, rfl, e4, K, -⟩ := PS
    refine ⟨ez, h04.trans e4, ?_⟩
    have : 97 - s' = s := by unfold isS at hs; omega
    rw [this]
    exact CKn_ag hs K A L hx'
theorem e_MD_score {G : cx_T} {s : Nat} {z : Int} {h : ah_T} (hx : xi s h) (hm : mi h) (hp : PX h) (hz : (-2147483648) ≤ z ∧ z ≤ 2147483647) (E : SDq s z h) : con G 8 0 0 m_MD_score [av_R (some 170)] h (fun r h' => ∃ w, r = some (av_I w) ∧ ((-2147483648) ≤ w ∧ w ≤ 2147483647) ∧ (h'.2.1 170 1 = 0 ∧ PX h') ∧ kM (pm [1, 2, 3, 4, 5, 6, 7, 8, 9, 10, 11, 12, 13, 43, 59, 60, 61, 63, 64, 65, 66, 70, 71, 72, 73, 74, 75, 76, 77, 78, 80, 85, 89, 91, 98, 104, 105] [172, 173, 174, 175, 176, 177, 178, 179, 180, 181, 182, 183, 184, 185, 186, 187, 188, 189, 190, 191, 192, 193, 194, 195, 196, 197, 198, 199, 200, 201, 202, 203, 204, 205, 206, 207, 208, 209, 210, 211, 212, 213, 214, 215, 216, 217, 218, 219, 220]) h h' ∧ z = w ∧ EX s h') := by
  obtain ⟨q0, T, n, hn, tr, hT, t, m, a, b, TK, SR⟩ := E
  have hb0 := hb_xm hx hm
  refine con_mono (con_conj (h2 := h) (s_MD_score hm hp) (t_MD_score (X := (T, n, t, m, a, b)) hb0 TK tr.1 hn (fun j hj => ⟨tr.2 j hj, hT j hj⟩))) ?_
  rintro r h' ⟨⟨w, q1, q2, q3, kn⟩, r2, h2, ⟨z2, q4, hb2, -, q5, PS⟩, er, S⟩
  have A : agI h2 h' := agI_of hb2.1 kn.1.1 (sh_sym S)
  have L : agL h2 h' := agL_of hb2.1 kn.1.1 (sh_sym S)
  have f := kn.2.1
  subst q1
  have ez := cv_I er q4
  have tq : TPq h' := ⟨fun _ => 0, 0, by decide, ⟨by rw [(f 0 (by decide)).1]; exact q0, fun j hj => by omega⟩, ⟨q3.1, fun j hj => by omega⟩⟩
  have h13 : h'.2.1 170 13 = h2.2.1 170 13 := A 170 13 (by decide +kernel)
  have h04 : h'.2.1 0 4 = h.2.1 0 4 := by rw [(f 0 (by decide)).1]
  have fin : ∀ v, Int32.ofInt z = Int32.ofInt v → v = z2 → z = w := by
    rintro v e rfl
    rw [← ez] at e
    exact (i32_eq (by unfold i32; omega) (by unfold i32; omega)).mp e
  replace PS : PSm (sp_score t) z2 h h2 := PS
  have TMs : ∀ ν, sp_score t = .inr ν → OKm ν := fun ν e => Or.inl ⟨(T, n, t, m, a, b), TK, e⟩
  revert SR PS TMs
  generalize sp_score t = Y
  intro SR PS TMs
  cases Y with
  | inl q =>
    obtain ⟨e1, e2, μ, C, R⟩ := SR
    obtain ⟨p1, p2, p3, fw⟩ := PS
    refine ⟨w, rfl, q2, q3, kn, fin _ e1 p1.symm, tq, ?_, μ, CK_s hx.2.1 C (fun a q1 q2 => f a (by omega)), ?_⟩
    · rw [h04, h13, e2, p3]
    · obtain ⟨K, t1, t2, TT, t3⟩ := R
      have e73 : h'.2.1 173 0 = h.2.1 173 0 := (A 173 0 (by decide +kernel)).trans (fr_g fw (WSf_k 173 0 (by omega)))
      have e74 : h'.2.1 174 0 = h.2.1 174 0 := (A 174 0 (by decide +kernel)).trans (fr_g fw (WSf_k 174 0 (by omega)))
      refine ⟨KSn_ag (KSn_g K (fun a k q => ⟨fr_g fw (WSf_k a k q), fr_gl fw (WSf_k a k q)⟩)) A L, by rw [e73]; exact t1, by rw [e74]; exact t2, TT, by rw [e73, e74]; exact t3⟩
  | inr ν =>
    obtain ⟨e1, e2, C⟩ := SR
    obtain ⟨p1, p2, K, p73, p74, -⟩ := PS
    have OO := TMs ν rfl
    have TT := OKm_t OO
    have e73 : h'.2.1 173 0 = ν 0 1 := (A 173 0 (by decide +kernel)).trans p73
    have e74 : h'.2.1 174 0 = ν 0 2 := (A 174 0 (by decide +kernel)).trans p74
    refine ⟨w, rfl, q2, q3, kn, fin _ e1 p1.symm, tq, ?_, ν, CK_s hx.2.1 C (fun a q1 q2 => f a (by omega)), KSn_ag K A L, ?_, ?_, OO, fun _ => ⟨e73, e74⟩⟩
    · rw [h04, h13, e2, p2]
    · rw [e73]
      unfold tmo
      have := TT.1
      rw [if_neg (by omega)]
    · rw [e74]
      unfold tmo
      have := TT.2.1
      rw [if_neg (by omega)]

/-! ===== the askers of both: place, told, count ===== -/
theorem e_PM_place {G : cx_T} {s : Nat} {h : ah_T} (hx : xi s h) (hm : mi h) (_ : EX s h) : con G 0 0 0 m_PM_place [av_R (some 0)] h (fun r h' => ∃ z, r = some (av_I z) ∧ h = h' ∧ z = h.2.1 0 4) := by
  refine c_PM_place (hb_xm hx hm) ?_
  unfold B_PM_place_0
  exact fun x1 e1 _ _ => ⟨x1, rfl, rfl, e1⟩
theorem e_MD_place {G : cx_T} {s : Nat} {h : ah_T} (hx : xi s h) (hm : mi h) (E : EX s h) : con G 0 0 0 m_MD_place [av_R (some 170)] h (fun r h' => ∃ z, r = some (av_I z) ∧ h = h' ∧ z = h.2.1 0 4) := by
  refine c_MD_place (hb_xm hx hm) ?_
  unfold B_MD_place_0
  exact fun x1 e1 _ _ => ⟨x1, rfl, rfl, e1.trans E.2.1.symm⟩
/-- the most bars of the first n voices -/
def mbr (μ : pm_T) : Nat → Int
  | 0 => 0
  | n + 1 => if mbr μ n < μ (10 + n) 1 then μ (10 + n) 1 else mbr μ n
theorem mbr_0 {μ : pm_T} : ∀ n, 0 ≤ mbr μ n
  | 0 => Int.le_refl _
  | n + 1 => by
    have := mbr_0 (μ := μ) n
    rw [mbr]
    split <;> omega
def toldv (μ : pm_T) (a : Int) : Int := if a = 0 then μ 0 7 else if a = 1 then μ 0 3 else if a = 2 then μ 0 4 else if a = 3 then μ 0 5 else if a = 4 then mbr μ (μ 0 7).toNat else if a = 5 then μ 0 1 else if a = 6 then μ 0 2 else -1
theorem t_Score_mostBars {G : cx_T} {s c : Nat} {h : ah_T} {μ : pm_T} (hb0 : hb s h) (hc : isS c) (H : CKn μ c h) : con G 1 0 0 m_Score_mostBars [av_R (some c)] h (fun r h' => hb s h' ∧ h' = h ∧ r = some (av_I (mbr μ (μ 0 7).toNat))) := by
  have h1 := H.1.1
  have b := H.2.1.2.2.2
  have V := H.2.2.2.2.2
  refine c_Score_mostBars hc (X4 := fun v1 v2 hh => hh = h ∧ ∃ n : Nat, v2 = (n : Int) ∧ (n : Int) ≤ μ 0 7 ∧ v1 = mbr μ n) ?_ hb0 ?_
  · refine lp_Score_mostBars_4 hc _ (fun _ v2 _ => (5 - v2).toNat) ?_
    rintro v1 v2 hh hb1 ⟨rfl, n, rfl, hn, rfl⟩
    unfold B_Score_mostBars_4
    intro x1 e1 _ _
    have ex1 : x1 = μ 0 7 := e1.trans h1
    subst ex1
    refine ⟨fun q => ⟨hb1, rfl, ?_⟩, fun q => ?_⟩
    · have : (μ 0 7).toNat = n := by omega
      rw [this]
    · refine con_mono (t_Score_voiceAt hb1 hc H) ?_
      rintro r h2 ⟨hb2, rfl, ⟨q1, q2, rfl⟩ | ⟨q1, -⟩⟩
      · rw [tn_c]
        refine ⟨_, rfl, hb2, Or.inr ⟨_, rfl, ?_, fun x5 e5 _ _ => ?_⟩⟩
        · unfold isV; unfold isS at hc; omega
        · have ex5 : x5 = μ (10 + n) 1 := e5.trans (V n q2).1.1.2
          unfold B_Score_mostBars_31
          intro x6 e6 _ _
          exact ⟨⟨by omega, by omega⟩, ⟨rfl, n + 1, by omega, by omega, by rw [mbr, e6, ex5]⟩, by omega⟩
      · omega
  · unfold B_Score_mostBars_0
    exact ⟨rfl, 0, rfl, b.1, rfl⟩
theorem e_PM_told {G : cx_T} {s : Nat} {h : ah_T} {μ : pm_T} {a : Int} (hx : xi s h) (hm : mi h) (H : CKn μ (97 - s) h) : con G 2 0 0 m_PM_told [av_R (some 0), av_I a] h (fun r h' => ∃ z, r = some (av_I z) ∧ h = h' ∧ z = toldv μ a) := by
  have hb0 := hb_xm hx hm
  have hs := hx.2.1
  have hc : isS (97 - s) := by unfold isS at *; omega
  have H' := H
  obtain ⟨⟨a7, a1, a2, a3, a4, a5⟩, -⟩ := H'
  refine c_PM_told hb0 (fun _ => ?_)
  unfold B_PM_told_0 toldv
  refine ⟨fun c x e _ _ => ⟨_, rfl, rfl, ?_⟩, fun c x e _ _ => ⟨_, rfl, rfl, ?_⟩, fun c x e _ _ => ⟨_, rfl, rfl, ?_⟩, fun c x e _ _ => ⟨_, rfl, rfl, ?_⟩, fun c => ?_, fun c x e _ _ => ⟨_, rfl, rfl, ?_⟩, fun c x e _ _ => ⟨_, rfl, rfl, ?_⟩, fun c => ⟨_, rfl, rfl, ?_⟩⟩
  · rw [if_pos c]; exact e.trans a7
  · rw [if_neg (by omega), if_pos c]; exact e.trans a3
  · rw [if_neg (by omega), if_neg (by omega), if_pos c]; exact e.trans a4
  · rw [if_neg (by omega), if_neg (by omega), if_neg (by omega), if_pos c]; exact e.trans a5
  · refine con_mono (t_Score_mostBars hb0 hc H) ?_
    rintro r h2 ⟨hb2, rfl, rfl⟩
    refine ⟨_, rfl, hb2, _, rfl, rfl, ?_⟩
    rw [if_neg (by omega), if_neg (by omega), if_neg (by omega), if_neg (by omega), if_pos c]
  · rw [if_neg (by omega), if_neg (by omega), if_neg (by omega), if_neg (by omega), if_neg (by omega), if_pos c]; exact e.trans a1
  · rw [if_neg (by omega), if_neg (by omega), if_neg (by omega), if_neg (by omega), if_neg (by omega), if_neg (by omega), if_pos c]; exact e.trans a2
  · rw [if_neg (by omega), if_neg (by omega), if_neg (by omega), if_neg (by omega), if_neg (by omega), if_neg (by omega), if_neg (by omega)]
theorem t_MD_pageBars {G : cx_T} {s : Nat} {h : ah_T} {μ : pm_T} (hb0 : hb s h) (H : KSn μ h) : con G 0 0 0 m_MD_pageBars [av_R (some 170)] h (fun r h' => hb s h' ∧ h' = h ∧ r = some (av_I (mbr μ (μ 0 7).toNat))) := by
  have h1 := H.1.1
  have b := H.2.1.2.2.2
  have V := H.2.2.2.2.2
  refine c_MD_pageBars (X4 := fun v1 v2 hh => hh = h ∧ ∃ n : Nat, v2 = (n : Int) ∧ (n : Int) ≤ μ 0 7 ∧ v1 = mbr μ n) ?_ hb0 ?_
  · refine lp_MD_pageBars_4 _ (fun _ v2 _ => (5 - v2).toNat) ?_
    rintro v1 v2 hh hb1 ⟨rfl, n, rfl, hn, rfl⟩
    unfold B_MD_pageBars_4 B_MD_pageBars_34
    intro x2 e2 _ _
    have ex2 : x2 = μ 0 7 := e2.trans h1
    subst ex2
    refine ⟨fun q => ⟨hb1, rfl, ?_⟩, fun q => ⟨by omega, ?_⟩⟩
    · have : (μ 0 7).toNat = n := by omega
      rw [this]
    · rw [tn_c]
      intro x4 e4 _ _
      have ex4 : x4 = μ (10 + n) 1 := e4.trans (V n (by omega)).1.2
      refine ⟨fun c => ⟨⟨by omega, by omega⟩, ⟨rfl, n + 1, by omega, by omega, ?_⟩, by omega⟩, fun c => ⟨⟨by omega, by omega⟩, ⟨rfl, n + 1, by omega, by omega, ?_⟩, by omega⟩⟩
      · rw [mbr, if_neg (by omega)]
      · rw [mbr, if_pos (by omega)]; exact ex4
  · unfold B_MD_pageBars_0
    exact ⟨rfl, 0, rfl, b.1, rfl⟩
theorem e_MD_told {G : cx_T} {s : Nat} {h : ah_T} {μ : pm_T} {a : Int} (hx : xi s h) (hm : mi h) (H : SRq μ h) : con G 1 0 0 m_MD_told [av_R (some 170), av_I a] h (fun r h' => ∃ z, r = some (av_I z) ∧ h = h' ∧ z = toldv μ a) := by
  have hb0 := hb_xm hx hm
  obtain ⟨K, t1, t2, -⟩ := H
  have K' := K
  obtain ⟨⟨a7, a3, a4, a5⟩, -⟩ := K'
  refine c_MD_told hb0 (fun _ => ?_)
  unfold B_MD_told_0 B_MD_told_96 B_MD_told_116 toldv
  refine ⟨fun c x e _ _ => ⟨_, rfl, rfl, ?_⟩, fun c x e _ _ => ⟨_, rfl, rfl, ?_⟩, fun c x e _ _ => ⟨_, rfl, rfl, ?_⟩, fun c x e _ _ => ⟨_, rfl, rfl, ?_⟩, fun c => ?_, fun c x e _ _ => ⟨fun c0 => ⟨_, rfl, rfl, ?_⟩, fun c0 => ⟨_, rfl, rfl, ?_⟩⟩, fun c x e _ _ => ⟨fun c0 => ⟨_, rfl, rfl, ?_⟩, fun c0 => ⟨_, rfl, rfl, ?_⟩⟩, fun c => ⟨_, rfl, rfl, ?_⟩⟩
  · rw [if_pos c]; exact e.trans a7
  · rw [if_neg (by omega), if_pos c]; exact e.trans a3
  · rw [if_neg (by omega), if_neg (by omega), if_pos c]; exact e.trans a4
  · rw [if_neg (by omega), if_neg (by omega), if_neg (by omega), if_pos c]; exact e.trans a5
  · refine con_mono (t_MD_pageBars hb0 K) ?_
    rintro r h2 ⟨hb2, rfl, rfl⟩
    refine ⟨_, rfl, hb2, _, rfl, rfl, ?_⟩
    rw [if_neg (by omega), if_neg (by omega), if_neg (by omega), if_neg (by omega), if_pos c]
  · rw [if_neg (by omega), if_neg (by omega), if_neg (by omega), if_neg (by omega), if_neg (by omega), if_pos c, ← t1, ← e]; unfold tmo; rw [if_pos c0]
  · rw [if_neg (by omega), if_neg (by omega), if_neg (by omega), if_neg (by omega), if_neg (by omega), if_pos c, ← t1, ← e]; unfold tmo; rw [if_neg c0]
  · rw [if_neg (by omega), if_neg (by omega), if_neg (by omega), if_neg (by omega), if_neg (by omega), if_neg (by omega), if_pos c, ← t2, ← e]; unfold tmo; rw [if_pos c0]
  · rw [if_neg (by omega), if_neg (by omega), if_neg (by omega), if_neg (by omega), if_neg (by omega), if_neg (by omega), if_pos c, ← t2, ← e]; unfold tmo; rw [if_neg c0]
  · rw [if_neg (by omega), if_neg (by omega), if_neg (by omega), if_neg (by omega), if_neg (by omega), if_neg (by omega), if_neg (by omega)]
def countv (μ : pm_T) (v w : Int) : Int := if 0 ≤ v ∧ v < μ 0 7 then (if w = 0 then μ (10 + v.toNat) 0 else if w = 1 then μ (10 + v.toNat) 1 else -1) else -1
theorem e_PM_count {G : cx_T} {s : Nat} {h : ah_T} {μ : pm_T} {v w : Int} (hx : xi s h) (hm : mi h) (H : CKn μ (97 - s) h) : con G 1 0 0 m_PM_count [av_R (some 0), av_I v, av_I w] h (fun r h' => ∃ z, r = some (av_I z) ∧ h = h' ∧ z = countv μ v w) := by
  have hb0 := hb_xm hx hm
  have hs := hx.2.1
  have hc : isS (97 - s) := by unfold isS at *; omega
  have V := H.2.2.2.2.2
  have b := H.2.1.2.2.2
  refine c_PM_count hb0 (fun _ _ => ?_)
  unfold B_PM_count_0 B_PM_count_37 countv
  refine con_mono (t_Score_voiceAt hb0 hc H) ?_
  rintro r h2 ⟨hb2, rfl, ⟨q1, q2, rfl⟩ | ⟨q1, rfl⟩⟩
  · have hv : ((v.toNat : Nat) : Int) < μ 0 7 := by omega
    refine ⟨_, rfl, hb2, Or.inr ⟨_, rfl, vS hc (by omega), fun c x e _ _ => ⟨_, rfl, rfl, ?_⟩, fun c => ⟨fun c1 x e _ _ => ⟨_, rfl, rfl, ?_⟩, fun c1 => ⟨_, rfl, rfl, ?_⟩⟩⟩⟩
    · rw [if_pos ⟨q1, q2⟩, if_pos c]; exact e.trans (V _ hv).1.1.1
    · rw [if_pos ⟨q1, q2⟩, if_neg c, if_pos c1]; exact e.trans (V _ hv).1.1.2
    · rw [if_pos ⟨q1, q2⟩, if_neg c, if_neg c1]
  · exact ⟨_, rfl, hb2, Or.inl ⟨rfl, _, rfl, rfl, by rw [if_neg q1]⟩⟩
theorem t_MD_isVoice {G : cx_T} {s : Nat} {h : ah_T} {μ : pm_T} {v : Int} (hb0 : hb s h) (H : KSn μ h) : con G 0 0 0 m_MD_isVoice [av_R (some 170), av_I v] h (fun r h' => hb s h' ∧ h' = h ∧ r = some (av_I (if 0 ≤ v ∧ v < μ 0 7 then 1 else 0))) := by
  refine c_MD_isVoice hb0 (fun _ => ?_)
  unfold B_MD_isVoice_0 B_MD_isVoice_18 B_MD_isVoice_19
  refine ⟨fun c => ⟨Or.inl rfl, hb0, rfl, by rw [if_neg (by omega)]⟩, fun c x e _ _ => ?_⟩
  have ex : x = μ 0 7 := e.trans H.1.1
  exact ⟨fun c1 => ⟨Or.inl rfl, hb0, rfl, by rw [if_neg (by omega)]⟩, fun c1 => ⟨Or.inr rfl, hb0, rfl, by rw [if_pos (by omega)]⟩⟩
theorem e_MD_count {G : cx_T} {s : Nat} {h : ah_T} {μ : pm_T} {v w : Int} (hx : xi s h) (hm : mi h) (H : SRq μ h) : con G 1 0 0 m_MD_count [av_R (some 170), av_I v, av_I w] h (fun r h' => ∃ z, r = some (av_I z) ∧ h = h' ∧ z = countv μ v w) := by
  have hb0 := hb_xm hx hm
  obtain ⟨K, -⟩ := H
  have V := K.2.2.2.2.2
  have b := K.2.1.2.2.2
  refine c_MD_count hb0 (fun _ _ => ?_)
  unfold B_MD_count_0 B_MD_count_17 B_MD_count_38 countv
  refine con_mono (t_MD_isVoice hb0 K) ?_
  rintro r h2 ⟨hb2, rfl, rfl⟩
  refine ⟨_, rfl, hb2, fun c => ⟨_, rfl, rfl, ?_⟩, fun c => ?_⟩
  · split at c
    · exact absurd c (by decide)
    · rename_i q
      rw [if_neg q]
  · have q : 0 ≤ v ∧ v < μ 0 7 := by
      split at c
      · assumption
      · exact absurd rfl c
    have hv : ((v.toNat : Nat) : Int) < μ 0 7 := by omega
    rw [if_pos q]
    refine ⟨fun c1 => ⟨_, rfl, rfl, ?_⟩, fun c1 => ⟨fun c2 => ⟨fun c3 => ⟨by omega, fun x e _ _ => ⟨_, rfl, rfl, ?_⟩⟩, fun c3 => ⟨by omega, fun x e _ _ => ⟨_, rfl, rfl, ?_⟩⟩⟩, fun c2 => ⟨_, rfl, rfl, ?_⟩⟩⟩
    · rw [if_neg (by omega), if_neg (by omega)]
    · rw [if_pos c3]; exact e.trans (V _ hv).1.1
    · rw [if_neg c3, if_pos (by omega)]; exact e.trans (V _ hv).1.2
    · rw [if_neg (by omega), if_neg (by omega)]
