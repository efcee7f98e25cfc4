/-! ===== what the law carries: both tell one tape, one place, one score ===== -/
def tmo (x : Int) : Int := if x = 0 then 4 else x
def TCt (T : Nat → Int) (n : Nat) (h : ah_T) : Prop := h.2.1 0 1 = (n : Int) ∧ ∀ j, j < n → h.2.1 1 j = T j ∧ 0 ≤ T j ∧ T j ≤ 255
def TRt (T : Nat → Int) (n : Nat) (h : ah_T) : Prop := h.2.1 170 1 = (n : Int) ∧ ∀ j, j < n → h.2.1 171 j = T j
def TPq (h : ah_T) : Prop := ∃ (T : Nat → Int) (n : Nat), n ≤ 2000 ∧ TCt T n h ∧ TRt T n h
/-- a memory that a text gave, or the one of the start -/
def OKm (μ : pm_T) : Prop := (∃ X : tx_T, XA X ∧ sp_score X.2.2.1 = .inr μ) ∨ μ = sco0
def SRq (μ : pm_T) (h : ah_T) : Prop := KSn μ h ∧ tmo (h.2.1 173 0) = μ 0 1 ∧ tmo (h.2.1 174 0) = μ 0 2 ∧ OKm μ ∧ (0 < μ 0 7 → h.2.1 173 0 = μ 0 1 ∧ h.2.1 174 0 = μ 0 2)
theorem OKm_t {μ : pm_T} (H : OKm μ) : TMg μ := by
  rcases H with ⟨X, -, e⟩ | rfl
  · exact tg_score e
  · unfold TMg sco0
    refine ⟨⟨?_, ?_⟩, ⟨?_, ?_⟩, ?_⟩ <;> simp [up2, pwb]
def SCq (s : Nat) (h : ah_T) : Prop := ∃ μ : pm_T, CKn μ (97 - s) h ∧ SRq μ h
def EX (s : Nat) (h : ah_T) : Prop := TPq h ∧ h.2.1 0 4 = h.2.1 170 13 ∧ SCq s h
theorem sm_fr {W : Nat → Prop} {h h' : ah_T} (f : ∀ a, ¬ W a → same3 h h' a) (h3 : ¬ W 3) : fr (fun a _ => W a) h h' :=
  ⟨fun a k q => ⟨congrFun (f a q).1 k, congrFun (f a q).2.1 k⟩, fun e => by rw [(f 3 h3).2.2]; exact e⟩
theorem sh_sym {G : cx_T} {h h' : ah_T} (S : sameH G h h') : sameH G h' h := by
  obtain ⟨t, a, b⟩ := S
  exact ⟨t, b, a⟩
theorem CK_s {s : Nat} {μ : pm_T} {h h' : ah_T} (hs : isS s) (H : CKn μ (97 - s) h) (f : ∀ a, 17 ≤ a → a < 143 → same3 h h' a) : CKn μ (97 - s) h' := by
  have H' : CKn μ (97 - s) (h.1, h.2.1, h.2.2.1, fun _ _ => none) := H
  have f' : fr (fun a _ => ¬ (17 ≤ a ∧ a < 143)) (h.1, h.2.1, h.2.2.1, fun _ _ => none) h' := ⟨fun a k q => by
    have q2 : 17 ≤ a ∧ a < 143 := Decidable.of_not_not q
    exact ⟨congrFun (f a q2.1 q2.2).1 k, congrFun (f a q2.1 q2.2).2.1 k⟩, fun e => by cases e⟩
  refine CKn_f H' f' (fun a k q => ?_)
  unfold isS at hs
  omega
theorem KS_s2 {μ : pm_T} {h h' : ah_T} (H : SRq μ h) (f : ∀ a k, 172 ≤ a → a ≤ 200 → h'.2.1 a k = h.2.1 a k ∧ h'.2.2.1 a k = h.2.2.1 a k) : SRq μ h' := by
  obtain ⟨K, t1, t2, T, t3⟩ := H
  refine ⟨KSn_g K (fun a k q => f a k ?_ ?_), ?_, ?_, T, ?_⟩
  · rcases q with ⟨p1, p2⟩ | ⟨p1, p2⟩ | ⟨p1, p2⟩ | ⟨p1, p2⟩ | ⟨p1, p2⟩ | ⟨p1, p2⟩ | ⟨p1, p2⟩ | ⟨p1, p2⟩ <;> omega
  · rcases q with ⟨p1, p2⟩ | ⟨p1, p2⟩ | ⟨p1, p2⟩ | ⟨p1, p2⟩ | ⟨p1, p2⟩ | ⟨p1, p2⟩ | ⟨p1, p2⟩ | ⟨p1, p2⟩ <;> omega
  · rw [(f 173 0 (by decide) (by decide)).1]; exact t1
  · rw [(f 174 0 (by decide) (by decide)).1]; exact t2
  · rw [(f 173 0 (by decide) (by decide)).1, (f 174 0 (by decide) (by decide)).1]; exact t3
theorem TC_e {T : Nat → Int} {n : Nat} {h h' : ah_T} (H : TCt T n h) (f0 : h'.2.1 0 1 = h.2.1 0 1) (f1 : h'.2.1 1 = h.2.1 1) : TCt T n h' := by
  unfold TCt
  rw [f0, f1]
  exact H
theorem TR_e {T : Nat → Int} {n : Nat} {h h' : ah_T} (H : TRt T n h) (f0 : h'.2.1 170 1 = h.2.1 170 1) (f1 : h'.2.1 171 = h.2.1 171) : TRt T n h' := by
  unfold TRt
  rw [f0, f1]
  exact H
/-- the class's other calls -/
theorem EX_c {s : Nat} {h h' : ah_T} (E : EX s h) (k : kF FC s h h') : EX s h' := by
  obtain ⟨⟨T, n, hn, c, r⟩, p, μ, C, R⟩ := E
  obtain ⟨hx, f⟩ := k
  have g : ∀ a, a < 143 ∨ 170 ≤ a → same3 h h' a := fun a q => f a q
  refine ⟨⟨T, n, hn, TC_e c (congrFun (g 0 (by decide)).1 1) (g 1 (by decide)).1, TR_e r (congrFun (g 170 (by decide)).1 1) (g 171 (by decide)).1⟩, ?_, μ, CK_s hx.2.1 C (fun a q1 q2 => g a (Or.inl q2)), KS_s2 R (fun a k q1 q2 => ⟨congrFun (g a (by omega)).1 k, congrFun (g a (by omega)).2.1 k⟩)⟩
  rw [(g 0 (by decide)).1, (g 170 (by decide)).1]
  exact p
/-- the reference's other calls -/
theorem EX_m {s : Nat} {F A : List Nat} {h h' : ah_T} (E : EX s h) (hs : isS s) (kn : kM (pm F A) h h') (hA : A.all (fun x => decide (200 < x)) = true) (hF : F.contains 1 = false) (hF2 : F.contains 13 = false) : EX s h' := by
  obtain ⟨⟨T, n, hn, c, r⟩, p, μ, C, R⟩ := E
  obtain ⟨-, f, k1, k2⟩ := kn
  have hP : ∀ a k, 171 ≤ a → a ≤ 200 → pm F A a k = false := by
    intro a k q1 q2
    have n1 : (a == 170) = false := by simp; omega
    have n2 : A.contains a = false := by
      cases c : A.contains a with
      | false => rfl
      | true =>
        have := of_decide_eq_true (List.all_eq_true.mp hA a (by simpa using c))
        omega
    unfold pm
    rw [n1, n2]
    rfl
  have nA : A.contains 170 = false := by
    cases c : A.contains 170 with
    | false => rfl
    | true =>
      have := of_decide_eq_true (List.all_eq_true.mp hA 170 (by simpa using c))
      omega
  have h1 : pm F A 170 1 = false := by
    unfold pm
    rw [hF, nA]
    rfl
  have h13 : pm F A 170 13 = false := by
    unfold pm
    rw [hF2, nA]
    rfl
  refine ⟨⟨T, n, hn, TC_e c (congrFun (f 0 (by decide)).1 1) (f 1 (by decide)).1, TR_e r (k1 170 1 h1) (funext fun j => k1 171 j (hP 171 j (by decide) (by decide)))⟩, ?_, μ, CK_s hs C (fun a q1 q2 => f a (by omega)), KS_s2 R (fun a k q1 q2 => ⟨k1 a k (hP a k (by omega) q2), k2 a k (hP a k (by omega) q2)⟩)⟩
  rw [(f 0 (by decide)).1, k1 170 13 h13]
  exact p
/-- between the two feeds -/
def FDq (s : Nat) (a b c d e : Int) (h : ah_T) : Prop := (∃ (T : Nat → Int) (n : Nat), n ≤ 2000 ∧ TRt T n h ∧ ((n + 20 ≤ 2000 ∧ TCt T (n + 20) h ∧ ∀ j, j < 20 → T (n + j) = fdb a b c d e j) ∨ (¬ n + 20 ≤ 2000 ∧ TCt T n h))) ∧ h.2.1 0 4 = h.2.1 170 13 ∧ SCq s h
theorem TC_ag {T : Nat → Int} {n : Nat} {h h' : ah_T} (hn : n ≤ 2000) (H : TCt T n h) (A : agI h h') : TCt T n h' :=
  ⟨(A 0 1 (by decide +kernel)).trans H.1, fun j hj => ⟨(A 1 j (ic0 (n := 2000) (by decide +kernel) (by omega))).trans (H.2 j hj).1, (H.2 j hj).2⟩⟩
theorem TR_ag {T : Nat → Int} {n : Nat} {h h' : ah_T} (hn : n ≤ 2000) (H : TRt T n h) (A : agI h h') : TRt T n h' :=
  ⟨(A 170 1 (by decide +kernel)).trans H.1, fun j hj => (A 171 j (ic0 (n := 2000) (by decide +kernel) (by omega))).trans (H.2 j hj)⟩
theorem e_PM_feed {G : cx_T} {s : Nat} {h : ah_T} {a b c d e : Int} (hx : xi s h) (hm : mi h) (E : EX s h) : con G 1 0 0 m_PM_feed [av_R (some 0), av_I a, av_I b, av_I c, av_I d, av_I e] h (fun r h' => ∃ z, r = some (av_I z) ∧ ((-3) ≤ z ∧ z ≤ 2000) ∧ ((h.2.1 0 1 ≤ 1980 → z = h.2.1 0 1 + 20 ∧ h'.2.1 0 1 = h.2.1 0 1 + 20) ∧ (1980 < h.2.1 0 1 → z = -3 ∧ h'.2.1 0 1 = h.2.1 0 1)) ∧ kF FA s h h' ∧ FDq s a b c d e h') := by
  obtain ⟨⟨T, n, hn, tc, tr⟩, p, μ, C, R⟩ := E
  have hb0 := hb_xm hx hm
  refine con_mono (con_conj (h2 := h) (s_PM_feed hx) (t_PM_feed hb0 tc.1 hn)) ?_
  rintro r h' ⟨⟨z, q1, q2, q3, kf⟩, r2, h2, ⟨hb2, q⟩, -, S⟩
  refine ⟨z, q1, q2, q3, kf, ?_, ?_, μ, CK_s hx.2.1 C (fun a q1 q2 => kf.2 a (Or.inl ⟨q1, q2⟩)), KS_s2 R (fun a k q1 q2 => ⟨congrFun (kf.2 a (Or.inr (by omega))).1 k, congrFun (kf.2 a (Or.inr (by omega))).2.1 k⟩)⟩
  all_goals have A : agI h2 h' := agI_of hb2.1 kf.1.1 (sh_sym S)
  · have tr' : TRt T n h' := TR_e tr (congrFun (kf.2 170 (Or.inr (by decide))).1 1) (kf.2 171 (Or.inr (by decide))).1
    rcases q with ⟨w1, -, w3, w4, w5⟩ | ⟨w1, -, rfl⟩
    · refine ⟨fun j => if j < n then T j else fdb a b c d e (j - n), n, hn, ⟨tr'.1, fun j hj => ?_⟩, Or.inl ⟨w1, TC_ag w1 ⟨by rw [w4]; omega, fun j hj => ?_⟩ A, fun j hj => ?_⟩⟩
      · dsimp only
        rw [if_pos hj]
        exact tr'.2 j hj
      · dsimp only
        by_cases c : j < n
        · rw [if_pos c, fr_g w3 (by omega)]
          exact tc.2 j c
        · have := w5 (j - n) (by omega)
          rw [show n + (j - n) = j by omega] at this
          rw [if_neg c]
          exact ⟨this, fdb_b _ _ _ _ _ _⟩
      · dsimp only
        rw [if_neg (by omega), show n + j - n = j by omega]
    · exact ⟨T, n, hn, tr', Or.inr ⟨w1, TC_ag hn tc A⟩⟩
  · rw [A 0 4 (by decide +kernel), (kf.2 170 (Or.inr (by decide))).1, ← p]
    rcases q with ⟨w1, -, w3, w4, w5⟩ | ⟨w1, -, rfl⟩
    · exact fr_g w3 (by omega)
    · rfl
