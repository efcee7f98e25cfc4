/-! ===== judge, the reference ===== -/
def MLl (l : List JQ) (h : ah_T) : Prop := h.2.1 170 80 = (l.length : Int) ∧ ∀ (k : Nat) (q : JQ), l[k]? = some q → h.2.1 221 k = q.1 ∧ h.2.1 222 k = q.2.1 ∧ h.2.1 223 k = q.2.2.1 ∧ h.2.1 224 k = q.2.2.2
theorem MLl_f {l : List JQ} {h h' : ah_T} (H : MLl l h) (e : h'.2.1 = h.2.1) : MLl l h' := by
  unfold MLl
  rw [e]
  exact H
abbrev JWt : Nat → Nat → Prop := fun a k => (a = 170 ∧ k = 80) ∨ (221 ≤ a ∧ a ≤ 224)
theorem fr_tm {h h' : ah_T} (f : fr JWt h h') : fr JWm h h' := fr_w f (fun a k w => by rcases w with w | w <;> omega)
section
variable {G : cx_T} {s n e : Nat} {h : ah_T} {μ : pm_T} {l : List JQ}
theorem m_tell {a b c d : Int} (hb0 : hb s h) (J : MLl l h) (hl : l.length < 8000) : con G 0 0 0 m_MD_tell [av_R (some 170), av_I a, av_I b, av_I c, av_I d] h (fun r h' => r = none ∧ hb s h' ∧ fr JWm h h' ∧ MLl (l ++ [(a, b, c, d)]) h') := by
  obtain ⟨j1, j2⟩ := J
  refine c_MD_tell hb0 (fun _ _ _ _ => ?_)
  unfold B_MD_tell_0 B_MD_tell_51
  intro x1 e1 _ _
  obtain rfl := e1.trans j1
  refine ⟨fun q => by omega, fun q => ⟨by omega, ?_⟩⟩
  rw [tn_c]
  intro h5 e5 h9 e9 h13 e13 h17 e17 x e _ _
  have ex : x = (l.length : Int) := by rw [e, mm_i e17 (by omega), mm_i e13 (by omega), mm_i e9 (by omega), mm_i e5 (by omega)]; exact j1
  subst ex
  refine ⟨⟨by omega, by omega⟩, fun h3 e3 => ⟨rfl, hb_i (hb_i (hb_i (hb_i (hb_i hb0 e5) e9) e13) e17) e3, fr_i (fr_i (fr_i (fr_i (fr_i fr_0 e5 (by omega)) e9 (by omega)) e13 (by omega)) e17 (by omega)) e3 (by omega), ?_, fun k q hq => ?_⟩⟩
  · rw [mv_i e3, List.length_append]
    rfl
  · by_cases ck : k = l.length
    · subst ck
      rw [List.getElem?_concat_length] at hq
      obtain rfl := Option.some.inj hq
      refine ⟨?_, ?_, ?_, ?_⟩
      · rw [mm_i e3 (by omega), mm_i e17 (by omega), mm_i e13 (by omega), mm_i e9 (by omega), mv_i e5]
      · rw [mm_i e3 (by omega), mm_i e17 (by omega), mm_i e13 (by omega), mv_i e9]
      · rw [mm_i e3 (by omega), mm_i e17 (by omega), mv_i e13]
      · rw [mm_i e3 (by omega), mv_i e17]
    · have kl : k < l.length := by
        by_cases c : k < l.length
        · exact c
        · rw [List.getElem?_eq_none (by rw [List.length_append]; show l.length + 1 ≤ k; omega)] at hq
          cases hq
      rw [List.getElem?_append_left kl] at hq
      have o : ∀ x, 221 ≤ x → h3.2.1 x k = h.2.1 x k := fun x hx => by
        rw [mm_i e3 (by omega), mm_i e17 (by omega), mm_i e13 (by omega), mm_i e9 (by omega), mm_i e5 (by omega)]
      rw [o 221 (by decide), o 222 (by decide), o 223 (by decide), o 224 (by decide)]
      exact j2 k q hq
theorem croF_0 (hp : ¬ 1 ≤ pt μ n e) : ∀ k, croF μ n e k = []
  | 0 => rfl
  | k + 1 => by
    show croF μ n e k ++ pif (CRs μ k n e) _ = []
    rw [croF_0 hp k, pif_f (fun w => hp w.1)]
    rfl
theorem parF_0 (hp : ¬ 1 ≤ pt μ n e) : ∀ k, parF μ n e k = []
  | 0 => rfl
  | k + 1 => by
    show parF μ n e k ++ pif (PAs μ k n e) _ = []
    rw [parF_0 hp k, pif_f (fun w => by obtain ⟨-, j, b⟩ := w; exact hp b.2.2.1.1)]
    rfl
theorem parF_1 (he : ¬ 1 ≤ e) : ∀ k, parF μ n e k = []
  | 0 => rfl
  | k + 1 => by
    show parF μ n e k ++ pif (PAs μ k n e) _ = []
    rw [parF_1 he k, pif_f (fun w => he w.1)]
    rfl
theorem m_event (hb0 : hb s h) (H : MV μ h) (hn : (n : Int) < μ 0 7) (he : (e : Int) < μ (10 + n) 0) (J : MLl l h) (hl : l.length + (2 + 2 * n) ≤ 8000) : con G 5 0 0 m_MD_judgeEvent [av_R (some 170), av_I (n : Int), av_I (e : Int)] h (fun r h' => r = none ∧ hb s h' ∧ fr JWm h h' ∧ MLl (l ++ evF μ n e) h') := by
  obtain ⟨hN1, -, hN, -, n4⟩ := MV_n H hn
  have GG := H.2.1
  have la := aloF_l (μ := μ) (n := n) (e := e)
  have lc := fun k => croF_l (μ := μ) (n := n) (e := e) (k := k)
  have lpp := fun k => parF_l (μ := μ) (n := n) (e := e) (k := k)
  have l133 : ∀ (v3 v4 : Int) (hh : ah_T), hb s hh → (v3 = 300 * (n : Int) + (e : Int) ∧ fr JWm h hh ∧ ∃ k : Nat, v4 = (k : Int) ∧ k ≤ n ∧ MLl (l ++ aloF μ n e ++ croF μ n e n ++ parF μ n e k) hh) → aw G (rm_R 5 0 0) m_MD_judgeEvent 0 0 133 [some (av_R (some 170)), some (av_I (n : Int)), some (av_I (e : Int)), some (av_I v3), some (av_I v4)] [] hh (fun r h' => r = none ∧ hb s h' ∧ fr JWm h h' ∧ MLl (l ++ evF μ n e) h') := by
    refine lp_MD_judgeEvent_133 _ (fun _ v4 _ => (5 - v4).toNat) ?_
    rintro v3 v4 hh hb1 ⟨rfl, f, k, rfl, hk, J1⟩
    have H1 := MV_f H f JWm_w
    unfold B_MD_judgeEvent_133 B_MD_judgeEvent_162
    have nxt : ∀ {h' : ah_T}, fr JWm h h' → MLl (l ++ aloF μ n e ++ croF μ n e n ++ parF μ n e (k + 1)) h' → (k : Int) < n → ((-2147483648) ≤ ((k : Int) + 1) ∧ ((k : Int) + 1) ≤ 2147483647) ∧ ((300 * (n : Int) + (e : Int) = 300 * (n : Int) + (e : Int) ∧ fr JWm h h' ∧ ∃ k' : Nat, (k : Int) + 1 = (k' : Int) ∧ k' ≤ n ∧ MLl (l ++ aloF μ n e ++ croF μ n e n ++ parF μ n e k') h') ∧ (5 - ((k : Int) + 1)).toNat < (5 - (k : Int)).toNat) := fun f' J' q => ⟨⟨by omega, by omega⟩, ⟨rfl, f', k + 1, by omega, by omega, J'⟩, by omega⟩
    refine ⟨fun q => ⟨rfl, hb1, f, ?_⟩, fun q => ⟨fun q2 => nxt f ?_ (by omega), fun q2 => ?_⟩⟩
    · obtain rfl : k = n := by omega
      unfold evF
      rw [← List.append_assoc, ← List.append_assoc]
      exact J1
    · rw [parF_1 (by omega)] at J1 ⊢
      exact J1
    have ho : (k : Int) < μ 0 7 := by omega
    refine con_mono (m_goesAlong hb1 H1 hn he ho (by omega)) ?_
    rintro r h2 ⟨z, rfl, hb2, rfl, zz⟩
    have pS : ∀ X, parF μ n e (k + 1) = X ↔ parF μ n e k ++ pif (PAs μ k n e) [(5, (n : Int), (e : Int), (k : Int))] = X := fun X => Iff.rfl
    refine ⟨z, rfl, hb2, fun q3 => nxt f ?_ (by omega), fun q3 => ?_⟩
    · have no : ¬ PAs μ k n e := by
        rcases zz with ⟨-, x⟩ | ⟨x, -⟩
        · exact x
        · omega
      have : parF μ n e (k + 1) = parF μ n e k := by rw [pS, pif_f no, List.append_nil]
      rw [this]
      exact J1
    · have yes : PAs μ k n e := by
        rcases zz with ⟨x, -⟩ | ⟨-, x⟩
        · exact absurd x q3
        · exact x
      have a1 := lc n
      have a2 := lpp k
      refine con_mono (m_tell hb2 J1 (by rw [List.length_append, List.length_append, List.length_append]; omega)) ?_
      rintro r h3 ⟨rfl, hb3, f3, J3⟩
      refine ⟨rfl, hb3, nxt (fr_t f f3 (fun _ _ w => w)) ?_ (by omega)⟩
      have : parF μ n e (k + 1) = parF μ n e k ++ [(5, (n : Int), (e : Int), (k : Int))] := by rw [pS, pif_t yes]
      rw [this, ← List.append_assoc]
      exact J3
  have l99 : 1 ≤ pt μ n e → ∀ (v3 v4 : Int) (hh : ah_T), hb s hh → (v3 = 300 * (n : Int) + (e : Int) ∧ fr JWm h hh ∧ ∃ k : Nat, v4 = (k : Int) ∧ k ≤ n ∧ MLl (l ++ aloF μ n e ++ croF μ n e k) hh) → aw G (rm_R 5 0 0) m_MD_judgeEvent 0 0 99 [some (av_R (some 170)), some (av_I (n : Int)), some (av_I (e : Int)), some (av_I v3), some (av_I v4)] [] hh (fun r h' => r = none ∧ hb s h' ∧ fr JWm h h' ∧ MLl (l ++ evF μ n e) h') := by
    intro hp
    refine lp_MD_judgeEvent_99 l133 _ (fun _ v4 _ => (5 - v4).toNat) ?_
    rintro v3 v4 hh hb1 ⟨rfl, f, k, rfl, hk, J1⟩
    have H1 := MV_f H f JWm_w
    unfold B_MD_judgeEvent_99 B_MD_judgeEvent_124
    have nxt : ∀ {h' : ah_T}, fr JWm h h' → MLl (l ++ aloF μ n e ++ croF μ n e (k + 1)) h' → (k : Int) < n → ((-2147483648) ≤ ((k : Int) + 1) ∧ ((k : Int) + 1) ≤ 2147483647) ∧ ((300 * (n : Int) + (e : Int) = 300 * (n : Int) + (e : Int) ∧ fr JWm h h' ∧ ∃ k' : Nat, (k : Int) + 1 = (k' : Int) ∧ k' ≤ n ∧ MLl (l ++ aloF μ n e ++ croF μ n e k') h') ∧ (5 - ((k : Int) + 1)).toNat < (5 - (k : Int)).toNat) := fun f' J' q => ⟨⟨by omega, by omega⟩, ⟨rfl, f', k + 1, by omega, by omega, J'⟩, by omega⟩
    refine ⟨fun q => ⟨rfl, f, 0, rfl, Nat.zero_le _, ?_⟩, fun q => ?_⟩
    · obtain rfl : k = n := by omega
      show MLl (l ++ aloF μ k e ++ croF μ k e k ++ []) hh
      rw [List.append_nil]
      exact J1
    have ho : (k : Int) < μ 0 7 := by omega
    refine con_mono (m_crosses hb1 H1 hn he ho hp) ?_
    rintro r h2 ⟨z, rfl, hb2, f2, i2, zz⟩
    have f2' := fr_t f (fr_sm f2) (fun _ _ w => w)
    have J2 := MLl_f J1 i2
    have pS : ∀ X, croF μ n e (k + 1) = X ↔ croF μ n e k ++ pif (CRs μ k n e) [(4, (n : Int), (e : Int), (k : Int))] = X := fun X => Iff.rfl
    refine ⟨z, rfl, hb2, fun q3 => nxt f2' ?_ (by omega), fun q3 => ?_⟩
    · have no : ¬ CRs μ k n e := by
        rcases zz with ⟨-, x⟩ | ⟨x, -⟩
        · exact x
        · omega
      have : croF μ n e (k + 1) = croF μ n e k := by rw [pS, pif_f no, List.append_nil]
      rw [this]
      exact J2
    · have yes : CRs μ k n e := by
        rcases zz with ⟨x, -⟩ | ⟨-, x⟩
        · exact absurd x q3
        · exact x
      have a1 := lc k
      refine con_mono (m_tell hb2 J2 (by rw [List.length_append, List.length_append]; omega)) ?_
      rintro r h3 ⟨rfl, hb3, f3, J3⟩
      refine ⟨rfl, hb3, nxt (fr_t f2' f3 (fun _ _ w => w)) ?_ (by omega)⟩
      have : croF μ n e (k + 1) = croF μ n e k ++ [(4, (n : Int), (e : Int), (k : Int))] := by rw [pS, pif_t yes]
      rw [this, ← List.append_assoc]
      exact J3
  by_cases hp : 1 ≤ pt μ n e
  all_goals obtain ⟨⟨y1, y2, -⟩, -, yb, yk⟩ := MV_e H hn he
  all_goals have hT := ((GG.2.2 n hn).2.2.2.1 e he).2.1
  · refine c_MD_judgeEvent (l99 hp) hb0 (fun _ _ => ?_)
    unfold B_MD_judgeEvent_0
    have go : ∀ {h1 : ah_T} {l1 : List JQ}, hb s h1 → fr JWm h h1 → MLl l1 h1 → l1.length < 8000 → l1 ++ pif (LPs μ n e) [(3, (n : Int), (e : Int), 0)] = l ++ aloF μ n e → B_MD_judgeEvent_34 G s n e (300 * (n : Int) + (e : Int)) h1 (fun r h' => r = none ∧ hb s h' ∧ fr JWm h h' ∧ MLl (l ++ evF μ n e) h') (fun v3 v4 hh => v3 = 300 * (n : Int) + (e : Int) ∧ fr JWm h hh ∧ ∃ k : Nat, v4 = (k : Int) ∧ k ≤ n ∧ MLl (l ++ aloF μ n e ++ croF μ n e k) hh) := by
      intro h1 l1 hb1 f1 J1 hl1 el
      have H1 := MV_f H f1 JWm_w
      unfold B_MD_judgeEvent_34 B_MD_judgeEvent_88 B_MD_judgeEvent_96
      have fin : ∀ {h2 : ah_T}, fr JWm h h2 → MLl (l ++ aloF μ n e) h2 → (300 * (n : Int) + (e : Int) = 300 * (n : Int) + (e : Int) ∧ fr JWm h h2 ∧ ∃ k : Nat, (0 : Int) = (k : Int) ∧ k ≤ n ∧ MLl (l ++ aloF μ n e ++ croF μ n e k) h2) := fun f2 J2 => ⟨rfl, f2, 0, rfl, Nat.zero_le _, by show MLl (l ++ aloF μ n e ++ []) _; rw [List.append_nil]; exact J2⟩
      have no : ¬ LPs μ n e → MLl (l ++ aloF μ n e) h1 := fun q => by
        rw [← el, pif_f q, List.append_nil]
        exact J1
      refine ⟨by omega, ?_⟩
      rw [nx300]
      intro x2 e2 _ _
      obtain rfl := e2.trans (MV_e H1 hn he).1.1
      refine ⟨fun q => by omega, fun q => ⟨fun q2 => fin f1 (no (fun w => by have := w.1; omega)), fun q2 => ?_⟩⟩
      have he1 : ((e - 1 : Nat) : Int) < μ (10 + n) 0 := by omega
      refine ⟨⟨by omega, by omega⟩, by omega, ?_⟩
      rw [show 300 * (n : Int) + (e : Int) - 1 = 300 * (n : Int) + ((e - 1 : Nat) : Int) by omega, nx300]
      intro x6 e6 _ _
      obtain rfl := e6.trans (MV_e H1 hn he1).1.1
      refine ⟨fun q3 => fin f1 (no (fun w => by have := w.2.2.1; omega)), fun q3 => ?_⟩
      have k1 := ky_b (k := 0) (p := 0) GG hn he (by omega)
      have k2 := ky_b (k := 0) (p := 0) GG hn he1 (by omega)
      refine con_mono (m_lowest hb1 H1 hn he hp) ?_
      rintro r h4 ⟨a, rfl, hb4, rfl, rfl⟩
      refine ⟨_, rfl, hb4, ?_⟩
      refine con_mono (m_lowest hb4 H1 hn he1 (by omega)) ?_
      rintro r h5 ⟨b, rfl, hb5, rfl, rfl⟩
      have tl : LPs μ n e → con G 0 0 0 m_MD_tell [av_R (some 170), av_I 3, av_I (n : Int), av_I (e : Int), av_I 0] h5 (fun r h1 => r = none ∧ hb s h1 ∧ (300 * (n : Int) + (e : Int) = 300 * (n : Int) + (e : Int) ∧ fr JWm h h1 ∧ ∃ k : Nat, (0 : Int) = (k : Int) ∧ k ≤ n ∧ MLl (l ++ aloF μ n e ++ croF μ n e k) h1)) := fun w => by
        refine con_mono (m_tell hb5 J1 hl1) ?_
        rintro r h6 ⟨rfl, hb6, f6, J6⟩
        refine ⟨rfl, hb6, fin (fr_t f1 f6 (fun _ _ w => w)) ?_⟩
        rw [← el, pif_t w]
        exact J6
      exact ⟨_, rfl, hb5, ⟨by omega, by omega⟩, fun q4 => tl ⟨by omega, hp, by omega, Or.inl q4⟩, fun q4 => ⟨fun q5 => fin f1 (no (fun w => by have := w.2.2.2; omega)), fun q5 => tl ⟨by omega, hp, by omega, Or.inr (by omega)⟩⟩⟩
    refine ⟨⟨by omega, by omega⟩, ⟨by omega, by omega⟩, by omega, ?_⟩
    rw [nx300]
    intro x4 e4 x4b
    obtain rfl := e4.trans y2
    have un : ∀ X, l ++ aloF μ n e = X ↔ l ++ (pif (μ (100 + 40 * n + 5) e = 1 ∧ ¬ Hld μ n e) [(2, (n : Int), (e : Int), 0)] ++ pif (LPs μ n e) [(3, (n : Int), (e : Int), 0)]) = X := fun X => Iff.rfl
    refine ⟨fun q => go hb0 fr_0 J (by omega) ?_, fun q => ?_⟩
    · rw [eq_comm, un, pif_f (fun w => by have := w.1; omega), List.nil_append]
    refine con_mono (m_goesOn hb0 H hn he) ?_
    rintro r h6 ⟨z, rfl, hb6, rfl, zz⟩
    refine ⟨z, rfl, hb6, fun q2 => ?_, fun q2 => go hb6 fr_0 J (by omega) ?_⟩
    · have nh : ¬ Hld μ n e := by
        rcases zz with ⟨-, x⟩ | ⟨x, -⟩
        · exact x
        · omega
      refine con_mono (m_tell hb6 J (by omega)) ?_
      rintro r h9 ⟨rfl, hb9, f9, J9⟩
      refine ⟨rfl, hb9, go hb9 f9 J9 (by rw [List.length_append]; show l.length + 1 < 8000; omega) ?_⟩
      rw [eq_comm, un, pif_t ⟨by omega, nh⟩, ← List.append_assoc]
    · have yh : Hld μ n e := by
        rcases zz with ⟨x, -⟩ | ⟨-, x⟩
        · exact absurd x q2
        · exact x
      rw [eq_comm, un, pif_f (fun w => w.2 yh), List.nil_append]
  · refine c_MD_judgeEvent (X99 := fun _ _ _ => False) (fun _ _ _ _ x => x.elim) hb0 (fun _ _ => ?_)
    unfold B_MD_judgeEvent_0
    have un : ∀ X, l ++ evF μ n e = X ↔ l ++ pif (μ (100 + 40 * n + 5) e = 1 ∧ ¬ Hld μ n e) [(2, (n : Int), (e : Int), 0)] = X := fun X => by
      unfold evF aloF
      rw [croF_0 hp, parF_0 hp, pif_f (p := LPs μ n e) (fun w => hp w.2.1), List.append_nil, List.append_nil, List.append_nil]
    have go : ∀ {h1 : ah_T}, hb s h1 → fr JWm h h1 → MLl (l ++ evF μ n e) h1 → B_MD_judgeEvent_34 G s n e (300 * (n : Int) + (e : Int)) h1 (fun r h' => r = none ∧ hb s h' ∧ fr JWm h h' ∧ MLl (l ++ evF μ n e) h') (fun _ _ _ => False) := by
      intro h1 hb1 f1 J1
      have H1 := MV_f H f1 JWm_w
      unfold B_MD_judgeEvent_34
      refine ⟨by omega, ?_⟩
      rw [nx300]
      intro x2 e2 _ _
      obtain rfl := e2.trans (MV_e H1 hn he).1.1
      exact ⟨fun q => ⟨rfl, hb1, f1, J1⟩, fun q => by omega⟩
    refine ⟨⟨by omega, by omega⟩, ⟨by omega, by omega⟩, by omega, ?_⟩
    rw [nx300]
    intro x4 e4 x4b
    obtain rfl := e4.trans y2
    refine ⟨fun q => go hb0 fr_0 ?_, fun q => ?_⟩
    · have : l ++ evF μ n e = l := by rw [un, pif_f (fun w => by have := w.1; omega), List.append_nil]
      rw [this]; exact J
    refine con_mono (m_goesOn hb0 H hn he) ?_
    rintro r h6 ⟨z, rfl, hb6, rfl, zz⟩
    refine ⟨z, rfl, hb6, fun q2 => ?_, fun q2 => go hb6 fr_0 ?_⟩
    · have nh : ¬ Hld μ n e := by
        rcases zz with ⟨-, x⟩ | ⟨x, -⟩
        · exact x
        · omega
      refine con_mono (m_tell hb6 J (by omega)) ?_
      rintro r h9 ⟨rfl, hb9, f9, J9⟩
      refine ⟨rfl, hb9, go hb9 f9 ?_⟩
      have : l ++ evF μ n e = l ++ [(2, (n : Int), (e : Int), 0)] := by rw [un, pif_t ⟨by omega, nh⟩]
      rw [this]; exact J9
    · have yh : Hld μ n e := by
        rcases zz with ⟨x, -⟩ | ⟨-, x⟩
        · exact absurd x q2
        · exact x
      have : l ++ evF μ n e = l := by rw [un, pif_f (fun w => w.2 yh), List.append_nil]
      rw [this]; exact J
end

/-! ===== judge, the reference: all voices ===== -/
section
variable {G : cx_T} {s : Nat} {h : ah_T} {μ : pm_T}
def JG7 (μ : pm_T) (h : ah_T) (v1 : Int) (hh : ah_T) : Prop := ∃ n : Nat, v1 = (n : Int) ∧ (n : Int) ≤ μ 0 7 ∧ fr JWm h hh ∧ MLl (juF μ n) hh
def JG19 (μ : pm_T) (h : ah_T) (v1 v2 : Int) (hh : ah_T) : Prop := ∃ n i : Nat, v1 = (n : Int) ∧ v2 = (i : Int) ∧ (n : Int) < μ 0 7 ∧ (i : Int) ≤ μ (10 + n) 0 + 1 ∧ fr JWm h hh ∧ MLl (juF μ n ++ voF μ n i) hh
def JG31 (μ : pm_T) (h : ah_T) (v1 v2 v3 : Int) (hh : ah_T) : Prop := ∃ n i b : Nat, v1 = (n : Int) ∧ v2 = (i : Int) ∧ v3 = (b : Int) ∧ (n : Int) < μ 0 7 ∧ (i : Int) ≤ μ (10 + n) 0 ∧ (b : Int) ≤ μ (10 + n) 1 ∧ fr JWm h hh ∧ MLl (juF μ n ++ voF μ n i ++ barF μ n i b) hh
theorem JG_l {n i b : Nat} (GG : GM μ) (hn : (n : Int) < μ 0 7) (hi : (i : Int) ≤ μ (10 + n) 0) (hb1 : (b : Int) ≤ μ (10 + n) 1) : (juF μ n ++ voF μ n i ++ barF μ n i b).length + (2 + 2 * n) ≤ 7000 := by
  have m := GG.2.2 n hn
  have m1 := m.1
  have m2 := m.2.1
  have b4 := GG.1.1
  have j := juF_l GG n (by omega)
  have v := voF_l (μ := μ) (n := n) i
  have bc := barF_c (μ := μ) (n := n) (e := i) b
  have cl := cntb_l (μ := μ) (n := n) (e := i) (μ (10 + n) 1).toNat
  have cl2 := cntb_l (μ := μ) (n := n) (e := i + 1) b
  have w : (2 + 2 * n) * i ≤ (2 + 2 * n) * 300 := Nat.mul_le_mul_left _ (by omega)
  have lb := LBj_4 n (by omega)
  unfold wEv at lb
  rw [List.length_append, List.length_append]
  omega
theorem t_MD_judge (hb0 : hb s h) (H : MV μ h) : con G 6 0 0 m_MD_judge [av_R (some 170)] h (fun r h' => r = some (av_I ((juF μ (μ 0 7).toNat).length : Int)) ∧ hb s h' ∧ fr JWm h h' ∧ MLl (juF μ (μ 0 7).toNat) h') := by
  have GG := H.2.1
  have b4 := GG.1.1
  have key : ∀ (N : Nat) (v1 v2 : Int) (hh : ah_T), hb s hh → JG19 μ h v1 v2 hh → ((10 - v1) * 1000 - v2).toNat < N → aw G (rm_R 6 0 0) m_MD_judge 0 0 19 [some (av_R (some 170)), some (av_I v1), some (av_I v2), none] [] hh (fun r h' => r = some (av_I ((juF μ (μ 0 7).toNat).length : Int)) ∧ hb s h' ∧ fr JWm h h' ∧ MLl (juF μ (μ 0 7).toNat) h') := by
    intro N
    induction N with
    | zero => intro v1 v2 hh _ _ q; omega
    | succ N ih =>
      rintro v1 v2 hh hbh ⟨n, i, rfl, rfl, hn, hi, f, J⟩ hN'
      have H1 := MV_f H f JWm_w
      have m := GG.2.2 n hn
      have m1 := m.1
      have m2 := m.2.1
      have in31 : ∀ (a1 a2 a3 : Int) (h' : ah_T), hb s h' → (JG31 μ h a1 a2 a3 h' ∧ a1 = (n : Int) ∧ a2 = (i : Int)) → aw G (rm_R 6 0 0) m_MD_judge 0 0 31 [some (av_R (some 170)), some (av_I a1), some (av_I a2), some (av_I a3)] [] h' (fun r h' => r = some (av_I ((juF μ (μ 0 7).toNat).length : Int)) ∧ hb s h' ∧ fr JWm h h' ∧ MLl (juF μ (μ 0 7).toNat) h') := by
        refine lp_MD_judge_31 (X19 := fun a b h' => JG19 μ h a b h' ∧ a = (n : Int) ∧ b = (i : Int) + 1) (fun a b h' hb' x => ih a b h' hb' x.1 (by have := x.2; omega)) _ (fun _ _ a3 _ => (200 - a3).toNat) ?_
        rintro a1 a2 a3 h' hb' ⟨⟨n', i', b, rfl, rfl, rfl, -, hi', hb2, f', J'⟩, en, ei⟩
        obtain rfl : n' = n := by omega
        obtain rfl : i' = i := by omega
        have H' := MV_f H f' JWm_w
        obtain ⟨hN1, hN2, -⟩ := MV_n H' hn
        have ll := JG_l GG hn hi' hb2
        unfold B_MD_judge_31 B_MD_judge_68 B_MD_judge_90
        refine ⟨by omega, ?_⟩
        rw [tn_c]
        intro x2 e2 _ _
        have ex := e2.trans hN2
        subst ex
        refine ⟨fun q x5 e5 _ _ => ?_, fun q => ?_⟩
        · have ex := e5.trans hN1
          subst ex
          have eb : b = (μ (10 + n') 1).toNat := by omega
          have voS : juF μ n' ++ voF μ n' (i' + 1) = juF μ n' ++ voF μ n' i' ++ barF μ n' i' b ++ pif ((i' : Int) < μ (10 + n') 0) (evF μ n' i') := by
            show juF μ n' ++ (voF μ n' i' ++ (barF μ n' i' (μ (10 + n') 1).toNat ++ pif ((i' : Int) < μ (10 + n') 0) (evF μ n' i'))) = _
            rw [← eb, ← List.append_assoc, ← List.append_assoc]
          refine ⟨fun q2 => ⟨⟨by omega, by omega⟩, ⟨n', i' + 1, rfl, by omega, hn, by omega, f', ?_⟩, rfl, rfl⟩, fun q2 => ?_⟩
          · rw [voS, pif_f (by omega), List.append_nil]
            exact J'
          · have he : (i' : Int) < μ (10 + n') 0 := by omega
            refine con_mono (m_event hb' H' hn he J' (by omega)) ?_
            rintro r h3 ⟨rfl, hb3, f3, J3⟩
            refine ⟨rfl, hb3, ⟨by omega, by omega⟩, ⟨n', i' + 1, rfl, by omega, hn, by omega, fr_t f' f3 (fun _ _ w => w), ?_⟩, rfl, rfl⟩
            rw [voS, pif_t he]
            exact J3
        have hbl : (b : Int) < μ (10 + n') 1 := by omega
        have bS : ∀ X, barF μ n' i' (b + 1) = X ↔ barF μ n' i' b ++ pif (brE μ n' b = i' ∧ ¬ WHo μ n' b) [(1, (n' : Int), (i' : Int), (b : Int))] = X := fun X => Iff.rfl
        have nxt : ∀ {h2 : ah_T}, fr JWm h h2 → MLl (juF μ n' ++ voF μ n' i' ++ barF μ n' i' (b + 1)) h2 → ((-2147483648) ≤ ((b : Int) + 1) ∧ ((b : Int) + 1) ≤ 2147483647) ∧ ((JG31 μ h (n' : Int) (i' : Int) ((b : Int) + 1) h2 ∧ (n' : Int) = (n' : Int) ∧ (i' : Int) = (i' : Int)) ∧ (200 - ((b : Int) + 1)).toNat < (200 - (b : Int)).toNat) := fun f2 J2 => ⟨⟨by omega, by omega⟩, ⟨⟨n', i', b + 1, rfl, rfl, by omega, hn, hi', by omega, f2, J2⟩, rfl, rfl⟩, by omega⟩
        refine con_mono (m_firstOf hb' H' hn hbl) ?_
        rintro r h2 ⟨rfl, hb2', rfl⟩
        refine ⟨_, rfl, hb2', fun q2 => ?_, fun q2 => nxt f' ?_⟩
        rotate_left
        · have : barF μ n' i' (b + 1) = barF μ n' i' b := by rw [bS, pif_f (fun w => q2 (by rw [w.1])), List.append_nil]
          rw [this]
          exact J'
        refine con_mono (m_isWhole hb2' H' hn hbl) ?_
        rintro r h3 ⟨z, rfl, hb3, f3, i3, zz⟩
        have f3' := fr_t f' (fr_sm f3) (fun _ _ w => w)
        have J3 := MLl_f J' i3
        refine ⟨z, rfl, hb3, fun q3 => ?_, fun q3 => nxt f3' ?_⟩
        · have no : ¬ WHo μ n' b := by
            rcases zz with ⟨-, x⟩ | ⟨x, -⟩
            · exact x
            · omega
          refine con_mono (m_tell hb3 J3 (by omega)) ?_
          rintro r h4 ⟨rfl, hb4, f4, J4⟩
          refine ⟨rfl, hb4, nxt (fr_t f3' f4 (fun _ _ w => w)) ?_⟩
          have : barF μ n' i' (b + 1) = barF μ n' i' b ++ [(1, (n' : Int), (i' : Int), (b : Int))] := by rw [bS, pif_t ⟨by omega, no⟩]
          rw [this, ← List.append_assoc]
          exact J4
        · have yes : WHo μ n' b := by
            rcases zz with ⟨x, -⟩ | ⟨-, x⟩
            · exact absurd x q3
            · exact x
          have : barF μ n' i' (b + 1) = barF μ n' i' b := by rw [bS, pif_f (fun w => w.2 yes), List.append_nil]
          rw [this]
          exact J3
      refine b_MD_judge_19 (X7 := fun a h' => JG7 μ h a h' ∧ a = (n : Int) + 1) (X31 := fun a1 a2 a3 h' => JG31 μ h a1 a2 a3 h' ∧ a1 = (n : Int) ∧ a2 = (i : Int)) ?_ in31 hbh ?_
      · rintro a h' hb' ⟨⟨n', rfl, hn', f', J'⟩, en⟩
        refine b_MD_judge_7 (X19 := fun a b h' => JG19 μ h a b h' ∧ a = (n : Int) + 1 ∧ b = 0) (fun a b h' hb' x => ih a b h' hb' x.1 (by have := x.2; omega)) hb' ?_
        have H' := MV_f H f' JWm_w
        unfold B_MD_judge_7
        intro x2 e2 _ _
        have ex := e2.trans H'.1.1.1
        subst ex
        refine ⟨fun q x3 e3 _ _ => ?_, fun q => ⟨⟨n', 0, rfl, rfl, by omega, by have := (GG.2.2 n' (by omega)).1; omega, f', by show MLl (juF μ n' ++ []) h'; rw [List.append_nil]; exact J'⟩, en, rfl⟩⟩
        have en2 : (μ 0 7).toNat = n' := by omega
        rw [en2]
        obtain rfl := e3.trans J'.1
        exact ⟨rfl, hb', f', J'⟩
      · obtain ⟨hN1, hN2, -⟩ := MV_n H1 hn
        unfold B_MD_judge_19
        refine ⟨by omega, ?_⟩
        rw [tn_c]
        intro x2 e2 _ _
        have ex := e2.trans hN1
        subst ex
        refine ⟨fun q => ⟨⟨by omega, by omega⟩, ⟨n + 1, by omega, by omega, f, ?_⟩, rfl⟩, fun q => ⟨⟨n, i, 0, rfl, rfl, rfl, hn, by omega, by omega, f, ?_⟩, rfl, rfl⟩⟩
        · show MLl (juF μ n ++ voF μ n ((μ (10 + n) 0).toNat + 1)) hh
          rw [show (μ (10 + n) 0).toNat + 1 = i by omega]
          exact J
        · show MLl (juF μ n ++ voF μ n i ++ []) hh
          rw [List.append_nil]
          exact J
  refine c_MD_judge (X7 := fun a h' => JG7 μ h a h' ∧ a = 0) ?_ hb0 ?_
  · rintro a h' hb' ⟨⟨n', rfl, hn', f', J'⟩, en⟩
    refine b_MD_judge_7 (X19 := fun a b h' => JG19 μ h a b h' ∧ a = 0 ∧ b = 0) (fun a b h' hb' x => key 20000 a b h' hb' x.1 (by have := x.2; omega)) hb' ?_
    have H' := MV_f H f' JWm_w
    unfold B_MD_judge_7
    intro x2 e2 _ _
    have ex := e2.trans H'.1.1.1
    subst ex
    refine ⟨fun q x3 e3 _ _ => ?_, fun q => ⟨⟨n', 0, rfl, rfl, by omega, by have := (GG.2.2 n' (by omega)).1; omega, f', by show MLl (juF μ n' ++ []) h'; rw [List.append_nil]; exact J'⟩, en, rfl⟩⟩
    have en2 : (μ 0 7).toNat = n' := by omega
    rw [en2]
    obtain rfl := e3.trans J'.1
    exact ⟨rfl, hb', f', J'⟩
  · unfold B_MD_judge_0
    exact fun h1 e1 => ⟨⟨0, rfl, b4.1, fr_i fr_0 e1 (Or.inl ⟨rfl, Or.inr (Or.inr rfl)⟩), ⟨mv_i e1, fun k q hq => by cases hq⟩⟩, rfl⟩
end

/-! ===== judge of both ===== -/
theorem GM_of {μ : pm_T} {c : Nat} {h : ah_T} (C : CKn μ c h) (R : SRq μ h) : GM μ := ⟨VGm_of R.2.2.2.1, OKm_t R.2.2.2.1, fun n hn => (C.2.2.2.2.2 n hn).2⟩
theorem CV_of {μ : pm_T} {s : Nat} {h : ah_T} (hx : xi s h) (C : CKn μ (97 - s) h) (R : SRq μ h) : CV μ (97 - s) h := by
  have hs := hx.2.1
  refine ⟨by unfold isS at *; omega, C, GM_of C R, fun v hv b => ?_⟩
  have hl := isV_l hv
  have := (hx.2.2.2.2.2.2.1 (v + 3) b (by omega)).2
  rw [rgV hv] at this
  exact this
theorem MV_of {μ : pm_T} {h : ah_T} (G : GM μ) (R : SRq μ h) : MV μ h := ⟨R.1, G, R.2.2.2.2⟩
theorem juF_b {μ : pm_T} (G : GM μ) : (juF μ (μ 0 7).toNat).length ≤ 6404 := by
  have b := G.1.1
  have a := juF_l G (μ 0 7).toNat (by omega)
  have d : ∀ n, n ≤ 4 → LBj n ≤ 6404 := by decide
  exact Nat.le_trans a (d _ (by omega))
theorem SR_c {μ : pm_T} {s : Nat} {h h' : ah_T} (R : SRq μ h) (k : kF FC s h h') : SRq μ h' := KS_s2 R (fun a j q1 q2 => ⟨congrFun (k.2 a (Or.inr (by omega))).1 j, congrFun (k.2 a (Or.inr (by omega))).2.1 j⟩)
theorem cv_eq {z w : Int} (e : Int32.ofInt z = Int32.ofInt w) (h1 : (-2147483648) ≤ z ∧ z ≤ 2147483647) (h2 : (-2147483648) ≤ w ∧ w ≤ 2147483647) : z = w := (i32_eq (by unfold i32; omega) (by unfold i32; omega)).mp e
theorem e_PM_judge {G : cx_T} {s : Nat} {h : ah_T} {μ : pm_T} (hx : xi s h) (hm : mi h) (C : CKn μ (97 - s) h) (R : SRq μ h) : con G 6 0 0 m_PM_judge [av_R (some 0)] h (fun r h' => ∃ z, r = some (av_I z) ∧ ((-2147483648) ≤ z ∧ z ≤ 2147483647) ∧ kF FC s h h' ∧ z = ((juF μ (μ 0 7).toNat).length : Int) ∧ SRq μ h') := by
  have hb0 := hb_xm hx hm
  have V := CV_of hx C R
  have lb := juF_b V.2.2.1
  have t : con G 6 0 0 m_PM_judge [av_R (some 0)] h (fun r h' => r = some (av_I ((juF μ (μ 0 7).toNat).length : Int)) ∧ hb s h') := by
    refine c_PM_judge hb0 ?_
    unfold B_PM_judge_0
    refine con_mono (t_Judge_hear hb0 V) ?_
    rintro r h' ⟨rfl, hb', -⟩
    exact ⟨_, rfl, hb', rfl, hb'⟩
  refine con_mono (con_conj (h2 := h) (s_PM_judge hx) t) ?_
  rintro r h' ⟨⟨z, rfl, q2, kc⟩, r2, h2, ⟨rfl, hb2⟩, er, S⟩
  exact ⟨z, rfl, q2, kc, cv_eq (cv_I er rfl) q2 (by omega), SR_c R kc⟩
theorem e_MD_judge {G : cx_T} {s : Nat} {h : ah_T} {μ : pm_T} (hx : xi s h) (hm : mi h) (hKS : KS h) (GG : GM μ) (R : SRq μ h) : con G 6 0 0 m_MD_judge [av_R (some 170)] h (fun r h' => ∃ z, r = some (av_I z) ∧ ((-2147483648) ≤ z ∧ z ≤ 2147483647) ∧ (h'.2.1 170 80 ≤ 8000) ∧ kM (pm [65, 66, 80] [221, 222, 223, 224]) h h' ∧ z = ((juF μ (μ 0 7).toNat).length : Int)) := by
  have hb0 := hb_xm hx hm
  have lb := juF_b GG
  refine con_mono (con_conj (h2 := h) (s_MD_judge hm hKS) (t_MD_judge hb0 (MV_of GG R))) ?_
  rintro r h' ⟨⟨z, rfl, q2, q3, kn⟩, r2, h2, ⟨rfl, hb2, -⟩, er, S⟩
  exact ⟨z, rfl, q2, q3, kn, cv_eq (cv_I er rfl) q2 (by omega)⟩
