/-! ===== judge, the reference ===== -/
def MLl (l : List JQ) (h : ah_T) : Prop := h.2.1 170 80 = (l.length : Int) ∧ ∀ (k : Nat) (q : JQ), l[k]? = some q → h.2.1 221 k = q.1 ∧ h.2.1 222 k = q.2.1 ∧ h.2.1 223 k = q.2.2.1 ∧ h.2.1 224 k = q.2.2.2
theorem MLl_f {l : List JQ} {h h' : ah_T} (H : MLl l h) (e : h'.2.1 = h.2.1) : MLl l h' := by
  unfold MLl
  rw [e]
  exact H
abbrev JWt : Nat → Nat → Prop := fun a k => (a = 170 ∧ k = 80) ∨ (221 ≤ a ∧ a ≤ 224)
theorem fr_tm {h h' : ah_T} (f : fr JWt h h') : fr JWm h h' := fr_w f (fun a k w => by rcases w with w | w <;> omega)
section
variable {G : cx_T} {s n e : Nat} {h : ah_T} {μ : pm_T} {l : List JQ}
theorem m_tell {a b c d : Int} (hb0 : hb s h) (J : MLl l h) (hl : l.length < 8000) : con G 0 0 0 m_MD_tell [av_R (some 170), av_I a, av_I b, av_I c, av_I d] h (fun r h' => r = none ∧ hb s h' ∧ fr JWm h h' ∧ MLl (l ++ [(a, b, c, d)]) h') := by
  obtain ⟨j1, j2⟩ := J
  refine c_MD_tell hb0 (fun _ _ _ _ => ?_)
  unfold B_MD_tell_0 B_MD_tell_51
  intro x1 e1 _ _
  obtain rfl := e1.trans j1
  refine ⟨fun q => by omega, fun q => ⟨by omega, ?_⟩⟩
  rw [tn_c]
  intro h5 e5 h9 e9 h13 e13 h17 e17 x e _ _
  have ex : x = (l.length : Int) := by rw [e, mm_i e17 (by omega), mm_i e13 (by omega), mm_i e9 (by omega), mm_i e5 (by omega)]; exact j1
  subst ex
  refine ⟨⟨by omega, by omega⟩, fun h3 e3 => ⟨rfl, hb_i (hb_i (hb_i (hb_i (hb_i hb0 e5) e9) e13) e17) e3, fr_i (fr_i (fr_i (fr_i (fr_i fr_0 e5 (by omega)) e9 (by omega)) e13 (by omega)) e17 (by omega)) e3 (by omega), ?_, fun k q hq => ?_⟩⟩
  · rw [mv_i e3, List.length_append]
    rfl
  · by_cases ck : k = l.length
    · subst ck
      rw [List.getElem?_concat_length] at hq
      obtain rfl := Option.some.inj hq
      refine ⟨?_, ?_, ?_, ?_⟩
      · rw [mm_i e3 (by omega), mm_i e17 (by omega), mm_i e13 (by omega), mm_i e9 (by omega), mv_i e5]
      · rw [mm_i e3 (by omega), mm_i e17 (by omega), mm_i e13 (by omega), mv_i e9]
      · rw [mm_i e3 (by omega), mm_i e17 (by omega), mv_i e13]
      · rw [mm_i e3 (by omega), mv_i e17]
    · have kl : k < l.length := by
        by_cases c : k < l.length
        · exact c
        · rw [List.getElem?_eq_none (by rw [List.length_append]; show l.length + 1 ≤ k; omega)] at hq
          cases hq
      rw [List.getElem?_append_left kl] at hq
      have o : ∀ x, 221 ≤ x → h3.2.1 x k = h.2.1 x k := fun x hx => by
        rw [mm_i e3 (by omega), mm_i e17 (by omega), mm_i e13 (by omega), mm_i e9 (by omega), mm_i e5 (by omega)]
      rw [o 221 (by decide), o 222 (by decide), o 223 (by decide), o 224 (by decide)]
      exact j2 k q hq
theorem croF_0 (hp : ¬ 1 ≤ pt μ n e) : ∀ k, croF μ n e k = []
  | 0 => rfl
  | k + 1 => by
    show croF μ n e k ++ pif (CRs μ k n e) _ = []
    rw [croF_0 hp k, pif_f (fun w => hp w.1)]
    rfl
theorem parF_0 (hp : ¬ 1 ≤ pt μ n e) : ∀ k, parF μ n e k = []
  | 0 => rfl
  | k + 1 => by
    show parF μ n e k ++ pif (PAs μ k n e) _ = []
    rw [parF_0 hp k, pif_f (fun w => by obtain ⟨-, j, b⟩ := w; exact hp b.2.2.1.1)]
    rfl
theorem parF_1 (he : ¬ 1 ≤ e) : ∀ k, parF μ n e k = []
  | 0 => rfl
  | k + 1 => by
    show parF μ n e k ++ pif (PAs μ k n e) _ = []
    rw [parF_1 he k, pif_f (fun w => he w.1)]
    rfl
theorem m_event (hb0 : hb s h) (H : MV μ h) (hn : (n : Int) < μ 0 7) (he : (e : Int) < μ (10 + n) 0) (J : MLl l h) (hl : l.length + (2 + 2 * n) ≤ 8000) : con G 5 0 0 m_MD_judgeEvent [av_R (some 170), av_I (n : Int), av_I (e : Int)] h (fun r h' => r = none ∧ hb s h' ∧ fr JWm h h' ∧ MLl (l ++ evF μ n e) h') := by
  obtain ⟨hN1, -, hN, -, n4⟩ := MV_n H hn
  have GG := H.2.1
  have la := aloF_l (μ := μ) (n := n) (e := e)
  have lc := fun k => croF_l (μ := μ) (n := n) (e := e) (k := k)
  have lpp := fun k => parF_l (μ := μ) (n := n) (e := e) (k := k)
  have l133 : ∀ (v3 v4 : Int) (hh : ah_T), hb s hh → (v3 = 300 * (n : Int) + (e : Int) ∧ fr JWm h hh ∧ ∃ k : Nat, v4 = (k : Int) ∧ k ≤ n ∧ MLl (l ++ aloF μ n e ++ croF μ n e n ++ parF μ n e k) hh) → aw G (rm_R 5 0 0) m_MD_judgeEvent 0 0 133 [some (av_R (some 170)), some (av_I (n : Int)), some (av_I (e : Int)), some (av_I v3), some (av_I v4)] [] hh (fun r h' => r = none ∧ hb s h' ∧ fr JWm h h' ∧ MLl (l ++ evF μ n e) h') := by
    refine lp_MD_judgeEvent_133 _ (fun _ v4 _ => (5 - v4).toNat) ?_
    rintro v3 v4 hh hb1 ⟨rfl, f, k, rfl, hk, J1⟩
    have H1 := MV_f H f JWm_w
    unfold B_MD_judgeEvent_133 B_MD_judgeEvent_162
    have nxt : ∀ {h' : ah_T}, fr JWm h h' → MLl (l ++ aloF μ n e ++ croF μ n e n ++ parF μ n e (k + 1)) h' → (k : Int) < n → ((-2147483648) ≤ ((k : Int) + 1) ∧ ((k : Int) + 1) ≤ 2147483647) ∧ ((300 * (n : Int) + (e : Int) = 300 * (n : Int) + (e : Int) ∧ fr JWm h h' ∧ ∃ k' : Nat, (k : Int) + 1 = (k' : Int) ∧ k' ≤ n ∧ MLl (l ++ aloF μ n e ++ croF μ n e n ++ parF μ n e k') h') ∧ (5 - ((k : Int) + 1)).toNat < (5 - (k : Int)).toNat) := fun f' J' q => ⟨⟨by omega, by omega⟩, ⟨rfl, f', k + 1, by omega, by omega, J'⟩, by omega⟩
    refine ⟨fun q => ⟨rfl, hb1, f, ?_⟩, fun q => ⟨fun q2 => nxt f ?_ (by omega), fun q2 => ?_⟩⟩
    · obtain rfl : k = n := by omega
      unfold evF
      rw [← List.append_assoc, ← List.append_assoc]
      exact J1
    · rw [parF_1 (by omega)] at J1 ⊢
      exact J1
    have ho : (k : Int) < μ 0 7 := by omega
    refine con_mono (m_goesAlong hb1 H1 hn he ho (by omega)) ?_
    rintro r h2 ⟨z, rfl, hb2, rfl, zz⟩
    have pS : ∀ X, parF μ n e (k + 1) = X ↔ parF μ n e k ++ pif (PAs μ k n e) [(5, (n : Int), (e : Int), (k : Int))] = X := fun X => Iff.rfl
    refine ⟨z, rfl, hb2, fun q3 => nxt f ?_ (by omega), fun q3 => ?_⟩
    · have no : ¬ PAs μ k n e := by
        rcases zz with ⟨-, x⟩ | ⟨x, -⟩
        · exact x
        · omega
      have : parF μ n e (k + 1) = parF μ n e k := by rw [pS, pif_f no, List.append_nil]
      rw [this]
      exact J1
    · have yes : PAs μ k n e := by
        rcases zz with ⟨x, -⟩ | ⟨-, x⟩
        · exact absurd x q3
        · exact x
      have a1 := lc n
      have a2 := lpp k
      refine con_mono (m_tell hb2 J1 (by rw [List.length_append, List.length_append, List.length_append]; omega)) ?_
      rintro r h3 ⟨rfl, hb3, f3, J3⟩
      refine ⟨rfl, hb3, nxt (fr_t f f3 (fun _ _ w => w)) ?_ (by omega)⟩
      have : parF μ n e (k + 1) = parF μ n e k ++ [(5, (n : Int), (e : Int), (k : Int))] := by rw [pS, pif_t yes]
      rw [this, ← List.append_assoc]
      exact J3
  have l99 : 1 ≤ pt μ n e → ∀ (v3 v4 : Int) (hh : ah_T), hb s hh → (v3 = 300 * (n : Int) + (e : Int) ∧ fr JWm h hh ∧ ∃ k : Nat, v4 = (k : Int) ∧ k ≤ n ∧ MLl (l ++ aloF μ n e ++ croF μ n e k) hh) → aw G (rm_R 5 0 0) m_MD_judgeEvent 0 0 99 [some (av_R (some 170)), some (av_I (n : Int)), some (av_I (e : Int)), some (av_I v3), some (av_I v4)] [] hh (fun r h' => r = none ∧ hb s h' ∧ fr JWm h h' ∧ MLl (l ++ evF μ n e) h') := by
    intro hp
    refine lp_MD_judgeEvent_99 l133 _ (fun _ v4 _ => (5 - v4).toNat) ?_
    rintro v3 v4 hh hb1 ⟨rfl, f, k, rfl, hk, J1⟩
    have H1 := MV_f H f JWm_w
    unfold B_MD_judgeEvent_99 B_MD_judgeEvent_124
    have nxt : ∀ {h' : ah_T}, fr JWm h h' → MLl (l ++ aloF μ n e ++ croF μ n e (k + 1)) h' → (k : Int) < n → ((-2147483648) ≤ ((k : Int) + 1) ∧ ((k : Int) + 1) ≤ 2147483647) ∧ ((300 * (n : Int) + (e : Int) = 300 * (n : Int) + (e : Int) ∧ fr JWm h h' ∧ ∃ k' : Nat, (k : Int) + 1 = (k' : Int) ∧ k' ≤ n ∧ MLl (l ++ aloF μ n e ++ croF μ n e k') h') ∧ (5 - ((k : Int) + 1)).toNat < (5 - (k : Int)).toNat) := fun f' J' q => ⟨⟨by omega, by omega⟩, ⟨rfl, f', k + 1, by omega, by omega, J'⟩, by omega⟩
    refine ⟨fun q => ⟨rfl, f, 0, rfl, Nat.zero_le _, ?_⟩, fun q => ?_⟩
    · obtain rfl : k = n := by omega
      show MLl (l ++ aloF μ k e ++ croF μ k e k ++ []) hh
      rw [List.append_nil]
      exact J1
    have ho : (k : Int) < μ 0 7 := by omega
    refine con_mono (m_crosses hb1 H1 hn he ho hp) ?_
    rintro r h2 ⟨z, rfl, hb2, f2, i2, zz⟩
    have f2' := fr_t f (fr_sm f2) (fun _ _ w => w)
    have J2 := MLl_f J1 i2
    have pS : ∀ X, croF μ n e (k + 1) = X ↔ croF μ n e k ++ pif (CRs μ k n e) [(4, (n : Int), (e : Int), (k : Int))] = X := fun X => Iff.rfl
    refine ⟨z, rfl, hb2, fun q3 => nxt f2' ?_ (by omega), fun q3 => ?_⟩
    · have no : ¬ CRs μ k n e := by
        rcases zz with ⟨-, x⟩ | ⟨x, -⟩
        · exact x
        · omega
      have : croF μ n e (k + 1) = croF μ n e k := by rw [pS, pif_f no, List.append_nil]
      rw [this]
      exact J2
    · have yes : CRs μ k n e := by
        rcases zz with ⟨x, -⟩ | ⟨-, x⟩
        · exact absurd x q3
        · exact x
      have a1 := lc k
      refine con_mono (m_tell hb2 J2 (by rw [List.length_append, List.length_append]; omega)) ?_
      rintro r h3 ⟨rfl, hb3, f3, J3⟩
      refine ⟨rfl, hb3, nxt (fr_t f2' f3 (fun _ _ w => w)) ?_ (by omega)⟩
      have : croF μ n e (k + 1) = croF μ n e k ++ [(4, (n : Int), (e : Int), (k : Int))] := by rw [pS, pif_t yes]
      rw [this, ← List.append_assoc]
      exact J3
  by_cases hp : 1 ≤ pt μ n e
  all_goals obtain ⟨⟨y1, y2, -⟩, -, yb, yk⟩ := MV_e H hn he
  all_goals have hT := ((GG.2.2 n hn).2.2.2.1 e he).2.1
  · refine c_MD_judgeEvent (l99 hp) hb0 (fun _ _ => ?_)
    unfold B_MD_judgeEvent_0
    have go : ∀ {h1 : ah_T} {l1 : List JQ}, hb s h1 → fr JWm h h1 → MLl l1 h1 → l1.length < 8000 → l1 ++ pif (LPs μ n e) [(3, (n : Int), (e : Int), 0)] = l ++ aloF μ n e → B_MD_judgeEvent_34 G s n e (300 * (n : Int) + (e : Int)) h1 (fun r h' => r = none ∧ hb s h' ∧ fr JWm h h' ∧ MLl (l ++ evF μ n e) h') (fun v3 v4 hh => v3 = 300 * (n : Int) + (e : Int) ∧ fr JWm h hh ∧ ∃ k : Nat, v4 = (k : Int) ∧ k ≤ n ∧ MLl (l ++ aloF μ n e ++ croF μ n e k) hh) := by
      intro h1 l1 hb1 f1 J1 hl1 el
      have H1 := MV_f H f1 JWm_w
      unfold B_MD_judgeEvent_34 B_MD_judgeEvent_88 B_MD_judgeEvent_96
      have fin : ∀ {h2 : ah_T}, fr JWm h h2 → MLl (l ++ aloF μ n e) h2 → (300 * (n : Int) + (e : Int) = 300 * (n : Int) + (e : Int) ∧ fr JWm h h2 ∧ ∃ k : Nat, (0 : Int) = (k : Int) ∧ k ≤ n ∧ MLl (l ++ aloF μ n e ++ croF μ n e k) h2) := fun f2 J2 => ⟨rfl, f2, 0, rfl, Nat.zero_le _, by show MLl (l ++ aloF μ n e ++ []) _; rw [List.append_nil]; exact J2⟩
      have no : ¬ LPs μ n e → MLl (l ++ aloF μ n e) h1 := fun q => by
        rw [← el, pif_f q, List.append_nil]
        exact J1
      refine ⟨by omega, ?_⟩
      rw [nx300]
      intro x2 e2 _ _
      obtain rfl := e2.trans (MV_e H1 hn he).1.1
      refine ⟨fun q => by omega, fun q => ⟨fun q2 => fin f1 (no (fun w => by have := w.1; omega)), fun q2 => ?_⟩⟩
      have he1 : ((e - 1 : Nat) : Int) < μ (10 + n) 0 := by omega
      refine ⟨⟨by omega, by omega⟩, by omega, ?_⟩
      rw [show 300 * (n : Int) + (e : Int) - 1 = 300 * (n : Int) + ((e - 1 : Nat) : Int) by omega, nx300]
      intro x6 e6 _ _
      obtain rfl := e6.trans (MV_e H1 hn he1).1.1
      refine ⟨fun q3 => fin f1 (no (fun w => by have := w.2.2.1; omega)), fun q3 => ?_⟩
      have k1 := ky_b (k := 0) (p := 0) GG hn he (by omega)
      have k2 := ky_b (k := 0) (p := 0) GG hn he1 (by omega)
      refine con_mono (m_lowest hb1 H1 hn he hp) ?_
      rintro r h4 ⟨a, rfl, hb4, rfl, rfl⟩
      refine ⟨_, rfl, hb4, ?_⟩
      refine con_mono (m_lowest hb4 H1 hn he1 (by omega)) ?_
      rintro r h5 ⟨b, rfl, hb5, rfl, rfl⟩
      have tl : LPs μ n e → con G 0 0 0 m_MD_tell [av_R (some 170), av_I 3, av_I (n : Int), av_I (e : Int), av_I 0] h5 (fun r h1 => r = none ∧ hb s h1 ∧ (300 * (n : Int) + (e : Int) = 300 * (n : Int) + (e : Int) ∧ fr JWm h h1 ∧ ∃ k : Nat, (0 : Int) = (k : Int) ∧ k ≤ n ∧ MLl (l ++ aloF μ n e ++ croF μ n e k) h1)) := fun w => by
        refine con_mono (m_tell hb5 J1 hl1) ?_
        rintro r h6 ⟨rfl, hb6, f6, J6⟩
        refine ⟨rfl, hb6, fin (fr_t f1 f6 (fun _ _ w => w)) ?_⟩
        rw [← el, pif_t w]
        exact J6
      exact ⟨_, rfl, hb5, ⟨by omega, by omega⟩, fun q4 => tl ⟨by omega, hp, by omega, Or.inl q4⟩, fun q4 => ⟨fun q5 => fin f1 (no (fun w => by have := w.2.2.2; omega)), fun q5 => tl ⟨by omega, hp, by omega, Or.inr (by omega)⟩⟩⟩
    refine ⟨⟨by omega, by omega⟩, ⟨by omega, by omega⟩, by omega, ?_⟩
    rw [nx300]
    intro x4 e4 x4b
    obtain rfl := e4.trans y2
    have un : ∀ X, l ++ aloF μ n e = X ↔ l ++ (pif (μ (100 + 40 * n + 5) e = 1 ∧ ¬ Hld μ n e) [(2, (n : Int), (e : Int), 0)] ++ pif (LPs μ n e) [(3, (n : Int), (e : Int), 0)]) = X := fun X => Iff.rfl
    refine ⟨fun q => go hb0 fr_0 J (by omega) ?_, fun q => ?_⟩
    · rw [eq_comm, un, pif_f (fun w => by have := w.1; omega), List.nil_append]
    refine con_mono (m_goesOn hb0 H hn he) ?_
    rintro r h6 ⟨z, rfl, hb6, rfl, zz⟩
    refine ⟨z, rfl, hb6, fun q2 => ?_, fun q2 => go hb6 fr_0 J (by omega) ?_⟩
    · have nh : ¬ Hld μ n e := by
        rcases zz with ⟨-, x⟩ | ⟨x, -⟩
        · exact x
        · omega
      refine con_mono (m_tell hb6 J (by omega)) ?_
      rintro r h9 ⟨rfl, hb9, f9, J9⟩
      refine ⟨rfl, hb9, go hb9 f9 J9 (by rw [List.length_append]; show l.length + 1 < 8000; omega) ?_⟩
      rw [eq_comm, un, pif_t ⟨by omega, nh⟩, ← List.append_assoc]
    · have yh : Hld μ n e := by
        rcases zz with ⟨x, -⟩ | ⟨-, x⟩
        · exact absurd x q2
        · exact x
      rw [eq_comm, un, pif_f (fun w => w.2 yh), List.nil_append]
  · refine c_MD_judgeEvent (X99 := fun _ _ _ => False) (fun _ _ _ _ x => x.elim) hb0 (fun _ _ => ?_)
    unfold B_MD_judgeEvent_0
    have un : ∀ X, l ++ evF μ n e = X ↔ l ++ pif (μ (100 + 40 * n + 5) e = 1 ∧ ¬ Hld μ n e) [(2, (n : Int), (e : Int), 0)] = X := fun X => by
      unfold evF aloF
      rw [croF_0 hp, parF_0 hp, pif_f (p := LPs μ n e) (fun w => hp w.2.1), List.append_nil, List.append_nil, List.append_nil]
    have go : ∀ {h1 : ah_T}, hb s h1 → fr JWm h h1 → MLl (l ++ evF μ n e) h1 → B_MD_judgeEvent_34 G s n e (300 * (n : Int) + (e : Int)) h1 (fun r h' => r = none ∧ hb s h' ∧ fr JWm h h' ∧ MLl (l ++ evF μ n e) h') (fun _ _ _ => False) := by
      intro h1 hb1 f1 J1
      have H1 := MV_f H f1 JWm_w
      unfold B_MD_judgeEvent_34
      refine ⟨by omega, ?_⟩
      rw [nx300]
      intro x2 e2 _ _
      obtain rfl := e2.trans (MV_e H1 hn he).1.1
      exact ⟨fun q => ⟨rfl, hb1, f1, J1⟩, fun q => by omega⟩
    refine ⟨⟨by omega, by omega⟩, ⟨by omega, by omega⟩, by omega, ?_⟩
    rw [nx300]
    intro x4 e4 x4b
    obtain rfl := e4.trans y2
    refine ⟨fun q => go hb0 fr_0 ?_, fun q => ?_⟩
    · have : l ++ evF μ n e = l := by rw [un, pif_f (fun w => by have := w.1; omega), List.append_nil]
      rw [this]; exact J
    refine con_mono (m_goesOn hb0 H hn he) ?_
    rintro r h6 ⟨z, rfl, hb6, rfl, zz⟩
    refine ⟨z, rfl, hb6, fun q2 => ?_, fun q2 => go hb6 fr_0 ?_⟩
    · have nh : ¬ Hld μ n e := by
        rcases zz with ⟨-, x⟩ | ⟨x, -⟩
        · exact x
        · omega
      refine con_mono (m_tell hb6 J (by omega)) ?_
      rintro r h9 ⟨rfl, hb9, f9, J9⟩
      refine ⟨rfl, hb9, go hb9 f9 ?_⟩
      have : l ++ evF μ n e = l ++ [(2, (n : Int), (e : Int), 0)] := by rw [un, pif_t ⟨by omega, nh⟩]
      rw [this]; exact J9
    · have yh : Hld μ n e := by
        rcases zz with ⟨x, -⟩ | ⟨-, x⟩
        · exact absurd x q2
        · exact x
      have : l ++ evF μ n e = l := by rw [un, pif_f (fun w => w.2 yh), List.append_nil]
      rw [this]; exact J
end
