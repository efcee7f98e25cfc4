/-! ===== judge, the class: the faults as a list ===== -/
abbrev JQ : Type := Int × Int × Int × Int
def pk4 (a b c d : Int) : Int := ((Int32.ofInt ((Int32.ofInt ((Int32.ofInt a) ||| (Int32.ofInt ((Int32.ofInt b) <<< (Int32.ofInt 3 &&& 31)).toInt)).toInt) ||| (Int32.ofInt ((Int32.ofInt c) <<< (Int32.ofInt 5 &&& 31)).toInt)).toInt) ||| (Int32.ofInt ((Int32.ofInt d) <<< (Int32.ofInt 14 &&& 31)).toInt)).toInt
def JL (l : List JQ) (h : ah_T) : Prop := h.2.1 143 1 = (l.length : Int) ∧ ∀ (k : Nat) (q : JQ), l[k]? = some q → h.2.1 144 k = pk4 q.1 q.2.1 q.2.2.1 q.2.2.2
noncomputable def pif (p : Prop) (l : List JQ) : List JQ := @ite _ p (Classical.propDecidable p) l []
theorem pif_t {p : Prop} {l : List JQ} (h : p) : pif p l = l := by unfold pif; exact if_pos h
theorem pif_f {p : Prop} {l : List JQ} (h : ¬ p) : pif p l = [] := by unfold pif; exact if_neg h
theorem pif_l {p : Prop} {q : JQ} : (pif p [q]).length ≤ 1 := by
  by_cases h : p
  · rw [pif_t h]; exact Nat.le_refl _
  · rw [pif_f h]; exact Nat.zero_le _
noncomputable def catl (f : Nat → List JQ) : Nat → List JQ
  | 0 => []
  | n + 1 => catl f n ++ f n
theorem catl_l {f : Nat → List JQ} (hf : ∀ k, (f k).length ≤ 1) : ∀ n, (catl f n).length ≤ n
  | 0 => Nat.le_refl _
  | n + 1 => by
    have a := catl_l hf n
    have b := hf n
    rw [catl, List.length_append]
    omega
def LPs (μ : pm_T) (n e : Nat) : Prop := 1 ≤ e ∧ 1 ≤ pt μ n e ∧ 1 ≤ pt μ n (e - 1) ∧ (12 < ky μ n e 0 - ky μ n (e - 1) 0 ∨ ky μ n e 0 - ky μ n (e - 1) 0 < -12)
noncomputable def aloF (μ : pm_T) (n e : Nat) : List JQ := pif (μ (100 + 40 * n + 5) e = 1 ∧ ¬ Hld μ n e) [(2, (n : Int), (e : Int), 0)] ++ pif (LPs μ n e) [(3, (n : Int), (e : Int), 0)]
noncomputable def croF (μ : pm_T) (n e k : Nat) : List JQ := catl (fun o => pif (CRs μ o n e) [(4, (n : Int), (e : Int), (o : Int))]) k
noncomputable def parF (μ : pm_T) (n e k : Nat) : List JQ := catl (fun o => pif (PAs μ o n e) [(5, (n : Int), (e : Int), (o : Int))]) k
theorem aloF_l {μ : pm_T} {n e : Nat} : (aloF μ n e).length ≤ 2 := by
  unfold aloF
  rw [List.length_append]
  have a := pif_l (p := μ (100 + 40 * n + 5) e = 1 ∧ ¬ Hld μ n e) (q := (2, (n : Int), (e : Int), 0))
  have b := pif_l (p := LPs μ n e) (q := (3, (n : Int), (e : Int), 0))
  omega
theorem croF_l {μ : pm_T} {n e k : Nat} : (croF μ n e k).length ≤ k := catl_l (fun _ => pif_l) k
theorem parF_l {μ : pm_T} {n e k : Nat} : (parF μ n e k).length ≤ k := catl_l (fun _ => pif_l) k
abbrev JWa : Nat → Nat → Prop := fun a k => (a = 143 ∧ k = 1) ∨ a = 144
abbrev JWc : Nat → Nat → Prop := fun a k => (a = 143 ∧ k = 1) ∨ a = 144 ∨ a = 145
theorem j_add {G : cx_T} {s : Nat} {h : ah_T} {l : List JQ} {a b c d : Int} (hb0 : hb s h) (J : JL l h) (hl : l.length < 6404) : con G 0 0 0 m_Judge_add [av_R (some 143), av_I a, av_I b, av_I c, av_I d] h (fun r h' => r = none ∧ hb s h' ∧ fr JWa h h' ∧ JL (l ++ [(a, b, c, d)]) h') := by
  obtain ⟨j1, j2⟩ := J
  refine c_Judge_add hb0 (fun _ _ _ _ => ?_)
  unfold B_Judge_add_0 B_Judge_add_46
  intro x1 e1 _ _
  have ex := e1.trans j1
  subst ex
  refine ⟨fun q => by omega, fun q x5 e5 _ _ x6 e6 _ _ x7 e7 _ _ x8 e8 _ _ x9 e9 _ _ x10 e10 _ _ => ⟨by omega, fun h12 e12 => ⟨⟨by omega, by omega⟩, fun h16 e16 => ?_⟩⟩⟩
  rw [tn_c] at e12
  refine ⟨rfl, hb_i (hb_i hb0 e12) e16, fr_i (fr_i fr_0 e12 (Or.inr rfl)) e16 (Or.inl ⟨rfl, rfl⟩), ?_, fun k q hq => ?_⟩
  · rw [mv_i e16, List.length_append]
    rfl
  · rw [mm_i e16 (by omega)]
    by_cases ck : k = l.length
    · subst ck
      rw [List.getElem?_concat_length] at hq
      obtain rfl := Option.some.inj hq
      rw [mv_i e12, e10, e9, e8, e7, e6, e5]
      rfl
    · have kl : k < l.length := by
        by_cases c : k < l.length
        · exact c
        · rw [List.getElem?_eq_none (by rw [List.length_append]; show l.length + 1 ≤ k; omega)] at hq
          cases hq
      rw [List.getElem?_append_left kl] at hq
      rw [mm_i e12 (by omega)]
      exact j2 k q hq
theorem JW_43 : ∀ a k, JWa a k → 143 ≤ a := by
  intro a k w
  rcases w with w | w <;> omega
theorem JWc_43 : ∀ a k, JWc a k → 143 ≤ a := by
  intro a k w
  rcases w with w | w | w <;> omega
theorem fr_ac {h h' : ah_T} (f : fr JWa h h') : fr JWc h h' := fr_w f (fun a k w => by rcases w with w | w <;> omega)
section
variable {G : cx_T} {s c n e : Nat} {h : ah_T} {μ : pm_T} {l : List JQ}
theorem j_alone (hb0 : hb s h) (H : CV μ c h) (hn : (n : Int) < μ 0 7) (he : (e : Int) < μ (10 + n) 0) (J : JL l h) (hl : l.length + 2 ≤ 6404) : con G 3 0 0 m_Judge_hearAlone [av_R (some 143), av_R (some (c + 7 + 14 * n)), av_I (n : Int), av_I (e : Int)] h (fun r h' => r = none ∧ hb s h' ∧ fr JWa h h' ∧ JL (l ++ aloF μ n e) h') := by
  obtain ⟨hv, h14, -, hE, -⟩ := CV_v H hn
  have E := CV_e H hn he
  have GG := H.2.2.1
  have hT := E.2.2.2.1.2.1
  refine c_Judge_hearAlone hv hb0 (fun _ _ => ?_)
  unfold B_Judge_hearAlone_0
  have second : ∀ {h1 : ah_T} {l1 : List JQ}, hb s h1 → CV μ c h1 → fr JWa h h1 → JL l1 h1 → l1.length + 1 ≤ 6404 → (B_Judge_hearAlone_24 G s (c + 7 + 14 * n) (n : Int) (e : Int) h1 (fun r h' => r = none ∧ hb s h' ∧ fr JWa h h' ∧ JL (l1 ++ pif (LPs μ n e) [(3, (n : Int), (e : Int), 0)]) h')) := by
    intro h1 l1 hb1 H1 f1 J1 hl1
    unfold B_Judge_hearAlone_24 B_Judge_hearAlone_75
    have no : ¬ LPs μ n e → (none : Option av_T) = none ∧ hb s h1 ∧ fr JWa h h1 ∧ JL (l1 ++ pif (LPs μ n e) [(3, (n : Int), (e : Int), 0)]) h1 := fun q => ⟨rfl, hb1, f1, by rw [pif_f q, List.append_nil]; exact J1⟩
    refine ⟨fun q => no (fun w => by have := w.1; omega), fun q => ?_⟩
    have he1 : ((e - 1 : Nat) : Int) < μ (10 + n) 0 := by omega
    rw [show (e : Int) - 1 = ((e - 1 : Nat) : Int) by omega]
    refine con_mono (j_isRest hb1 H1 hn he) ?_
    rintro r h2 ⟨y, rfl, hb2, rfl, y1⟩
    refine ⟨y, rfl, hb2, fun q2 => ⟨⟨by omega, by omega⟩, ?_⟩, fun q2 => no (fun w => q2 (y1.mpr w.2.1))⟩
    refine con_mono (j_isRest hb2 H1 hn he1) ?_
    rintro r h3 ⟨y', rfl, hb3, rfl, y2⟩
    refine ⟨y', rfl, hb3, fun q3 => ?_, fun q3 => no (fun w => q3 (y2.mpr w.2.2.1))⟩
    have p1 := y1.mp q2
    have p2 := y2.mp q3
    have k1 := ky_b (k := 0) (p := 0) GG hn he (by omega)
    have k2 := ky_b (k := 0) (p := 0) GG hn he1 (by omega)
    refine con_mono (j_lowest hb3 H1 hn he p1) ?_
    rintro r h4 ⟨a, rfl, hb4, rfl, rfl⟩
    refine ⟨_, rfl, hb4, ?_⟩
    refine con_mono (j_lowest hb4 H1 hn he1 p2) ?_
    rintro r h5 ⟨b, rfl, hb5, rfl, rfl⟩
    refine ⟨_, rfl, hb5, ⟨by omega, by omega⟩, fun x15 e15 _ _ => ?_⟩
    have ab : 12 < x15 ↔ (12 < ky μ n e 0 - ky μ n (e - 1) 0 ∨ ky μ n e 0 - ky μ n (e - 1) 0 < -12) := by
      rw [e15]
      split
      · omega
      · rw [w32_id (by unfold i32; omega)]; omega
    refine ⟨fun q4 => no (fun w => ?_), fun q4 => ?_⟩
    · have := ab.mpr w.2.2.2
      omega
    · have L : LPs μ n e := ⟨by omega, p1, p2, ab.mp (by omega)⟩
      refine con_mono (j_add hb5 J1 (by omega)) ?_
      rintro r h6 ⟨rfl, hb6, f6, J6⟩
      exact ⟨rfl, hb6, rfl, hb6, fr_t f1 f6 (fun _ _ w => w), by rw [pif_t L]; exact J6⟩
  refine con_mono (t_Voice_isTied hb0 E) ?_
  rintro r h2 ⟨hb2, rfl, rfl⟩
  have none_ : ¬ (μ (100 + 40 * n + 5) e = 1 ∧ ¬ Hld μ n e) → B_Judge_hearAlone_24 G s (c + 7 + 14 * n) (n : Int) (e : Int) h2 (fun r h' => r = none ∧ hb s h' ∧ fr JWa h2 h' ∧ JL (l ++ aloF μ n e) h') := fun q => by
    have := second hb2 H fr_0 J (by omega)
    unfold aloF
    rw [pif_f q, List.nil_append]
    exact this
  refine ⟨_, rfl, hb2, fun q => none_ (fun w => by have := w.1; omega), fun q => ?_⟩
  refine con_mono (j_isHeld hb2 H hn he) ?_
  rintro r h3 ⟨z, rfl, hb3, rfl, zz⟩
  refine ⟨z, rfl, hb3, fun q2 => ?_, fun q2 => none_ (fun w => ?_)⟩
  · have nh : ¬ Hld μ n e := by
      rcases zz with ⟨-, x⟩ | ⟨x, -⟩
      · exact x
      · omega
    refine con_mono (j_add hb3 J (by omega)) ?_
    rintro r h4 ⟨rfl, hb4, f4, J4⟩
    refine ⟨rfl, hb4, ?_⟩
    have := second hb4 (CV_f H f4 JW_43) f4 J4 (by rw [List.length_append]; show l.length + 1 + 1 ≤ 6404; omega)
    unfold aloF
    rw [pif_t ⟨by omega, nh⟩, ← List.append_assoc]
    exact this
  · rcases zz with ⟨x, -⟩ | ⟨-, x⟩
    · exact q2 x
    · exact w.2 x
/-- the first events that have not ended stand in their cells -/
theorem j_cross (hb0 : hb s h) (H : CV μ c h) (hn : (n : Int) < μ 0 7) (he : (e : Int) < μ (10 + n) 0) (J : JL l h) (hl : l.length + n ≤ 6404) (hS : ∀ o, o < n → ∃ i : Nat, h.2.1 145 o = (i : Int) ∧ (i : Int) ≤ μ (10 + o) 0 ∧ ∀ j, j < i → SE μ o (j + 1) n e) :
    con G 3 0 0 m_Judge_hearCrossings [av_R (some 143), av_R (some c), av_R (some (c + 7 + 14 * n)), av_I (n : Int), av_I (e : Int)] h (fun r h' => r = none ∧ hb s h' ∧ fr JWc h h' ∧ JL (l ++ croF μ n e n) h' ∧ ∀ o, o < n → ∃ i : Nat, h'.2.1 145 o = (i : Int) ∧ SNe μ o n e i) := by
  obtain ⟨hv, -, -, hE, -, n4⟩ := CV_v H hn
  refine c_Judge_hearCrossings H.1 hv (X3 := fun v5 hh => ∃ k : Nat, v5 = (k : Int) ∧ k ≤ n ∧ fr JWc h hh ∧ JL (l ++ croF μ n e k) hh ∧ (∀ o, o < k → ∃ i : Nat, hh.2.1 145 o = (i : Int) ∧ SNe μ o n e i) ∧ ∀ o, k ≤ o → hh.2.1 145 o = h.2.1 145 o) ?_ hb0 (fun _ _ => ?_)
  · refine lp_Judge_hearCrossings_3 H.1 hv _ (fun v5 _ => (5 - v5).toNat) ?_
    rintro v5 hh hb1 ⟨k, rfl, hk, f, J1, S1, S2⟩
    have H1 := CV_f H f JWc_43
    unfold B_Judge_hearCrossings_3 B_Judge_hearCrossings_88 B_Judge_hearCrossings_82
    refine ⟨fun q => ?_, fun q => ⟨fun q2 => by omega, fun q2 => ?_⟩⟩
    · obtain rfl : k = n := by omega
      exact ⟨rfl, hb1, f, J1, S1⟩
    have ho : (k : Int) < μ 0 7 := by omega
    refine con_mono (t_Score_voiceAt hb1 H.1 H1.2.1) ?_
    rintro r h2 ⟨hb2, rfl, ⟨-, -, rfl⟩ | ⟨q1, -⟩⟩
    rotate_left
    · omega
    rw [tn_c]
    refine ⟨_, rfl, hb2, Or.inr ⟨_, rfl, (CV_v H1 ho).1, by omega, fun x7 e7 _ _ => ?_⟩⟩
    obtain ⟨i, hi, hi2, hi3⟩ := hS k (by omega)
    have ex : x7 = (i : Int) := e7.trans ((S2 k (Nat.le_refl _)).trans hi)
    subst ex
    refine con_mono (j_first hb2 H1 ho hi2 hn he hi3) ?_
    rintro r h3 ⟨m, rfl, hb3, rfl, Sm⟩
    refine ⟨_, rfl, hb3, fun h12 e12 => ?_⟩
    have hb12 := hb_i hb3 e12
    have f12 := fr_i f e12 (Or.inr (Or.inr rfl))
    have H12 := CV_f H f12 JWc_43
    have J12 : JL (l ++ croF μ n e k) h12 := ⟨by rw [mm_i e12 (by omega)]; exact J1.1, fun j q hq => by rw [mm_i e12 (by omega)]; exact J1.2 j q hq⟩
    have len : (l ++ croF μ n e k).length < 6404 := by
      have := croF_l (μ := μ) (n := n) (e := e) (k := k)
      rw [List.length_append]
      omega
    have fin : ∀ {h' : ah_T}, fr JWa h12 h' → (∀ o, o < k + 1 → ∃ i : Nat, h'.2.1 145 o = (i : Int) ∧ SNe μ o n e i) ∧ ∀ o, k + 1 ≤ o → h'.2.1 145 o = h.2.1 145 o := fun fa => by
      refine ⟨fun o ho => ?_, fun o ho => ?_⟩
      · rw [fr_g fa (by omega)]
        by_cases co : o = k
        · subst co
          exact ⟨m, mv_i e12, Sm⟩
        · rw [mm_i e12 (by omega)]
          exact S1 o (by omega)
      · rw [fr_g fa (by omega), mm_i e12 (by omega)]
        exact S2 o (by omega)
    refine con_mono (j_crossed hb12 H12 ho hn he Sm) ?_
    rintro r h4 ⟨z, rfl, hb4, rfl, zz⟩
    refine ⟨z, rfl, hb4, fun q3 => ⟨⟨by omega, by omega⟩, ⟨k + 1, by omega, by omega, f12, ?_, fin fr_0⟩, by omega⟩, fun q3 => ?_⟩
    · have no : ¬ CRs μ k n e := by
        rcases zz with ⟨-, x⟩ | ⟨x, -⟩
        · exact x
        · omega
      show JL (l ++ (croF μ n e k ++ pif (CRs μ k n e) [(4, (n : Int), (e : Int), (k : Int))])) h4
      rw [pif_f no, List.append_nil]
      exact J12
    · have yes : CRs μ k n e := by
        rcases zz with ⟨x, -⟩ | ⟨-, x⟩
        · exact absurd x q3
        · exact x
      refine con_mono (j_add hb4 J12 len) ?_
      rintro r h5 ⟨rfl, hb5, f5, J5⟩
      refine ⟨rfl, hb5, ⟨by omega, by omega⟩, ⟨k + 1, by omega, by omega, fr_t f12 (fr_ac f5) (fun _ _ w => w), ?_, fin f5⟩, by omega⟩
      show JL (l ++ (croF μ n e k ++ pif (CRs μ k n e) [(4, (n : Int), (e : Int), (k : Int))])) h5
      rw [pif_t yes, ← List.append_assoc]
      exact J5
  · unfold B_Judge_hearCrossings_0
    exact ⟨0, rfl, by omega, fr_0, by show JL (l ++ []) h; rw [List.append_nil]; exact J, fun o ho => by omega, fun o _ => rfl⟩
theorem j_para (hb0 : hb s h) (H : CV μ c h) (hn : (n : Int) < μ 0 7) (he : (e : Int) < μ (10 + n) 0) (J : JL l h) (hl : l.length + n ≤ 6404) (hS : ∀ o, o < n → ∃ i : Nat, h.2.1 145 o = (i : Int) ∧ SNe μ o n e i) :
    con G 3 0 0 m_Judge_hearParallels [av_R (some 143), av_R (some c), av_R (some (c + 7 + 14 * n)), av_I (n : Int), av_I (e : Int)] h (fun r h' => r = none ∧ hb s h' ∧ fr JWa h h' ∧ JL (l ++ parF μ n e n) h') := by
  obtain ⟨hv, -, -, hE, -, n4⟩ := CV_v H hn
  refine c_Judge_hearParallels H.1 hv (X3 := fun v5 hh => ∃ k : Nat, v5 = (k : Int) ∧ k ≤ n ∧ fr JWa h hh ∧ JL (l ++ parF μ n e k) hh) ?_ hb0 (fun _ _ => ?_)
  · refine lp_Judge_hearParallels_3 H.1 hv _ (fun v5 _ => (5 - v5).toNat) ?_
    rintro v5 hh hb1 ⟨k, rfl, hk, f, J1⟩
    have H1 := CV_f H f JW_43
    unfold B_Judge_hearParallels_3 B_Judge_hearParallels_66 B_Judge_hearParallels_60
    refine ⟨fun q => ?_, fun q => ⟨fun q2 => by omega, fun q2 => ?_⟩⟩
    · obtain rfl : k = n := by omega
      exact ⟨rfl, hb1, f, J1⟩
    have ho : (k : Int) < μ 0 7 := by omega
    refine con_mono (t_Score_voiceAt hb1 H.1 H1.2.1) ?_
    rintro r h2 ⟨hb2, rfl, ⟨-, -, rfl⟩ | ⟨q1, -⟩⟩
    rotate_left
    · omega
    rw [tn_c]
    refine ⟨_, rfl, hb2, Or.inr ⟨_, rfl, (CV_v H1 ho).1, by omega, fun x7 e7 _ _ => ?_⟩⟩
    obtain ⟨i, hi, Si⟩ := hS k (by omega)
    have ex : x7 = (i : Int) := e7.trans ((fr_g f (by omega)).trans hi)
    subst ex
    have len : (l ++ parF μ n e k).length < 6404 := by
      have := parF_l (μ := μ) (n := n) (e := e) (k := k)
      rw [List.length_append]
      omega
    refine con_mono (j_parallel hb2 H1 ho hn he Si) ?_
    rintro r h4 ⟨z, rfl, hb4, rfl, zz⟩
    refine ⟨z, rfl, hb4, fun q3 => ⟨⟨by omega, by omega⟩, ⟨k + 1, by omega, by omega, f, ?_⟩, by omega⟩, fun q3 => ?_⟩
    · have no : ¬ PAs μ k n e := by
        rcases zz with ⟨-, x⟩ | ⟨x, -⟩
        · exact x
        · omega
      show JL (l ++ (parF μ n e k ++ pif (PAs μ k n e) [(5, (n : Int), (e : Int), (k : Int))])) h4
      rw [pif_f no, List.append_nil]
      exact J1
    · have yes : PAs μ k n e := by
        rcases zz with ⟨x, -⟩ | ⟨-, x⟩
        · exact absurd x q3
        · exact x
      refine con_mono (j_add hb4 J1 len) ?_
      rintro r h5 ⟨rfl, hb5, f5, J5⟩
      refine ⟨rfl, hb5, ⟨by omega, by omega⟩, ⟨k + 1, by omega, by omega, fr_t f f5 (fun _ _ w => w), ?_⟩, by omega⟩
      show JL (l ++ (parF μ n e k ++ pif (PAs μ k n e) [(5, (n : Int), (e : Int), (k : Int))])) h5
      rw [pif_t yes, ← List.append_assoc]
      exact J5
  · unfold B_Judge_hearParallels_0
    exact ⟨0, rfl, by omega, fr_0, by show JL (l ++ []) h; rw [List.append_nil]; exact J⟩
end

/-! ===== judge, the class: a voice, all voices ===== -/
/-- both sides of the comparison of a BAR with the TIME -/
def whT (μ : pm_T) (n b : Nat) : Int := (smT μ n (brE μ n (b + 1)) * smB μ n (brE μ n b) - smT μ n (brE μ n b) * smB μ n (brE μ n (b + 1))) * μ 0 2
def whB (μ : pm_T) (n b : Nat) : Int := (smB μ n (brE μ n (b + 1)) * smB μ n (brE μ n b)) * μ 0 1
def WHo (μ : pm_T) (n b : Nat) : Prop := whT μ n b = whB μ n b ∨ (whT μ n b < whB μ n b ∧ (b = 0 ∨ (b : Int) = μ (10 + n) 1 - 1))
theorem whp_b {μ : pm_T} (GG : GM μ) {n b : Nat} (hn : (n : Int) < μ 0 7) : 0 ≤ smT μ n (brE μ n (b + 1)) * smB μ n (brE μ n b) - smT μ n (brE μ n b) * smB μ n (brE μ n (b + 1)) := by
  have h := GM_m GG hn (i := brE μ n b) (brE μ n (b + 1)) (brE_m GG hn) (brE_b GG hn)
  unfold SE at h
  omega
section
variable {G : cx_T} {s c n e b : Nat} {h : ah_T} {μ : pm_T} {l : List JQ}
theorem j_bar (hb0 : hb s h) (H : CV μ c h) (hn : (n : Int) < μ 0 7) (hb1 : (b : Int) < μ (10 + n) 1) : con G 1 0 0 m_Voice_compareBar [av_R (some (c + 7 + 14 * n)), av_I (b : Int), av_I (μ 0 1), av_I (μ 0 2)] h (fun r h' => ∃ z : Int, r = some (av_I z) ∧ hb s h' ∧ h' = h ∧ (z = 0 ↔ whT μ n b = whB μ n b) ∧ (z < 0 ↔ whT μ n b < whB μ n b)) := by
  obtain ⟨hv, -, -, hE, hB, -⟩ := CV_v H hn
  have GG := H.2.2.1
  have T := GG.2.1
  have f0 := CV_b H hn (b := b) (Int.le_of_lt hb1)
  have f1 := CV_b H hn (b := b + 1) (by omega)
  have e0 := brE_b GG (b := b) hn
  have e1 := brE_b GG (b := b + 1) hn
  obtain ⟨t1, t2⟩ := CV_t H hn e0
  obtain ⟨t3, t4⟩ := CV_t H hn e1
  have b0 := GM_b GG hn (brE μ n b)
  have b1 := GM_b GG hn (brE μ n (b + 1))
  have wb := whp_b GG (b := b) hn
  unfold whT whB
  generalize brE μ n b = i at *
  generalize brE μ n (b + 1) = j at *
  have p1 := pr_b b1.1 b1.2 b0.2
  have p2 := pr_b b0.1 b0.2 b1.2
  have p3 : 0 ≤ smB μ n j * smB μ n i ∧ smB μ n j * smB μ n i ≤ 1000000000000 := by
    have h1 : 0 ≤ smB μ n j * smB μ n i := Int.mul_nonneg (by omega) (by omega)
    have h2 : smB μ n j * smB μ n i ≤ 1000000 * 1000000 := Int.mul_le_mul b1.2.2 b0.2.2 (by omega) (by omega)
    omega
  refine c_Voice_compareBar hv hb0 (fun _ _ _ => ?_)
  unfold B_Voice_compareBar_0
  refine ⟨⟨by omega, by omega⟩, by omega, ?_⟩
  rw [show ((b : Int) + 1).toNat = b + 1 by omega]
  intro x3 ex3 _ _
  obtain rfl := ex3.trans f1
  refine con_mono (c_Voice_sinceBarTop hv (Q := fun r h' => r = some (av_L (smT μ n j * smB μ n i - smT μ n i * smB μ n j)) ∧ hb s h' ∧ h' = h) hb0 (fun _ _ => ?_)) ?_
  · unfold B_Voice_sinceBarTop_0
    refine ⟨by omega, ?_⟩
    rw [tn_c, tn_c]
    intro x2 e2 _ _
    obtain rfl := e2.trans f0
    refine ⟨by omega, fun x5 e5 _ _ => ⟨by omega, ?_⟩⟩
    rw [tn_c]
    intro x8 e8 _ _ x10 e10
    obtain rfl := e5.trans t3
    obtain rfl := e8.trans t2
    refine ⟨by omega, fun x13 e13 _ _ x15 e15 _ _ x16 e16 => ?_⟩
    obtain rfl := e13.trans t1
    obtain rfl := e15.trans t4
    refine ⟨by omega, by omega, ?_, hb0, rfl⟩
    rw [e10, e16]
  rintro r h2 ⟨rfl, hb2, rfl⟩
  have dl : smT μ n j * smB μ n i - smT μ n i * smB μ n j ≤ 1000000000000000 := by omega
  generalize smT μ n j * smB μ n i - smT μ n i * smB μ n j = d at *
  have pd : 0 ≤ d * μ 0 2 ∧ d * μ 0 2 ≤ 1000000000000000 * 32 := ⟨Int.mul_nonneg wb (by have := T.2.1; omega), Int.mul_le_mul (by omega) T.2.1.2 (by have := T.2.1; omega) (by omega)⟩
  have pe : 0 ≤ (smB μ n j * smB μ n i) * μ 0 1 ∧ (smB μ n j * smB μ n i) * μ 0 1 ≤ 1000000000000 * 32 := ⟨Int.mul_nonneg p3.1 (by have := T.1; omega), Int.mul_le_mul p3.2 T.1.2 (by have := T.1; omega) (by omega)⟩
  refine ⟨_, rfl, hb2, fun x8 e8 => ⟨by omega, ?_⟩⟩
  refine con_mono (c_Voice_sinceBarBottom hv (Q := fun r h' => r = some (av_L (smB μ n j * smB μ n i)) ∧ hb s h' ∧ h' = h2) hb2 (fun _ _ => ?_)) ?_
  · unfold B_Voice_sinceBarBottom_0
    refine ⟨by omega, ?_⟩
    rw [tn_c, tn_c]
    intro x2 e2 _ _
    obtain rfl := e2.trans t4
    refine ⟨by omega, fun x6 e6 _ _ => ?_⟩
    obtain rfl := e6.trans f0
    refine ⟨by omega, ?_⟩
    rw [tn_c]
    intro x8 e8 _ _ x10 e10
    obtain rfl := e8.trans t2
    refine ⟨by omega, ?_, hb2, rfl⟩
    rw [e10]
  rintro r h3 ⟨rfl, hb3, rfl⟩
  refine ⟨_, rfl, hb3, fun x13 e13 => ⟨by omega, ?_⟩⟩
  refine con_mono s_JLong_compare ?_
  rintro r h4 ⟨z, rfl, z1, ⟨g1, g2, g3⟩, rfl⟩
  refine ⟨z, rfl, hb3, z, rfl, hb3, rfl, ?_⟩
  rw [e8] at g1 g2 g3
  rw [e13] at g1 g2 g3
  omega
theorem j_whole (hb0 : hb s h) (H : CV μ c h) (hn : (n : Int) < μ 0 7) (hb1 : (b : Int) < μ (10 + n) 1) : con G 2 0 0 m_Judge_isWhole [av_R (some c), av_R (some (c + 7 + 14 * n)), av_I (b : Int)] h (fun r h' => ∃ z : Int, r = some (av_I z) ∧ hb s h' ∧ h' = h ∧ ((z = 0 ∧ ¬ WHo μ n b) ∨ (z = 1 ∧ WHo μ n b))) := by
  obtain ⟨hv, -, h16, hE, hB, -⟩ := CV_v H hn
  have C := H.2.1
  refine c_Judge_isWhole H.1 hv hb0 (fun _ => ?_)
  unfold B_Judge_isWhole_0 B_Judge_isWhole_36 B_Judge_isWhole_40 B_Judge_isWhole_41
  intro x1 e1 _ _ x2 e2 _ _
  obtain rfl := e1.trans C.1.2.1
  obtain rfl := e2.trans C.1.2.2.1
  refine con_mono (j_bar hb0 H hn hb1) ?_
  rintro r h2 ⟨z, rfl, hb2, rfl, z1, z2⟩
  have yes : WHo μ n b → ((1 : Int) = 0 ∨ (1 : Int) = 1) ∧ ∃ z : Int, some (av_I 1) = some (av_I z) ∧ hb s h2 ∧ h2 = h2 ∧ ((z = 0 ∧ ¬ WHo μ n b) ∨ (z = 1 ∧ WHo μ n b)) := fun w => ⟨Or.inr rfl, 1, rfl, hb2, rfl, Or.inr ⟨rfl, w⟩⟩
  have no : ¬ WHo μ n b → ((0 : Int) = 0 ∨ (0 : Int) = 1) ∧ ∃ z : Int, some (av_I 0) = some (av_I z) ∧ hb s h2 ∧ h2 = h2 ∧ ((z = 0 ∧ ¬ WHo μ n b) ∨ (z = 1 ∧ WHo μ n b)) := fun w => ⟨Or.inl rfl, 0, rfl, hb2, rfl, Or.inl ⟨rfl, w⟩⟩
  refine ⟨z, rfl, hb2, fun q => yes (Or.inl (z1.mp q)), fun q => ⟨fun q2 => no (fun w => ?_), fun q2 => ⟨fun q3 => yes (Or.inr ⟨z2.mp (by omega), Or.inl (by omega)⟩), fun q3 x6 e6 _ _ => ?_⟩⟩⟩
  · rcases w with w | ⟨w, -⟩
    · exact q (z1.mpr w)
    · have := z2.mpr w
      omega
  · have ex := e6.trans h16
    subst ex
    refine ⟨⟨by omega, by omega⟩, fun q4 => yes (Or.inr ⟨z2.mp (by omega), Or.inr q4⟩), fun q4 => no (fun w => ?_)⟩
    rcases w with w | ⟨-, w | w⟩
    · exact q (z1.mpr w)
    · omega
    · omega
end
