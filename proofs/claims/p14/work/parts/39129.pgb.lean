/-! ===== page, the class: THE BEST LINES ===== -/
def GLp (l : List Int) (h : ah_T) : Prop := h.2.1 150 1 = (l.length : Int) ∧ ∀ (k : Nat) (v : Int), l[k]? = some v → h.2.1 151 k = v
abbrev JWp : Nat → Nat → Prop := fun a k => (a = 150 ∧ k = 1) ∨ (151 ≤ a ∧ a ≤ 157)
abbrev JWf : Nat → Nat → Prop := fun a _ => a = 153 ∨ a = 154
theorem JWp_43 : ∀ a k, JWp a k → 143 ≤ a := by
  intro a k w
  rcases w with w | w <;> omega
theorem JWg_p {h h' : ah_T} (f : fr JWg h h') : fr JWp h h' := fr_w f (fun a k w => by rcases w with w | w | w <;> omega)
theorem JWf_p {h h' : ah_T} (f : fr JWf h h') : fr JWp h h' := fr_w f (fun a k w => by rcases w with w | w <;> omega)
def BTl (wd : Nat → Int) (w : Int) (z r : Nat) (h : ah_T) : Prop := ∀ k, k ≤ r → h.2.2.1 153 (z - k) = leaL wd w z k ∧ (1 ≤ k → h.2.1 154 (z - k) = takL wd w z k)
/-- what is known of the widths -/
def WDs (wd D : Nat → Int) (z : Nat) : Prop := (∀ i, 0 ≤ wd i ∧ wd i ≤ D (i + 1) - D i) ∧ ∀ i, 0 ≤ D i ∧ (i ≤ z → D i ≤ 39000)
section
variable {G : cx_T} {s c : Nat} {h : ah_T} {μ : pm_T} {wd D : Nat → Int} {w : Int} {z r : Nat}
theorem j_from (hb0 : hb s h) (hw : 1 ≤ w ∧ w ≤ 1000) (hz : z ≤ 14) (hr : r < z) (hD : WDs wd D z) (Wd : ∀ b, b < z → h.2.1 152 b = wd b) (T : BTl wd w z r h) : con G 1 0 0 m_Page_findFrom [av_R (some 150), av_I ((z - (r + 1) : Nat) : Int), av_I (z : Int), av_I w] h (fun r' h' => r' = none ∧ hb s h' ∧ fr JWf h h' ∧ BTl wd w z (r + 1) h') := by
  generalize ha : z - (r + 1) = a
  have hW : ∀ k, k < r + 1 → 0 ≤ leaL wd w z k := fun k hk => (leaL_b ⟨by omega, hw.2⟩ hD.1 hD.2 k (by omega)).1
  have da := hD.2 a
  have da1 := hD.2 (a + 1)
  have ic := innL_c (wd := wd) (W := leaL wd w z) (w := w) (a := a) (r := r + 1) (by omega) ⟨by omega, hw.2⟩ hD.1 (by omega) hW
  have ib := innL_b (wd := wd) (W := leaL wd w z) (w := w) (a := a) (r := r + 1) (by omega)
  have lb : ∀ k, k ≤ r → 0 ≤ leaL wd w z k ∧ leaL wd w z k ≤ 2000000000 := fun k hk => by
    have x := leaL_b (w := w) ⟨by omega, hw.2⟩ hD.1 hD.2 k (by omega)
    have y := hD.2 z
    have y2 := hD.2 (z - k)
    omega
  have lr := lb r (Nat.le_refl _)
  have lef : ∀ k, a + k ≤ z → -40000 ≤ lefL wd w a k ∧ lefL wd w a k ≤ 1000 := fun k hk => by
    have x := lefL_D (w := w) (a := a) hD.1 k
    have y := lefL_le (w := w) (a := a) (fun i => (hD.1 i).1) k
    have y2 := hD.2 (a + k)
    omega
  have l53 : ∀ (v4 v6 : Int) (hh : ah_T), hb s hh → (fr JWf h hh ∧ BTl wd w z r hh ∧ ∃ k : Nat, v6 = (k : Int) + 2 ∧ k ≤ r ∧ v4 = lefL wd w a (k + 1) ∧ hh.2.2.1 153 a = (innL wd w (leaL wd w z) a (r + 1) k).1 ∧ hh.2.1 154 a = (innL wd w (leaL wd w z) a (r + 1) k).2) → aw G (rm_R 1 0 0) m_Page_findFrom 0 0 53 [some (av_R (some 150)), some (av_I (a : Int)), some (av_I (z : Int)), none, some (av_L v4), none, some (av_I v6), none, none] [] hh (fun r' h' => r' = none ∧ hb s h' ∧ fr JWf h h' ∧ BTl wd w z (r + 1) h') := by
    refine lp_Page_findFrom_53 (a3 := w) _ (fun _ v6 _ => (20 - v6).toNat) ?_
    rintro v4 v6 hh hb1 ⟨f, T1, k, rfl, kr, rfl, c3, c4⟩
    unfold B_Page_findFrom_53
    have out : innL wd w (leaL wd w z) a (r + 1) 13 = innL wd w (leaL wd w z) a (r + 1) k → (none : Option av_T) = none ∧ hb s hh ∧ fr JWf h hh ∧ BTl wd w z (r + 1) hh := fun eq => by
      refine ⟨rfl, hb1, f, fun k' hk' => ?_⟩
      by_cases ck : k' = r + 1
      · subst ck
        unfold leaL takL
        rw [tabL_s, ha, eq]
        exact ⟨c3, fun _ => c4⟩
      · exact T1 k' (by omega)
    refine ⟨⟨by omega, by omega⟩, fun q => out (innL_e (fun i => (hD.1 i).1) 13 (by omega) (Or.inl (by omega))), fun q => ⟨⟨by omega, by omega⟩, by omega, fun x4 e4 _ _ => ?_⟩⟩
    have ex : x4 = wd (a + (k + 1)) := by
      rw [e4, show ((a : Int) + ((k : Int) + 2) - 1).toNat = a + (k + 1) by omega, fr_g f (by omega)]
      exact Wd _ (by omega)
    subst ex
    have eS : lefL wd w a (k + 1) - wd (a + (k + 1)) = lefL wd w a (k + 2) := rfl
    rw [eS]
    have l2 := lef (k + 2) (by omega)
    refine ⟨⟨by omega, by omega⟩, fun q2 => ⟨by omega, fun x9 e9 _ _ => ?_⟩, fun q2 => out (innL_e (fun i => (hD.1 i).1) 13 (by omega) (Or.inr (by omega)))⟩
    have ex : x9 = leaL wd w z (r + 1 - (k + 2)) := by
      rw [e9, show ((a : Int) + ((k : Int) + 2)).toNat = z - (r + 1 - (k + 2)) by omega]
      exact (T1 _ (by omega)).1
    subst ex
    have wk := lb (r + 1 - (k + 2)) (by omega)
    have inS : innL wd w (leaL wd w z) a (r + 1) (k + 1) = if k + 2 ≤ r + 1 ∧ 0 ≤ lefL wd w a (k + 2) ∧ leaL wd w z (r + 1 - (k + 2)) + lnC (lefL wd w a (k + 2)) (decide (r + 1 = k + 2)) ≤ (innL wd w (leaL wd w z) a (r + 1) k).1 then (leaL wd w z (r + 1 - (k + 2)) + lnC (lefL wd w a (k + 2)) (decide (r + 1 = k + 2)), ((k + 2 : Nat) : Int)) else innL wd w (leaL wd w z) a (r + 1) k := rfl
    have tel : ∀ fl : Int, decide (fl ≠ 0) = decide (r + 1 = k + 2) → B_Page_findFrom_110 G s (a : Int) (z : Int) w (lefL wd w a (k + 2)) ((k : Int) + 2) (leaL wd w z (r + 1 - (k + 2))) (lefL wd w a (k + 2)) fl hh (fun r' h' => r' = none ∧ hb s h' ∧ fr JWf h h' ∧ BTl wd w z (r + 1) h') (fun v4' v6' h' => (fr JWf h h' ∧ BTl wd w z r h' ∧ ∃ k' : Nat, v6' = (k' : Int) + 2 ∧ k' ≤ r ∧ v4' = lefL wd w a (k' + 1) ∧ h'.2.2.1 153 a = (innL wd w (leaL wd w z) a (r + 1) k').1 ∧ h'.2.1 154 a = (innL wd w (leaL wd w z) a (r + 1) k').2) ∧ (20 - v6').toNat < (20 - ((k : Int) + 2)).toNat) := by
      intro fl efl
      have lc := lnC_b (l := lefL wd w a (k + 2)) (x := 0) (q := decide (r + 1 = k + 2)) (by omega) (by omega) (by omega) (by omega)
      unfold B_Page_findFrom_110 B_Page_findFrom_144
      refine con_mono (j_lineCost hb1 (by omega)) ?_
      rintro r2 h2 ⟨rfl, hb2, rfl⟩
      rw [efl]
      refine ⟨_, rfl, hb2, ⟨by omega, by omega⟩, by omega, fun x6 e6 _ _ => ?_⟩
      rw [tn_c] at e6
      obtain rfl := e6.trans c3
      refine ⟨fun q3 => ⟨⟨by omega, by omega⟩, ⟨f, T1, k + 1, by omega, by omega, rfl, ?_, ?_⟩, by omega⟩, fun q3 h10 e10 h13 e13 => ⟨⟨by omega, by omega⟩, ⟨?_, fun k' hk' => ?_, k + 1, by omega, by omega, rfl, ?_, ?_⟩, by omega⟩⟩
      · rw [inS, if_neg (fun x => by have := x.2.2; omega)]; exact c3
      · rw [inS, if_neg (fun x => by have := x.2.2; omega)]; exact c4
      · exact fr_l (fr_i f e10 (by omega)) e13 (by omega)
      · rw [tn_c] at e10 e13
        rw [mm_l e13 (by omega), mm_lo e13, mm_io e10, mm_i e10 (by omega)]
        exact T1 k' hk'
      · rw [inS, if_pos ⟨by omega, by omega, by omega⟩]
        rw [tn_c] at e13
        exact mv_l e13
      · rw [inS, if_pos ⟨by omega, by omega, by omega⟩]
        rw [tn_c] at e10
        rw [mm_lo e13, mv_i e10]
        dsimp only
        omega
    refine ⟨fun q3 => tel 1 ?_, fun q3 => tel 0 ?_⟩
    · rw [decide_eq_true (show (1 : Int) ≠ 0 by decide), decide_eq_true (show r + 1 = k + 2 by omega)]
    · rw [decide_eq_false (show ¬ (0 : Int) ≠ 0 by decide), decide_eq_false (show ¬ r + 1 = k + 2 by omega)]
  refine c_Page_findFrom l53 hb0 (fun _ _ _ => ?_)
  unfold B_Page_findFrom_0
  refine ⟨by omega, fun x2 e2 _ _ => ?_⟩
  rw [tn_c] at e2
  obtain rfl := e2.trans (Wd a (by omega))
  have e1 : w - wd a = lefL wd w a 1 := rfl
  have l1 := lef 1 (by omega)
  rw [e1]
  have in0 : innL wd w (leaL wd w z) a (r + 1) 0 = (leaL wd w z (r + 1 - 1) + lnC (lefL wd w a 1) (decide (r + 1 = 1)), 1) := rfl
  have lc := lnC_b (l := lefL wd w a 1) (x := 40000) (q := decide (r + 1 = 1)) (by omega) (by omega) (by omega) (by omega)
  refine ⟨⟨by omega, by omega⟩, by omega, fun h7 e7 => ⟨⟨by omega, by omega⟩, by omega, fun x12 e12 _ _ => ?_⟩⟩
  rw [tn_c] at e7
  have ex : x12 = leaL wd w z r := by
    rw [e12, mm_io e7, show ((a : Int) + 1).toNat = z - r by omega]
    exact (T r (Nat.le_refl _)).1
  subst ex
  have tel : ∀ fl : Int, decide (fl ≠ 0) = decide (r + 1 = 1) → B_Page_findFrom_45 G s (a : Int) (z : Int) w (lefL wd w a 1) (a : Int) (leaL wd w z r) (lefL wd w a 1) fl h7 (fun r' h' => r' = none ∧ hb s h' ∧ fr JWf h h' ∧ BTl wd w z (r + 1) h') (fun v4 v6 hh => fr JWf h hh ∧ BTl wd w z r hh ∧ ∃ k : Nat, v6 = (k : Int) + 2 ∧ k ≤ r ∧ v4 = lefL wd w a (k + 1) ∧ hh.2.2.1 153 a = (innL wd w (leaL wd w z) a (r + 1) k).1 ∧ hh.2.1 154 a = (innL wd w (leaL wd w z) a (r + 1) k).2) := by
    intro fl efl
    unfold B_Page_findFrom_45
    refine con_mono (j_lineCost (hb_i hb0 e7) (by omega)) ?_
    rintro r2 h2 ⟨rfl, hb2, rfl⟩
    rw [efl]
    refine ⟨_, rfl, hb2, ⟨by omega, by omega⟩, by omega, fun h6 e6 => ?_⟩
    rw [tn_c] at e6
    refine ⟨fr_l (fr_i fr_0 e7 (by omega)) e6 (by omega), fun k' hk' => ?_, 0, rfl, by omega, rfl, ?_, ?_⟩
    · rw [mm_l e6 (by omega), mm_lo e6, mm_io e7, mm_i e7 (by omega)]
      exact T k' hk'
    · rw [in0, mv_l e6]
      rfl
    · rw [in0, mm_lo e6, mv_i e7]
  refine ⟨fun q3 => tel 1 ?_, fun q3 => tel 0 ?_⟩
  · rw [decide_eq_true (show (1 : Int) ≠ 0 by decide), decide_eq_true (show r + 1 = 1 by omega)]
  · rw [decide_eq_false (show ¬ (0 : Int) ≠ 0 by decide), decide_eq_false (show ¬ r + 1 = 1 by omega)]
/-- what THE BEST LINES cost, and how many bars each has -/
noncomputable def lnv (μ : pm_T) (w : Int) : Int := dif (14 < mbr μ (μ 0 7).toNat) (-4) (leaL (wdt μ) w (mbr μ (μ 0 7).toNat).toNat (mbr μ (μ 0 7).toNat).toNat)
noncomputable def lnl (μ : pm_T) (w : Int) : List Int := grpL (wdt μ) w (mbr μ (μ 0 7).toNat).toNat (mbr μ (μ 0 7).toNat).toNat (mbr μ (μ 0 7).toNat).toNat
noncomputable def brkv (μ : pm_T) (w : Int) : Int := dif (1 ≤ w ∧ w ≤ 1000) (dif (μ 0 7 = 0) (-2) (lnv μ w)) (-1)
theorem WDs_of (GG : GM μ) (S : SG μ) (hz : z ≤ 14) : WDs (wdt μ) (DW μ) z := by
  refine ⟨fun i => wdt_D GG S, fun i => ?_⟩
  have := DW_b GG (b := i)
  omega
theorem t_Page_find (hb0 : hb s h) (H : CV μ c h) (S : SG μ) (hw : 1 ≤ w ∧ w ≤ 1000) : con G 5 0 0 m_Page_find [av_R (some 150), av_R (some c), av_I w] h (fun r h' => r = some (av_I (lnv μ w)) ∧ hb s h' ∧ fr JWp h h' ∧ (14 < mbr μ (μ 0 7).toNat → h' = h) ∧ (¬ 14 < mbr μ (μ 0 7).toNat → GLp (lnl μ w) h')) := by
  have GG := H.2.2.1
  have hc := H.1
  have m0 := mbr_0 (μ := μ) (μ 0 7).toNat
  by_cases big : 14 < mbr μ (μ 0 7).toNat
  · refine c_Page_find (X17 := fun _ _ _ => False) hc (fun _ _ _ _ x => x.elim) hb0 (fun _ => ?_)
    unfold B_Page_find_0
    refine con_mono (t_Score_mostBars hb0 hc H.2.1) ?_
    rintro r2 h2 ⟨hb2, rfl, rfl⟩
    exact ⟨_, rfl, hb2, fun q => by omega, fun _ => ⟨by unfold lnv; rw [dif_t big], hb2, fr_0, fun _ => rfl, fun x => absurd big x⟩⟩
  unfold lnv lnl
  rw [dif_f big]
  generalize eZ : (mbr μ (μ 0 7).toNat).toNat = Z
  have eM : mbr μ (μ 0 7).toNat = (Z : Int) := by omega
  rw [eM] at big ⊢
  have hZ : Z ≤ 14 := by omega
  have hD := WDs_of GG S hZ
  have lb : ∀ k, k ≤ Z → 0 ≤ leaL (wdt μ) w Z k ∧ leaL (wdt μ) w Z k ≤ 2000000000 := fun k hk => by
    have x := leaL_b (w := w) ⟨by omega, hw.2⟩ hD.1 hD.2 k (by omega)
    have y := hD.2 Z
    have y2 := hD.2 (Z - k)
    omega
  have l82 : ∀ (v3 v4 : Int) (hh : ah_T), hb s hh → (v3 = (Z : Int) ∧ fr JWp h hh ∧ BTl (wdt μ) w Z Z hh ∧ ∃ (q : Nat) (em : List Int), v4 = (Z : Int) - q ∧ q ≤ Z ∧ GLp em hh ∧ em ++ grpL (wdt μ) w Z q q = grpL (wdt μ) w Z Z Z ∧ em.length + q ≤ Z) → aw G (rm_R 5 0 0) m_Page_find 0 0 82 [some (av_R (some 150)), none, none, some (av_I v3), some (av_I v4)] [] hh (fun r h' => r = some (av_I (leaL (wdt μ) w Z Z)) ∧ hb s h' ∧ fr JWp h h' ∧ (14 < (Z : Int) → h' = h) ∧ (¬ 14 < (Z : Int) → GLp (grpL (wdt μ) w Z Z Z) h')) := by
    refine lp_Page_find_82 (a1 := c) (a2 := w) hc _ (fun _ v4 _ => (20 - v4).toNat) ?_
    rintro v3 v4 hh hb1 ⟨rfl, f, T, q, em, rfl, hq, J1, ee, el⟩
    unfold B_Page_find_82 B_Page_find_141
    have fin : q = 0 → ∀ x2 : Int, x2 = hh.2.2.1 153 0 → (-9223372036854775808) ≤ x2 → x2 ≤ 9223372036854775807 → ((-2147483648) ≤ x2 ∧ x2 ≤ 2147483647) ∧ some (av_I x2) = some (av_I (leaL (wdt μ) w Z Z)) ∧ hb s hh ∧ fr JWp h hh ∧ (14 < (Z : Int) → hh = h) ∧ (¬ 14 < (Z : Int) → GLp (grpL (wdt μ) w Z Z Z) hh) := by
      rintro rfl x2 e2 _ _
      have t := (T Z (Nat.le_refl _)).1
      rw [Nat.sub_self] at t
      have lz := lb Z (Nat.le_refl _)
      rw [e2, t]
      refine ⟨⟨by omega, by omega⟩, rfl, hb1, f, fun x => absurd x big, fun _ => ?_⟩
      rw [← ee, show grpL (wdt μ) w Z 0 0 = [] from rfl, List.append_nil]
      exact J1
    refine ⟨fun w => fin (by omega), fun w1 x1 e1 _ _ => ?_⟩
    obtain rfl := e1.trans J1.1
    have tb := takL_b (wd := wdt μ) (w := w) (z := Z) (r := q) (by omega)
    refine ⟨fun w2 => by omega, fun w2 => ⟨by omega, fun x6 e6 _ _ => ⟨by omega, fun h9 e9 => ⟨⟨by omega, by omega⟩, fun h13 e13 => ?_⟩⟩⟩⟩
    have ex6 : x6 = takL (wdt μ) w Z q := by
      rw [e6, show ((Z : Int) - q).toNat = Z - q by omega]
      exact (T q hq).2 (by omega)
    subst ex6
    rw [tn_c] at e9
    refine ⟨⟨by omega, by omega⟩, ⟨rfl, fr_i (fr_i f e9 (by omega)) e13 (by omega), fun k hk => ?_, q - (takL (wdt μ) w Z q).toNat, em ++ [takL (wdt μ) w Z q], by omega, by omega, ?_, ?_, ?_⟩, by omega⟩
    · rw [mm_io e13, mm_io e9, mm_i e13 (by omega), mm_i e9 (by omega)]
      exact T k hk
    · refine ⟨by rw [mv_i e13, List.length_append]; rfl, fun k v hk => ?_⟩
      rw [mm_i e13 (by omega)]
      by_cases ck : k = em.length
      · subst ck
        rw [List.getElem?_concat_length] at hk
        obtain rfl := Option.some.inj hk
        exact mv_i e9
      · have kl : k < em.length := by
          by_cases cc : k < em.length
          · exact cc
          · rw [List.getElem?_eq_none (by rw [List.length_append]; show em.length + 1 ≤ k; omega)] at hk
            cases hk
        rw [List.getElem?_append_left kl] at hk
        rw [mm_i e9 (by omega)]
        exact J1.2 k v hk
    · rw [List.append_assoc, ← ee, grpL_s (r := q) (by omega)]
      rfl
    · rw [List.length_append]
      show em.length + 1 + _ ≤ _
      omega
  have l55 : ∀ (v3 v4 : Int) (hh : ah_T), hb s hh → (v3 = (Z : Int) ∧ fr JWp h hh ∧ (∀ b, b < Z → hh.2.1 152 b = wdt μ b) ∧ ∃ r : Nat, r ≤ Z ∧ v4 = (Z : Int) - 1 - r ∧ BTl (wdt μ) w Z r hh) → aw G (rm_R 5 0 0) m_Page_find 0 0 55 [some (av_R (some 150)), none, some (av_I w), some (av_I v3), some (av_I v4)] [] hh (fun r h' => r = some (av_I (leaL (wdt μ) w Z Z)) ∧ hb s h' ∧ fr JWp h h' ∧ (14 < (Z : Int) → h' = h) ∧ (¬ 14 < (Z : Int) → GLp (grpL (wdt μ) w Z Z Z) h')) := by
    refine lp_Page_find_55 (a1 := c) hc l82 _ (fun _ v4 _ => (v4 + 1).toNat) ?_
    rintro v3 v4 hh hb1 ⟨rfl, f, Wd, r, hr, rfl, T⟩
    unfold B_Page_find_55
    refine ⟨fun q h1 e1 => ?_, fun q => ?_⟩
    · have : r = Z := by omega
      subst this
      refine ⟨rfl, fr_i f e1 (by omega), fun k hk => ?_, r, [], by omega, Nat.le_refl _, ⟨mv_i e1, fun k v hk => by cases hk⟩, rfl, by show 0 + _ ≤ _; omega⟩
      rw [mm_io e1, mm_i e1 (by omega)]
      exact T k hk
    · have jf := j_from (G := G) hb1 hw hZ (show r < Z by omega) hD Wd T
      rw [show ((Z - (r + 1) : Nat) : Int) = (Z : Int) - 1 - r by omega] at jf
      refine con_mono jf ?_
      rintro r2 h2 ⟨rfl, hb2, f2, T2⟩
      refine ⟨rfl, hb2, ⟨by omega, by omega⟩, ⟨rfl, fr_t f (JWf_p f2) (fun _ _ w => w), fun b hb' => ?_, r + 1, by omega, by omega, T2⟩, by omega⟩
      rw [fr_g f2 (by omega)]
      exact Wd b hb'
  refine c_Page_find (X17 := fun v3 v4 hh => v3 = (Z : Int) ∧ fr JWp h hh ∧ ∃ k : Nat, v4 = (k : Int) ∧ k ≤ Z ∧ ∀ b, b < k → hh.2.1 152 b = wdt μ b) hc ?_ hb0 (fun _ => ?_)
  · refine lp_Page_find_17 hc l55 _ (fun _ v4 _ => (20 - v4).toNat) ?_
    rintro v3 v4 hh hb1 ⟨rfl, f, k, rfl, hk, Wd⟩
    unfold B_Page_find_17
    refine ⟨fun q => ⟨by omega, fun h3 e3 => ⟨⟨by omega, by omega⟩, rfl, fr_l f e3 (by omega), fun b hb' => by rw [mm_lo e3]; exact Wd b (by omega), 0, Nat.zero_le _, by omega, fun k' hk' => ?_⟩⟩, fun q => ?_⟩
    · have : k' = 0 := by omega
      subst this
      rw [tn_c] at e3
      exact ⟨mv_l e3, fun x => by omega⟩
    · refine con_mono (t_Page_widthOf hb1 (CV_f H f JWp_43) (b := k) (by omega)) ?_
      rintro r2 h2 ⟨rfl, hb2, f2⟩
      refine ⟨_, rfl, hb2, by omega, fun h11 e11 => ⟨⟨by omega, by omega⟩, ⟨rfl, fr_i (fr_t f (JWg_p f2) (fun _ _ w => w)) e11 (by omega), k + 1, by omega, by omega, fun b hb' => ?_⟩, by omega⟩⟩
      rw [tn_c] at e11
      by_cases cb : b = k
      · subst cb
        exact mv_i e11
      · rw [mm_i e11 (by omega), fr_g f2 (by omega)]
        exact Wd b (by omega)
  · unfold B_Page_find_0
    refine con_mono (t_Score_mostBars hb0 hc H.2.1) ?_
    rintro r2 h2 ⟨hb2, rfl, rfl⟩
    rw [eM]
    exact ⟨_, rfl, hb2, fun _ => ⟨rfl, fr_0, 0, rfl, Nat.zero_le _, fun b hb' => by omega⟩, fun q => by omega⟩
theorem t_PM_breaks {s : Nat} {h : ah_T} (hb0 : hb s h) (H : CV μ (97 - s) h) (S : SG μ) : con G 6 0 0 m_PM_breaks [av_R (some 0), av_I w] h (fun r h' => r = some (av_I (brkv μ w)) ∧ hb s h' ∧ fr JWp h h' ∧ (brkv μ w < 0 → h' = h) ∧ (0 ≤ brkv μ w → GLp (lnl μ w) h')) := by
  have C := H.2.1
  have b7 := H.2.2.1.1.1
  have hl : ¬ 14 < mbr μ (μ 0 7).toNat → 1 ≤ w ∧ w ≤ 1000 → 0 ≤ lnv μ w := fun big hw => by
    have m0 := mbr_0 (μ := μ) (μ 0 7).toNat
    have hD := WDs_of H.2.2.1 S (z := (mbr μ (μ 0 7).toNat).toNat) (by omega)
    unfold lnv
    rw [dif_f big]
    exact (leaL_b (w := w) ⟨by omega, hw.2⟩ hD.1 hD.2 _ (Nat.le_refl _)).1
  refine c_PM_breaks hb0 (fun _ => ?_)
  unfold B_PM_breaks_0 B_PM_breaks_12
  have bad : ¬ (1 ≤ w ∧ w ≤ 1000) → some (av_I (-1)) = some (av_I (brkv μ w)) ∧ hb s h ∧ fr JWp h h ∧ (brkv μ w < 0 → h = h) ∧ (0 ≤ brkv μ w → GLp (lnl μ w) h) := fun q => by
    unfold brkv
    rw [dif_f q]
    exact ⟨rfl, hb0, fr_0, fun _ => rfl, fun x => absurd x (by decide)⟩
  refine ⟨fun q => bad (by omega), fun q => ⟨fun q2 x2 e2 _ _ => ?_, fun q2 => bad (by omega)⟩⟩
  obtain rfl := e2.trans C.1.1
  refine ⟨fun q3 => ?_, fun q3 => ?_⟩
  · unfold brkv
    rw [dif_t ⟨by omega, q2⟩, dif_t q3]
    exact ⟨rfl, hb0, fr_0, fun _ => rfl, fun x => absurd x (by decide)⟩
  · refine con_mono (t_Page_find hb0 H S (w := w) ⟨by omega, q2⟩) ?_
    rintro r2 h2 ⟨rfl, hb2, f2, k1, k2⟩
    have e : brkv μ w = lnv μ w := by unfold brkv; rw [dif_t ⟨by omega, q2⟩, dif_f q3]
    refine ⟨_, rfl, hb2, by rw [e], hb2, f2, fun x => k1 ?_, fun x => k2 (fun y => ?_)⟩
    · by_cases big : 14 < mbr μ (μ 0 7).toNat
      · exact big
      · have := hl big ⟨by omega, q2⟩
        omega
    · rw [e] at x
      unfold lnv at x
      rw [dif_t y] at x
      exact absurd x (by decide)
end
