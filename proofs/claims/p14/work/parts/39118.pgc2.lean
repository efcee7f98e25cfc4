/-! ===== page, the class: the next event of each voice ===== -/
def tmT (μ : pm_T) (b o e : Nat) : Int := rdT (xBr μ o (brE μ o b) e) (yBr μ o (brE μ o b) e)
def tmB (μ : pm_T) (b o e : Nat) : Int := rdB (xBr μ o (brE μ o b) e) (yBr μ o (brE μ o b) e)
/-- event i of voice o is one of bar b, or behind its beginning -/
def act (μ : pm_T) (b o i : Nat) : Prop := (o : Int) < μ 0 7 ∧ (b : Int) < μ (10 + o) 1 ∧ i < brE μ o (b + 1)
abbrev JWn (o : Nat) : Nat → Nat → Prop := fun a k => (a = 156 ∨ a = 157) ∧ k = o
abbrev JWg : Nat → Nat → Prop := fun a _ => a = 155 ∨ a = 156 ∨ a = 157
theorem JWg_43 : ∀ a k, JWg a k → 143 ≤ a := by
  intro a k w
  rcases w with w | w | w <;> omega
theorem JWn_g {o : Nat} {h h' : ah_T} (f : fr (JWn o) h h') : fr JWg h h' := fr_w f (fun a k w => by obtain ⟨w1, w2⟩ := w; omega)
/-- the time told of voice o with its pointer i -/
def NXt (μ : pm_T) (b o i : Nat) (h : ah_T) : Prop := (act μ b o i → h.2.2.1 156 o = tmT μ b o i ∧ h.2.2.1 157 o = tmB μ b o i) ∧ (¬ act μ b o i → h.2.2.1 156 o = -1)
theorem tm_b {μ : pm_T} (GG : GM μ) {b o i : Nat} (ho : (o : Int) < μ 0 7) (hi : brE μ o b ≤ i) (hi2 : (i : Int) ≤ μ (10 + o) 0) : (0 ≤ tmT μ b o i ∧ tmT μ b o i ≤ 1000000000000000) ∧ (1 ≤ tmB μ b o i ∧ tmB μ b o i ≤ 1000000000000) := by
  have xy := xy_b GG ho hi hi2
  obtain ⟨r1, r2, -⟩ := rd_pos xy.1.1 xy.2.1
  unfold tmT tmB
  omega
section
variable {G : cx_T} {s c b : Nat} {h : ah_T} {μ : pm_T}
theorem j_next_v {o i : Nat} (hb0 : hb s h) (H : CV μ c h) (ho : (o : Int) < μ 0 7) (hi : h.2.1 155 o = (i : Int)) (hbi : (b : Int) < μ (10 + o) 1 → brE μ o b ≤ i) (hb1 : b ≤ 101) : con G 1 0 0 m_Page_setNext [av_R (some 150), av_R (some (c + 7 + 14 * o)), av_I (o : Int), av_I (b : Int)] h (fun r h' => r = none ∧ hb s h' ∧ fr (JWn o) h h' ∧ NXt μ b o i h') := by
  obtain ⟨hv, -, h16, hE, hB, n4⟩ := CV_v H ho
  have GG := H.2.2.1
  refine c_Page_setNext_v hv hb0 (fun _ _ => ?_)
  unfold B_Page_setNext_v_0 B_Page_setNext_v_33
  have no : ¬ act μ b o i → (0 ≤ (o : Int) ∧ (o : Int) < 4) ∧ ∀ h3 : ah_T, h3 = st_l h 156 o (-1) → (none : Option av_T) = none ∧ hb s h3 ∧ fr (JWn o) h h3 ∧ NXt μ b o i h3 := fun na => ⟨by omega, fun h3 e3 => ⟨rfl, hb_l hb0 e3, fr_l fr_0 e3 ⟨Or.inl rfl, rfl⟩, fun x => absurd x na, fun _ => mv_l e3⟩⟩
  rw [tn_c]
  refine ⟨by omega, fun x2 e2 _ _ x4 e4 _ _ => ?_⟩
  obtain rfl := e2.trans hi
  have ex := e4.trans h16
  subst ex
  refine ⟨fun q => no (fun w => by have := w.2.1; omega), fun q => ⟨⟨by omega, by omega⟩, by omega, ?_⟩⟩
  have hbl : (b : Int) < μ (10 + o) 1 := by omega
  rw [show ((b : Int) + 1).toNat = b + 1 by omega]
  intro x7 e7 _ _
  obtain rfl := e7.trans (CV_b H ho (b := b + 1) (by omega))
  refine ⟨fun q2 => ?_, fun q2 => no (fun w => by have := w.2.2; omega)⟩
  have e1 := brE_b GG (b := b + 1) ho
  have A : act μ b o i := ⟨ho, hbl, by omega⟩
  have xy := xy_b GG ho (hbi hbl) (e := i) (by omega)
  refine con_mono (j_sinceT hb0 H ho hbl (hbi hbl) (e := i) (by omega)) ?_
  rintro r h9 ⟨rfl, hb9, rfl⟩
  refine ⟨_, rfl, hb9, ?_⟩
  refine con_mono (j_sinceB hb9 H ho hbl (hbi hbl) (e := i) (by omega)) ?_
  rintro r h12 ⟨rfl, hb12, rfl⟩
  refine ⟨_, rfl, hb12, ?_⟩
  refine con_mono (t_PM_greatestDivisor hb12 xy.1.1 (by omega)) ?_
  rintro r h15 ⟨z, rfl, hb15, rfl, ez⟩
  have gr := gcd_r (a := xBr μ o (brE μ o b) i) xy.2.1
  have ez2 : z = (Int.gcd (xBr μ o (brE μ o b) i) (yBr μ o (brE μ o b) i) : Int) := by
    rw [ez]; unfold gdv; rw [if_neg (by omega)]
  subst ez2
  refine ⟨_, rfl, hb15, by omega, fun x19 e19 _ _ h20 e20 => ⟨by omega, fun x23 e23 _ _ h24 e24 => ?_⟩⟩
  rw [w64_d xy.1.1 (by omega) gr.1] at e19
  rw [w64_d (by omega) (by omega) gr.1] at e23
  refine ⟨rfl, hb_l (hb_l hb15 e20) e24, fr_l (fr_l fr_0 e20 ⟨Or.inl rfl, rfl⟩) e24 ⟨Or.inr rfl, rfl⟩, fun _ => ⟨?_, ?_⟩, fun x => absurd A x⟩
  · rw [mm_l e24 (by omega), mv_l e20, e19]; rfl
  · rw [mv_l e24, e23]; rfl
theorem j_next_n {o i : Nat} (hb0 : hb s h) (ho : ¬ (o : Int) < μ 0 7) (ho4 : o < 4) : con G 1 0 0 m_Page_setNext [av_R (some 150), av_R none, av_I (o : Int), av_I (b : Int)] h (fun r h' => r = none ∧ hb s h' ∧ fr (JWn o) h h' ∧ NXt μ b o i h') := by
  refine c_Page_setNext_n hb0 (fun _ _ => ?_)
  unfold B_Page_setNext_n_0 B_Page_setNext_n_33
  rw [tn_c]
  exact ⟨by omega, fun x2 e2 _ _ => ⟨by omega, fun h3 e3 => ⟨rfl, hb_l hb0 e3, fr_l fr_0 e3 ⟨Or.inl rfl, rfl⟩, fun x => absurd x.1 ho, fun _ => mv_l e3⟩⟩⟩
/-- all four pointers with their times -/
def PTs (μ : pm_T) (b : Nat) (p : Nat → Nat) (h : ah_T) : Prop := ∀ o, o < 4 → h.2.1 155 o = (p o : Int) ∧ NXt μ b o (p o) h ∧ (act μ b o (p o) → brE μ o b ≤ p o)
/-- the order of two times of a bar -/
def tmL (μ : pm_T) (b o i v e : Nat) : Prop := tmT μ b o i * tmB μ b v e < tmT μ b v e * tmB μ b o i
theorem j_earliest {p : Nat → Nat} (hb0 : hb s h) (GG : GM μ) (P : PTs μ b p h) : con G 2 0 0 m_Page_earliest [av_R (some 150)] h (fun r h' => ∃ m : Nat, r = some (av_I (m : Int)) ∧ hb s h' ∧ h' = h ∧ m < 4 ∧ (∀ o, o < 4 → act μ b o (p o) → act μ b m (p m) ∧ ¬ tmL μ b o (p o) m (p m))) := by
  have rg : ∀ o, o < 4 → act μ b o (p o) → (0 ≤ tmT μ b o (p o) ∧ 1 ≤ tmB μ b o (p o)) := fun o h4 A => by
    have e1 := brE_b GG (b := b + 1) A.1
    have := tm_b GG (b := b) A.1 ((P o h4).2.2 A) (by have := A.2.2; omega)
    omega
  refine c_Page_earliest (X4 := fun v1 v2 hh => hh = h ∧ ∃ m k : Nat, v1 = (m : Int) ∧ v2 = (k : Int) ∧ m < k ∧ k ≤ 4 ∧ ∀ o, o < k → act μ b o (p o) → act μ b m (p m) ∧ ¬ tmL μ b o (p o) m (p m)) ?_ hb0 ?_
  · refine lp_Page_earliest_4 _ (fun _ v2 _ => (5 - v2).toNat) ?_
    rintro v1 v2 hh hb1 ⟨rfl, m, k, rfl, rfl, mk, k4, al⟩
    unfold B_Page_earliest_4 B_Page_earliest_61 B_Page_earliest_63
    refine ⟨fun q => ⟨m, rfl, hb1, rfl, by omega, fun o ho => al o (by omega)⟩, fun q => ⟨by omega, ?_⟩⟩
    rw [tn_c, tn_c]
    intro x2 e2 _ _
    obtain ⟨p1, ⟨n1, n2⟩, p3⟩ := P k (by omega)
    obtain ⟨q1, ⟨o1, o2⟩, q3⟩ := P m (by omega)
    have keep : (act μ b k (p k) → act μ b m (p m) ∧ ¬ tmL μ b k (p k) m (p m)) → ∀ o, o < k + 1 → act μ b o (p o) → act μ b m (p m) ∧ ¬ tmL μ b o (p o) m (p m) := fun hk o ho A => by
      by_cases c : o = k
      · subst c; exact hk A
      · exact al o (by omega) A
    by_cases A : act μ b k (p k)
    · obtain ⟨t1, t2⟩ := n1 A
      obtain ⟨rk1, rk2⟩ := rg k (by omega) A
      have ex := e2.trans t1
      subst ex
      refine ⟨fun w => by omega, fun w => ⟨by omega, fun x6 e6 _ _ => ?_⟩⟩
      by_cases B : act μ b m (p m)
      · obtain ⟨u1, u2⟩ := o1 B
        obtain ⟨rm1, rm2⟩ := rg m (by omega) B
        have ex := e6.trans u1
        subst ex
        refine ⟨fun w2 => by omega, fun w2 x12 e12 _ _ x16 e16 _ _ => ?_⟩
        have ex := e12.trans t2
        subst ex
        have ex := e16.trans u2
        subst ex
        refine con_mono (t_PM_compareFractions hb1 rk1 rk2 rm1 rm2) ?_
        rintro r h17 ⟨z, rfl, hb17, rfl, z1, z2⟩
        refine ⟨z, rfl, hb17, fun w3 => ⟨⟨by omega, by omega⟩, ⟨rfl, m, k + 1, rfl, by omega, by omega, by omega, keep (fun _ => ⟨B, fun w => by have := z2.mpr w; omega⟩)⟩, by omega⟩, fun w3 => ⟨⟨by omega, by omega⟩, ⟨rfl, k, k + 1, rfl, by omega, by omega, by omega, fun o ho Ao => ⟨A, fun w => ?_⟩⟩, by omega⟩⟩
        have lt : tmL μ b k (p k) m (p m) := z2.mp (by omega)
        by_cases c : o = k
        · subst c
          unfold tmL at w
          omega
        · have nl := (al o (by omega) Ao).2
          obtain ⟨ro1, ro2⟩ := rg o (by omega) Ao
          unfold tmL at w lt nl
          exact nl (fr_ll (a := tmT μ b o (p o)) (b := tmB μ b o (p o)) (c := tmT μ b k (p k)) (d := tmB μ b k (p k)) (e := tmT μ b m (p m)) (f := tmB μ b m (p m)) rk2 ro2 rm2 w (Int.le_of_lt lt))
      · have ex := e6.trans (o2 B)
        subst ex
        refine ⟨fun w2 => ⟨⟨by omega, by omega⟩, ⟨rfl, k, k + 1, rfl, by omega, by omega, by omega, fun o ho Ao => ?_⟩, by omega⟩, fun w2 => absurd (show (-1 : Int) < 0 by decide) w2⟩
        by_cases c : o = k
        · subst c
          exact ⟨A, fun w => by unfold tmL at w; omega⟩
        · exact absurd (al o (by omega) Ao).1 B
    · have ex := e2.trans (n2 A)
      subst ex
      exact ⟨fun w => ⟨⟨by omega, by omega⟩, ⟨rfl, m, k + 1, rfl, by omega, by omega, by omega, keep (fun x => absurd x A)⟩, by omega⟩, fun w => absurd (show (-1 : Int) < 0 by decide) w⟩
  · unfold B_Page_earliest_0
    refine ⟨rfl, 0, 1, rfl, rfl, by decide, by decide, fun o ho A => ?_⟩
    obtain rfl : o = 0 := by omega
    exact ⟨A, fun w => by unfold tmL at w; omega⟩
end
