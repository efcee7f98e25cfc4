/-! ===== second voices, the reference: whether a key fits ===== -/
def PRr (low : Int) (sp n : Nat) (R : Int) (ln : Nat → Int) (h : ah_T) : Prop := (h.2.1 170 94 = low ∧ h.2.1 170 95 = low + (sp : Int) - 1 ∧ h.2.1 170 93 = (n : Int) ∧ h.2.1 170 96 = R) ∧ ∀ j, j < n → h.2.1 229 j = ln j
section
variable {G : cx_T} {s : Nat} {h : ah_T} {low : Int} {sp n : Nat} {R : Int} {ln : Nat → Int}
theorem m_isRule {k : Int} (hb0 : hb s h) (H : PRr low sp n R ln h) : con G 0 0 0 m_MD_isRule [av_R (some 170), av_I k] h (fun r h' => ∃ z : Int, r = some (av_I z) ∧ hb s h' ∧ h' = h ∧ Tld (Ask R k) z) := by
  refine c_MD_isRule hb0 (fun _ => ?_)
  unfold B_MD_isRule_0 B_MD_isRule_14
  intro x1 e1 _ _ x2 e2 _ _
  obtain rfl := e1.trans H.1.2.2.2
  refine ⟨fun q => ⟨Or.inl rfl, 0, rfl, hb0, rfl, Or.inl ⟨rfl, fun w => w (e2.symm.trans q)⟩⟩, fun q => ⟨Or.inr rfl, 1, rfl, hb0, rfl, Or.inr ⟨rfl, fun w => q (e2.trans w)⟩⟩⟩
theorem m_isWhite {k : Int} (hb0 : hb s h) : con G 0 0 0 m_MD_isWhite [av_R (some 170), av_I k] h (fun r h' => ∃ z : Int, r = some (av_I z) ∧ hb s h' ∧ h' = h ∧ Tld (WHt k) z) := by
  refine c_MD_isWhite hb0 (fun _ => ?_)
  have yes : WHt k → B_MD_isWhite_37 G s k h (fun r h' => ∃ z : Int, r = some (av_I z) ∧ hb s h' ∧ h' = h ∧ Tld (WHt k) z) := fun w => by
    unfold B_MD_isWhite_37 B_MD_isWhite_42
    exact ⟨Or.inr rfl, 1, rfl, hb0, rfl, Or.inr ⟨rfl, w⟩⟩
  unfold B_MD_isWhite_0
  refine ⟨fun q => yes (by unfold WHt; omega), fun q0 => ⟨fun q => yes (by unfold WHt; omega), fun q1 => ⟨fun q => yes (by unfold WHt; omega), fun q2 => ⟨fun q => yes (by unfold WHt; omega), fun q3 => ⟨fun q => yes (by unfold WHt; omega), fun q4 => ⟨fun q => yes (by unfold WHt; omega), fun q5 => ⟨fun q => yes (by unfold WHt; omega), fun q6 => ?_⟩⟩⟩⟩⟩⟩⟩
  unfold B_MD_isWhite_42
  exact ⟨Or.inl rfl, 0, rfl, hb0, rfl, Or.inl ⟨rfl, by unfold WHt; omega⟩⟩
theorem Tld_0 {p : Prop} {z : Int} (H : Tld p z) (q : z = 0) : ¬ p := by
  rcases H with ⟨-, w⟩ | ⟨w, -⟩
  · exact w
  · omega
theorem Tld_1 {p : Prop} {z : Int} (H : Tld p z) (q : ¬ z = 0) : p := by
  rcases H with ⟨w, -⟩ | ⟨-, w⟩
  · exact absurd w q
  · exact w
/-- a key and those ahead of it -/
theorem t_MD_goes {x : Int} {p : List Int} (hb0 : hb s h) (H : PRr low sp n R ln h) (hg : PRg low sp n ln) (hi : p.length < n) (K : KLs 230 (x :: p) h) (kr : KRg low sp (x :: p)) : con G 1 0 0 m_MD_goes [av_R (some 170), av_I (p.length : Int)] h (fun r h' => ∃ z : Int, r = some (av_I z) ∧ hb s h' ∧ h' = h ∧ Tld (fP R ln n x p) z) := by
  obtain ⟨⟨g1, g2⟩, g3, ⟨g4, g5⟩, g6⟩ := id hg
  have lb := g6 p.length hi
  have xb := KRg_h kr
  have hx : h.2.1 230 p.length = x := K.1
  have fA_of : fP R ln n x p → fA R ln n x p.length := fun w => by
    cases p with
    | nil => exact w
    | cons y q => cases q with
      | nil => exact w.1
      | cons y2 q2 => exact w.1
  refine c_MD_goes hb0 (fun _ => ?_)
  have no : ¬ fP R ln n x p → ∃ z : Int, some (av_I 0) = some (av_I z) ∧ hb s h ∧ h = h ∧ Tld (fP R ln n x p) z := fun w => ⟨0, rfl, hb0, rfl, Or.inl ⟨rfl, w⟩⟩
  have yes : fP R ln n x p → ∃ z : Int, some (av_I 1) = some (av_I z) ∧ hb s h ∧ h = h ∧ Tld (fP R ln n x p) z := fun w => ⟨1, rfl, hb0, rfl, Or.inr ⟨rfl, w⟩⟩
  -- behind what a key is alone
  have t157 : fA R ln n x p.length → ∀ v4 : Int, Tld (PFc ((x - ln p.length) % 12)) v4 → B_MD_goes_157 G s (p.length : Int) ((x - ln p.length) % 12) v4 h (fun r h' => ∃ z : Int, r = some (av_I z) ∧ hb s h' ∧ h' = h ∧ Tld (fP R ln n x p) z) := fun wA v4 tv => by
    unfold B_MD_goes_157
    cases p with
    | nil => exact ⟨fun _ => yes wA, fun q => absurd rfl q⟩
    | cons y q =>
    have hy : h.2.1 230 q.length = y := K.2.1
    have yb := KRg_h (KRg_t kr)
    have lb0 := g6 q.length (by have : q.length + 1 < n := hi; omega)
    refine ⟨fun w => by have : ((q.length + 1 : Nat) : Int) = 0 := w; omega, fun _ => ?_⟩
    rw [show ((y :: q).length : Int) = ((q.length + 1 : Nat) : Int) from rfl, tn_c, show (((q.length + 1 : Nat) : Int) - 1).toNat = q.length by omega]
    have hi' : q.length + 1 < n := hi
    have hx' : h.2.1 230 (q.length + 1) = x := hx
    have fB_of : fP R ln n x (y :: q) → fB R ln x y q.length := fun w => by
      cases q with
      | nil => exact w.2
      | cons y2 q2 => exact w.2.1
    have lb1 : -2 ≤ ln (q.length + 1) ∧ ln (q.length + 1) ≤ 109 := lb
    -- the last: behind two
    have t334 : fB R ln x y q.length → B_MD_goes_334 G s ((q.length + 1 : Nat) : Int) (x - y) h (fun r h' => ∃ z : Int, r = some (av_I z) ∧ hb s h' ∧ h' = h ∧ Tld (fP R ln n x (y :: q)) z) := fun wB => by
      unfold B_MD_goes_334 B_MD_goes_348 B_MD_goes_388 B_MD_goes_393 B_MD_goes_413 B_MD_goes_418
      cases q with
      | nil => exact ⟨fun _ => yes ⟨wA, wB⟩, fun w => absurd (show (((0 : Nat) + 1 : Nat) : Int) = 1 from rfl) w⟩
      | cons w0 q2 =>
      have hw : h.2.1 230 q2.length = w0 := K.2.2.1
      have wb := KRg_h (KRg_t (KRg_t kr))
      refine ⟨fun w => by have : ((q2.length + 1 + 1 : Nat) : Int) = 1 := w; omega, fun _ => ?_⟩
      refine con_mono (m_isRule hb0 H) ?_
      rintro r h2 ⟨z, rfl, hb2, rfl, zz⟩
      refine ⟨z, rfl, hb2, fun w => yes ⟨wA, wB, fun a => absurd a (Tld_0 zz w)⟩, fun w => ?_⟩
      have ak := Tld_1 zz w
      rw [show (((w0 :: q2).length + 1 : Nat) : Int) = ((q2.length + 2 : Nat) : Int) from rfl, show (((q2.length + 2 : Nat) : Int) - 1).toNat = q2.length + 1 by omega, show (((q2.length + 2 : Nat) : Int) - 2).toNat = q2.length by omega]
      have hi2 : q2.length + 1 + 1 < n := hi
      refine ⟨⟨by omega, by omega⟩, by omega, fun x6 e6 _ _ => ⟨⟨by omega, by omega⟩, by omega, fun x10 e10 _ _ => ?_⟩⟩
      have ex : x6 = y := e6.trans hy
      have ex2 : x10 = w0 := e10.trans hw
      rw [ex, ex2]
      have y1 : fC R x y w0 → ∃ z : Int, some (av_I 1) = some (av_I z) ∧ hb s h2 ∧ h2 = h2 ∧ Tld (fP R ln n x (y :: w0 :: q2)) z := fun w => yes ⟨wA, wB, w⟩
      have n1 : ¬ fC R x y w0 → ∃ z : Int, some (av_I 0) = some (av_I z) ∧ hb s h2 ∧ h2 = h2 ∧ Tld (fP R ln n x (y :: w0 :: q2)) z := fun w => no (fun v => w v.2.2)
      refine ⟨⟨by omega, by omega⟩, fun q3 => ⟨fun q4 => ⟨Or.inr rfl, y1 (fun _ => by omega)⟩, fun q4 => ⟨fun q5 => ⟨Or.inr rfl, y1 (fun _ => by omega)⟩, fun q5 => ⟨fun q6 => ⟨Or.inr rfl, y1 (fun _ => by omega)⟩, fun q6 => ⟨Or.inl rfl, n1 (fun v => by have := v ak; omega)⟩⟩⟩⟩, fun q3 => ⟨fun q4 => ⟨Or.inr rfl, y1 (fun _ => by omega)⟩, fun q4 => ⟨fun q5 => ⟨Or.inr rfl, y1 (fun _ => by omega)⟩, fun q5 => ⟨Or.inl rfl, n1 (fun v => by have := v ak; omega)⟩⟩⟩⟩
    have t318 : (Ask R 4 → ¬ (PFc ((x - ln (q.length + 1)) % 12) ∧ x - y ≠ 0 ∧ (y - ln q.length) % 12 = (x - ln (q.length + 1)) % 12)) → (Ask R 8 → ¬ (PFc ((x - ln (q.length + 1)) % 12) ∧ ((0 < x - y ∧ 0 < ln (q.length + 1) - ln q.length) ∨ (x - y < 0 ∧ ln (q.length + 1) - ln q.length < 0)))) → (Ask R 16 → (-7 ≤ x - y ∧ x - y ≤ 7) ∨ x - y = 12 ∨ x - y = -12) → B_MD_goes_318 G s ((q.length + 1 : Nat) : Int) (x - y) h (fun r h' => ∃ z : Int, r = some (av_I z) ∧ hb s h' ∧ h' = h ∧ Tld (fP R ln n x (y :: q)) z) := fun a1 a2 a3 => by
      unfold B_MD_goes_318
      refine con_mono (m_isRule hb0 H) ?_
      rintro r h2 ⟨z, rfl, hb2, rfl, zz⟩
      refine ⟨z, rfl, hb2, fun w => t334 ⟨a1, a2, a3, fun a => absurd a (Tld_0 zz w)⟩, fun w => ⟨fun w2 => no (fun v => (fB_of v).2.2.2 (Tld_1 zz w) w2), fun w2 => t334 ⟨a1, a2, a3, fun _ => w2⟩⟩⟩
    have t278 : (Ask R 4 → ¬ (PFc ((x - ln (q.length + 1)) % 12) ∧ x - y ≠ 0 ∧ (y - ln q.length) % 12 = (x - ln (q.length + 1)) % 12)) → (Ask R 8 → ¬ (PFc ((x - ln (q.length + 1)) % 12) ∧ ((0 < x - y ∧ 0 < ln (q.length + 1) - ln q.length) ∨ (x - y < 0 ∧ ln (q.length + 1) - ln q.length < 0)))) → B_MD_goes_278 G s ((q.length + 1 : Nat) : Int) (x - y) h (fun r h' => ∃ z : Int, r = some (av_I z) ∧ hb s h' ∧ h' = h ∧ Tld (fP R ln n x (y :: q)) z) := fun a1 a2 => by
      have t291 : ∀ t0 : Int, (0 ≤ x - y ∧ t0 = x - y) ∨ (x - y < 0 ∧ t0 = -(x - y)) → B_MD_goes_291 G s ((q.length + 1 : Nat) : Int) (x - y) t0 h (fun r h' => ∃ z : Int, r = some (av_I z) ∧ hb s h' ∧ h' = h ∧ Tld (fP R ln n x (y :: q)) z) := fun t0 ht => by
        unfold B_MD_goes_291
        refine con_mono (m_isRule hb0 H) ?_
        rintro r h2 ⟨z, rfl, hb2, rfl, zz⟩
        refine ⟨z, rfl, hb2, fun w => t318 a1 a2 (fun a => absurd a (Tld_0 zz w)), fun w => ⟨fun w2 => t318 a1 a2 (fun _ => by omega), fun w2 => ⟨fun w3 => t318 a1 a2 (fun _ => by omega), fun w3 => no (fun v => ?_)⟩⟩⟩
        have := (fB_of v).2.2.1 (Tld_1 zz w)
        omega
      unfold B_MD_goes_278
      exact ⟨fun w => t291 _ (Or.inl ⟨w, rfl⟩), fun w => ⟨⟨by omega, by omega⟩, t291 _ (Or.inr ⟨by omega, rfl⟩)⟩⟩
    have t242 : (Ask R 4 → ¬ (PFc ((x - ln (q.length + 1)) % 12) ∧ x - y ≠ 0 ∧ (y - ln q.length) % 12 = (x - ln (q.length + 1)) % 12)) → B_MD_goes_242 G s ((q.length + 1 : Nat) : Int) v4 (x - y) (ln (q.length + 1) - ln q.length) h (fun r h' => ∃ z : Int, r = some (av_I z) ∧ hb s h' ∧ h' = h ∧ Tld (fP R ln n x (y :: q)) z) := fun a1 => by
      unfold B_MD_goes_242 B_MD_goes_266 B_MD_goes_276
      refine con_mono (m_isRule hb0 H) ?_
      rintro r h2 ⟨z, rfl, hb2, rfl, zz⟩
      refine ⟨z, rfl, hb2, fun w => t278 a1 (fun a => absurd a (Tld_0 zz w)), fun w => ⟨fun w2 => t278 a1 (fun _ v => Tld_0 tv w2 v.1), fun w2 => ?_⟩⟩
      have ak := Tld_1 zz w
      have pf : PFc ((x - ln (q.length + 1)) % 12) := Tld_1 tv w2
      exact ⟨fun q3 => ⟨fun q4 => t278 a1 (fun _ v => by have := v.2; omega), fun q4 => ⟨fun q5 => t278 a1 (fun _ v => by have := v.2; omega), fun q5 => no (fun v => (fB_of v).2.1 ak ⟨pf, Or.inr ⟨by omega, by omega⟩⟩)⟩⟩, fun q3 => ⟨fun q4 => no (fun v => (fB_of v).2.1 ak ⟨pf, Or.inl ⟨by omega, q4⟩⟩), fun q4 => ⟨fun q5 => t278 a1 (fun _ v => by have := v.2; omega), fun q5 => by omega⟩⟩⟩
    refine ⟨by omega, fun x2 e2 _ _ => ⟨⟨by omega, by omega⟩, by omega, fun x6 e6 _ _ => ?_⟩⟩
    have ex : x2 = x := e2.trans hx'
    have ex2 : x6 = y := e6.trans hy
    rw [ex, ex2]
    refine ⟨⟨by omega, by omega⟩, fun x10 e10 _ _ x12 e12 _ _ => ?_⟩
    have ex3 : x10 = ln (q.length + 1) := e10.trans (H.2 _ hi')
    have ex4 : x12 = ln q.length := e12.trans (H.2 _ (by omega))
    rw [ex3, ex4]
    refine ⟨⟨by omega, by omega⟩, ?_⟩
    refine con_mono (m_isRule hb0 H) ?_
    rintro r h2 ⟨z, rfl, hb2, rfl, zz⟩
    refine ⟨z, rfl, hb2, fun w => t242 (fun a => absurd a (Tld_0 zz w)), fun w => ⟨fun w2 => t242 (fun _ v => Tld_0 tv w2 v.1), fun w2 => ⟨fun w3 => t242 (fun _ v => v.2.1 w3), fun w3 x18 e18 _ _ x20 e20 _ _ => ?_⟩⟩⟩
    have ex5 : x18 = y := e18.trans hy
    have ex6 : x20 = ln q.length := e20.trans (H.2 _ (by omega))
    rw [ex5, ex6]
    refine ⟨⟨by omega, by omega⟩, ?_⟩
    refine con_mono (m_modulo hb0) ?_
    rintro r h3 ⟨z24, rfl, hb3, rfl, ez⟩
    have pf : PFc ((x - ln (q.length + 1)) % 12) := Tld_1 tv w2
    exact ⟨z24, rfl, hb3, fun w4 => no (fun v => (fB_of v).1 (Tld_1 zz w) ⟨pf, w3, ez.symm.trans w4⟩), fun w4 => t242 (fun _ v => w4 (ez.trans v.2.2))⟩
  -- what a key is alone
  have t141 : (Ask R 1 → CNs ((x - ln p.length) % 12)) → (Ask R 2 → (p.length = 0 → PFc ((x - ln p.length) % 12)) ∧ (p.length + 1 = n → (x - ln p.length) % 12 = 0)) → (Ask R 128 → WHt (x % 12)) → ∀ v4 : Int, Tld (PFc ((x - ln p.length) % 12)) v4 → B_MD_goes_141 G s (p.length : Int) (x - ln p.length) ((x - ln p.length) % 12) v4 h (fun r h' => ∃ z : Int, r = some (av_I z) ∧ hb s h' ∧ h' = h ∧ Tld (fP R ln n x p) z) := fun a1 a2 a3 v4 tv => by
    unfold B_MD_goes_141
    refine con_mono (m_isRule hb0 H) ?_
    rintro r h2 ⟨z, rfl, hb2, rfl, zz⟩
    refine ⟨z, rfl, hb2, fun w => t157 ⟨a1, a2, a3, fun a => absurd a (Tld_0 zz w)⟩ v4 tv, fun w => ⟨fun w2 => t157 ⟨a1, a2, a3, fun _ => w2⟩ v4 tv, fun w2 => no (fun v => w2 ((fA_of v).2.2.2 (Tld_1 zz w)))⟩⟩
  have t112 : (Ask R 1 → CNs ((x - ln p.length) % 12)) → (Ask R 2 → (p.length = 0 → PFc ((x - ln p.length) % 12)) ∧ (p.length + 1 = n → (x - ln p.length) % 12 = 0)) → ∀ v4 : Int, Tld (PFc ((x - ln p.length) % 12)) v4 → B_MD_goes_112 G s (p.length : Int) (x - ln p.length) ((x - ln p.length) % 12) v4 h (fun r h' => ∃ z : Int, r = some (av_I z) ∧ hb s h' ∧ h' = h ∧ Tld (fP R ln n x p) z) := fun a1 a2 v4 tv => by
    unfold B_MD_goes_112
    refine con_mono (m_isRule hb0 H) ?_
    rintro r h2 ⟨z, rfl, hb2, rfl, zz⟩
    refine ⟨z, rfl, hb2, fun w => t141 a1 a2 (fun a => absurd a (Tld_0 zz w)) v4 tv, fun w => ⟨by omega, fun x5 e5 _ _ => ?_⟩⟩
    rw [tn_c] at e5
    have ex : x5 = x := e5.trans hx
    rw [ex]
    refine con_mono (m_modulo hb2) ?_
    rintro r h3 ⟨z9, rfl, hb3, rfl, ez⟩
    refine ⟨z9, rfl, hb3, ?_⟩
    rw [ez]
    refine con_mono (m_isWhite hb3) ?_
    rintro r h4 ⟨z12, rfl, hb4, rfl, zz2⟩
    exact ⟨z12, rfl, hb4, fun w2 => no (fun v => Tld_0 zz2 w2 ((fA_of v).2.2.1 (Tld_1 zz w))), fun w2 => t141 a1 a2 (fun _ => Tld_1 zz2 w2) v4 tv⟩
  have t96 : Ask R 2 → (Ask R 1 → CNs ((x - ln p.length) % 12)) → (p.length = 0 → PFc ((x - ln p.length) % 12)) → ∀ v4 : Int, Tld (PFc ((x - ln p.length) % 12)) v4 → B_MD_goes_96 G s (p.length : Int) (x - ln p.length) ((x - ln p.length) % 12) v4 h (fun r h' => ∃ z : Int, r = some (av_I z) ∧ hb s h' ∧ h' = h ∧ Tld (fP R ln n x p) z) := fun ak a1 a2 v4 tv => by
    unfold B_MD_goes_96 B_MD_goes_110
    intro x1 e1 _ _
    have ex := e1.trans H.1.2.2.1
    subst ex
    exact ⟨⟨by omega, by omega⟩, fun w => ⟨fun w2 => t112 a1 (fun _ => ⟨a2, fun _ => w2⟩) v4 tv, fun w2 => no (fun v => w2 (((fA_of v).2.1 ak).2 (by omega)))⟩, fun w => t112 a1 (fun _ => ⟨a2, fun w2 => by omega⟩) v4 tv⟩
  have t79 : (Ask R 1 → CNs ((x - ln p.length) % 12)) → ∀ v4 : Int, Tld (PFc ((x - ln p.length) % 12)) v4 → B_MD_goes_79 G s (p.length : Int) (x - ln p.length) ((x - ln p.length) % 12) v4 h (fun r h' => ∃ z : Int, r = some (av_I z) ∧ hb s h' ∧ h' = h ∧ Tld (fP R ln n x p) z) := fun a1 v4 tv => by
    unfold B_MD_goes_79 B_MD_goes_110
    refine con_mono (m_isRule hb0 H) ?_
    rintro r h2 ⟨z, rfl, hb2, rfl, zz⟩
    refine ⟨z, rfl, hb2, fun w => t112 a1 (fun a => absurd a (Tld_0 zz w)) v4 tv, fun w => ⟨fun w2 => ⟨fun w3 => no (fun v => Tld_0 tv w3 (((fA_of v).2.1 (Tld_1 zz w)).1 (by omega))), fun w3 => t96 (Tld_1 zz w) a1 (fun _ => Tld_1 tv w3) v4 tv⟩, fun w2 => t96 (Tld_1 zz w) a1 (fun w4 => by omega) v4 tv⟩⟩
  have t35 : ∀ v4 : Int, Tld (PFc ((x - ln p.length) % 12)) v4 → B_MD_goes_35 G s (p.length : Int) (x - ln p.length) ((x - ln p.length) % 12) v4 h (fun r h' => ∃ z : Int, r = some (av_I z) ∧ hb s h' ∧ h' = h ∧ Tld (fP R ln n x p) z) := fun v4 tv => by
    unfold B_MD_goes_35
    refine con_mono (m_isRule hb0 H) ?_
    rintro r h2 ⟨z, rfl, hb2, rfl, zz⟩
    refine ⟨z, rfl, hb2, fun w => t79 (fun a => absurd a (Tld_0 zz w)) v4 tv, fun w => ?_⟩
    have ak := Tld_1 zz w
    refine ⟨fun c => t79 (fun _ => by unfold CNs; omega) v4 tv, fun c0 => ⟨fun c => t79 (fun _ => by unfold CNs; omega) v4 tv, fun c1 => ⟨fun c => t79 (fun _ => by unfold CNs; omega) v4 tv, fun c2 => ⟨fun c => t79 (fun _ => by unfold CNs; omega) v4 tv, fun c3 => ⟨fun c => t79 (fun _ => by unfold CNs; omega) v4 tv, fun c4 => ⟨fun c => t79 (fun _ => by unfold CNs; omega) v4 tv, fun c5 => no (fun v => ?_)⟩⟩⟩⟩⟩⟩
    have := (fA_of v).1 ak
    unfold CNs at this
    omega
  unfold B_MD_goes_0 B_MD_goes_30
  rw [tn_c]
  refine ⟨by omega, fun x2 e2 _ _ x5 e5 _ _ => ?_⟩
  have ex : x2 = x := e2.trans hx
  have ex2 : x5 = ln p.length := e5.trans (H.2 _ hi)
  rw [ex, ex2]
  refine ⟨⟨by omega, by omega⟩, ?_⟩
  refine con_mono (m_modulo hb0) ?_
  rintro r h3 ⟨z9, rfl, hb3, rfl, ez⟩
  refine ⟨z9, rfl, hb3, ?_⟩
  rw [ez]
  exact ⟨fun w => t35 1 (Or.inr ⟨rfl, Or.inl w⟩), fun w => ⟨fun w2 => t35 1 (Or.inr ⟨rfl, Or.inr w2⟩), fun w2 => t35 0 (Or.inl ⟨rfl, fun v => v.elim w w2⟩)⟩⟩
end
