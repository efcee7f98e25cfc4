/-! ===== the reference: the marks of brackets in its cells ===== -/
/-- the marks of the [ at p, one behind another -/
def mkn (π : pm_T) (p : Nat) : Nat → Nat
  | 0 => p
  | i + 1 => lk π (mkn π p i)
theorem mkn_c {π π' : pm_T} {p : Nat} : ∀ n, (∀ i, i < n → π' 14 (mkn π p i) = π 14 (mkn π p i)) → mkn π' p n = mkn π p n
  | 0, _ => rfl
  | n + 1, h => by
    have e := mkn_c n (fun i hi => h i (by omega))
    show lk π' (mkn π' p n) = lk π (mkn π p n)
    rw [e]; unfold lk; rw [h n (by omega)]
/-- the marks : of the [ at p, C of them -/
def MKc (π : pm_T) (h : ah_T) (ow : Nat → Nat) (p C : Nat) : Prop := h.2.1 214 p = (C : Int) ∧
  (∀ i, i < C → mkn π p i < mkn π p (i + 1) ∧ mkn π p (i + 1) < sz π ∧ π 1 (mkn π p (i + 1)) = 58 ∧ ow (mkn π p (i + 1)) = p) ∧
  (1 ≤ C → h.2.1 211 p = (mkn π p 1 : Int) ∧ h.2.1 213 p = (mkn π p C : Int)) ∧
  (∀ i, 1 ≤ i → i < C → h.2.1 212 (mkn π p i) = (mkn π p (i + 1) : Int))
theorem MKc_m {π : pm_T} {h : ah_T} {ow : Nat → Nat} {p C : Nat} (H : MKc π h ow p C) : ∀ j, j ≤ C → ∀ i, i < j → mkn π p i < mkn π p j
  | 0, _, i, hi => by omega
  | j + 1, hj, i, hi => by
    have a := (H.2.1 j (by omega)).1
    by_cases c : i = j
    · subst c; exact a
    · have := MKc_m H j (by omega) i (by omega); omega
def MKo (π : pm_T) (h : ah_T) (ow : Nat → Nat) (d : Nat) : Prop := π 1 (oo π d) = 91 → ∃ C, MKc π h ow (oo π d) C ∧ ll π d = mkn π (oo π d) C
def MKx (π : pm_T) (h : ah_T) (ow : Nat → Nat) (p : Nat) : Prop := ∃ C, MKc π h ow p C ∧ mkn π p C < mkn π p (C + 1) ∧ mkn π p (C + 1) < sz π ∧ π 1 (mkn π p (C + 1)) = 93 ∧ h.2.1 210 p = (mkn π p (C + 1) : Int)
def MKy (π : pm_T) (h : ah_T) (p : Nat) : Prop := p < lk π p ∧ lk π p < sz π ∧ π 1 (lk π p) = 125 ∧ h.2.1 210 (lk π p) = (p : Int)
def MKm (π : pm_T) (h : ah_T) : Prop := ∃ ow : Nat → Nat, (∀ d, d < dp π → MKo π h ow d) ∧ ∀ p, p < sz π → (π 1 p = 91 → (∃ d, d < dp π ∧ oo π d = p) ∨ MKx π h ow p) ∧ (π 1 p = 123 → (∃ d, d < dp π ∧ oo π d = p) ∨ MKy π h p)
/-- a chain, where what changes stands elsewhere -/
theorem MKc_c {π π' : pm_T} {h h' : ah_T} {ow ow' : Nat → Nat} {p C : Nat} (H : MKc π h ow p C) (h0 : p < sz π) (hz : sz π ≤ sz π') (e14 : ∀ i, i < C → π' 14 (mkn π p i) = π 14 (mkn π p i)) (e1 : ∀ j, j < sz π → π' 1 j = π 1 j) (eo : ∀ j, j < sz π → ow' j = ow j)
    (g : h'.2.1 214 p = h.2.1 214 p ∧ h'.2.1 211 p = h.2.1 211 p ∧ h'.2.1 213 p = h.2.1 213 p) (g2 : ∀ i, 1 ≤ i → i < C → h'.2.1 212 (mkn π p i) = h.2.1 212 (mkn π p i)) : MKc π' h' ow' p C := by
  obtain ⟨a1, a2, a3, a4⟩ := H
  have em : ∀ i, i ≤ C → mkn π' p i = mkn π p i := fun i hi => mkn_c i (fun k hk => e14 k (by omega))
  refine ⟨by rw [g.1]; exact a1, fun i hi => ?_, fun hC => ?_, fun i h1 h2 => ?_⟩
  · obtain ⟨b1, b2, b3, b4⟩ := a2 i hi
    rw [em i (by omega), em (i + 1) (by omega), e1 _ b2, eo _ b2]
    exact ⟨b1, by omega, b3, b4⟩
  · rw [em 1 hC, em C (Nat.le_refl _), g.2.1, g.2.2]; exact a3 hC
  · rw [em i (by omega), em (i + 1) (by omega), g2 i h1 h2]; exact a4 i h1 h2
theorem MKx_c {π π' : pm_T} {h h' : ah_T} {ow ow' : Nat → Nat} {p : Nat} (H : MKx π h ow p) (h0 : p < sz π) (hz : sz π ≤ sz π') (e14 : ∀ C i, MKc π h ow p C → i ≤ C → π' 14 (mkn π p i) = π 14 (mkn π p i)) (e1 : ∀ j, j < sz π → π' 1 j = π 1 j) (eo : ∀ j, j < sz π → ow' j = ow j)
    (g : h'.2.1 214 p = h.2.1 214 p ∧ h'.2.1 211 p = h.2.1 211 p ∧ h'.2.1 213 p = h.2.1 213 p ∧ h'.2.1 210 p = h.2.1 210 p) (g2 : ∀ C i, MKc π h ow p C → 1 ≤ i → i < C → h'.2.1 212 (mkn π p i) = h.2.1 212 (mkn π p i)) : MKx π' h' ow' p := by
  obtain ⟨C, H, b1, b2, b3, b4⟩ := H
  have em : ∀ i, i ≤ C + 1 → mkn π' p i = mkn π p i := fun i hi => mkn_c i (fun k hk => e14 C k H (by omega))
  refine ⟨C, MKc_c H h0 hz (fun i hi => e14 C i H (by omega)) e1 eo ⟨g.1, g.2.1, g.2.2.1⟩ (fun i => g2 C i H), ?_⟩
  rw [em C (by omega), em (C + 1) (by omega), e1 _ b2, g.2.2.2]
  exact ⟨b1, by omega, b3, b4⟩
/-- parts that are no brackets come behind, or a bracket opens -/
theorem MKm_add {π π' : pm_T} {h h' : ah_T} (H : MKm π h) (W : WBp π) (hz : sz π' = sz π + 1) (e : ∀ a j, (a = 1 ∨ a = 14) → j < sz π → π' a j = π a j) (g : ∀ a j, 210 ≤ a → a ≤ 214 → j < sz π → h'.2.1 a j = h.2.1 a j)
    (hd : dp π ≤ dp π') (e15 : ∀ d, d < dp π → π' 15 d = π 15 d ∧ π' 16 d = π 16 d)
    (hn : (dp π' = dp π ∧ π' 1 (sz π) ≠ 91 ∧ π' 1 (sz π) ≠ 123) ∨ (dp π' = dp π + 1 ∧ oo π' (dp π) = sz π ∧ ll π' (dp π) = sz π ∧ (π' 1 (sz π) = 91 → h'.2.1 214 (sz π) = 0))) : MKm π' h' := by
  obtain ⟨ow, H1, H2⟩ := H
  have eo : ∀ d, d < dp π → oo π' d = oo π d ∧ ll π' d = ll π d := fun d q => by unfold oo ll; rw [(e15 d q).1, (e15 d q).2]; exact ⟨rfl, rfl⟩
  have inz : ∀ (p C i : Nat), p < sz π → MKc π h ow p C → i ≤ C → mkn π p i < sz π := by
    intro p C i hp Hc hi
    cases i with
    | zero => exact hp
    | succ i => exact (Hc.2.1 i (by omega)).2.1
  refine ⟨ow, fun d hd' => ?_, fun p hp => ⟨fun k => ?_, fun k => ?_⟩⟩
  · by_cases c : d < dp π
    · intro k
      have hw := (W.1 d c).1
      rw [(eo d c).1] at k ⊢
      rw [(eo d c).2]
      rw [e 1 _ (Or.inl rfl) (by omega)] at k
      obtain ⟨C, Hc, hl⟩ := H1 d c k
      have hoz : oo π d < sz π := by omega
      refine ⟨C, MKc_c Hc hoz (by omega) (fun i hi => e 14 _ (Or.inr rfl) (inz _ C i hoz Hc (by omega))) (fun j hj => e 1 _ (Or.inl rfl) hj) (fun _ _ => rfl) ⟨g _ _ (by decide) (by decide) hoz, g _ _ (by decide) (by decide) hoz, g _ _ (by decide) (by decide) hoz⟩ (fun i _ h2 => g _ _ (by decide) (by decide) (inz _ C i hoz Hc (by omega))), ?_⟩
      rw [hl]
      exact (mkn_c C (fun i hi => e 14 _ (Or.inr rfl) (inz _ C i hoz Hc (by omega)))).symm
    · rcases hn with ⟨q, -, -⟩ | ⟨q1, q2, q3, q4⟩
      · omega
      · have : d = dp π := by omega
        subst this
        intro k
        rw [q2] at k ⊢
        rw [q3]
        exact ⟨0, ⟨q4 k, fun i hi => by omega, fun hC => by omega, fun i h1 h2 => by omega⟩, rfl⟩
  · by_cases c : p < sz π
    · rw [e 1 _ (Or.inl rfl) c] at k
      rcases (H2 p c).1 k with ⟨d, q1, q2⟩ | q
      · exact Or.inl ⟨d, by omega, by rw [(eo d q1).1]; exact q2⟩
      · exact Or.inr (MKx_c q c (by omega) (fun C i Hc hi => e 14 _ (Or.inr rfl) (inz p C i c Hc hi)) (fun j hj => e 1 _ (Or.inl rfl) hj) (fun _ _ => rfl) ⟨g _ _ (by decide) (by decide) c, g _ _ (by decide) (by decide) c, g _ _ (by decide) (by decide) c, g _ _ (by decide) (by decide) c⟩ (fun C i Hc _ h2 => g _ _ (by decide) (by decide) (inz p C i c Hc (by omega))))
    · have : p = sz π := by omega
      subst this
      rcases hn with ⟨-, q, -⟩ | ⟨q1, q2, -, -⟩
      · exact absurd k q
      · exact Or.inl ⟨dp π, by omega, q2⟩
  · by_cases c : p < sz π
    · rw [e 1 _ (Or.inl rfl) c] at k
      rcases (H2 p c).2 k with ⟨d, q1, q2⟩ | ⟨r1, r2, r3, r4⟩
      · exact Or.inl ⟨d, by omega, by rw [(eo d q1).1]; exact q2⟩
      · have el : lk π' p = lk π p := by unfold lk; rw [e 14 _ (Or.inr rfl) c]
        right
        unfold MKy
        rw [el, e 1 _ (Or.inl rfl) r2, g _ _ (by decide) (by decide) r2]
        exact ⟨r1, by omega, r3, r4⟩
    · have : p = sz π := by omega
      subst this
      rcases hn with ⟨-, -, q⟩ | ⟨q1, q2, -, -⟩
      · exact absurd k q
      · exact Or.inl ⟨dp π, by omega, q2⟩
theorem MKm_h {π : pm_T} {h h' : ah_T} (H : MKm π h) (W : WBp π) (g : ∀ a j, 210 ≤ a → a ≤ 214 → j < sz π → h'.2.1 a j = h.2.1 a j) : MKm π h' := by
  obtain ⟨ow, H1, H2⟩ := H
  have inz : ∀ (p C i : Nat), p < sz π → MKc π h ow p C → i ≤ C → mkn π p i < sz π := by
    intro p C i hp Hc hi
    cases i with
    | zero => exact hp
    | succ i => exact (Hc.2.1 i (by omega)).2.1
  refine ⟨ow, fun d hd' k => ?_, fun p hp => ⟨fun k => ?_, fun k => ?_⟩⟩
  · have hw := (W.1 d hd').1
    have hoz : oo π d < sz π := by omega
    obtain ⟨C, Hc, hl⟩ := H1 d hd' k
    exact ⟨C, MKc_c Hc hoz (Nat.le_refl _) (fun _ _ => rfl) (fun _ _ => rfl) (fun _ _ => rfl) ⟨g _ _ (by decide) (by decide) hoz, g _ _ (by decide) (by decide) hoz, g _ _ (by decide) (by decide) hoz⟩ (fun i _ h2 => g _ _ (by decide) (by decide) (inz _ C i hoz Hc (by omega))), hl⟩
  · rcases (H2 p hp).1 k with q | q
    · exact Or.inl q
    · exact Or.inr (MKx_c q hp (Nat.le_refl _) (fun _ _ _ _ => rfl) (fun _ _ => rfl) (fun _ _ => rfl) ⟨g _ _ (by decide) (by decide) hp, g _ _ (by decide) (by decide) hp, g _ _ (by decide) (by decide) hp, g _ _ (by decide) (by decide) hp⟩ (fun C i Hc _ h2 => g _ _ (by decide) (by decide) (inz p C i hp Hc (by omega))))
  · rcases (H2 p hp).2 k with q | ⟨r1, r2, r3, r4⟩
    · exact Or.inl q
    · exact Or.inr ⟨r1, r2, r3, by rw [g _ _ (by decide) (by decide) r2]; exact r4⟩
/-- the innermost bracket's last mark is no mark of another -/
theorem MK_apart {π : pm_T} {h : ah_T} {ow : Nat → Nat} {p C q Cq i : Nat} (Hp : MKc π h ow p C) (Hq : MKc π h ow q Cq) (hpq : q ≠ p) (kq : π 1 q = 91) (kp : π 1 p = 91) (hi : i ≤ Cq) : mkn π q i ≠ mkn π p C := by
  intro w
  cases i with
  | zero =>
    have w' : q = mkn π p C := w
    cases C with
    | zero => exact hpq w'
    | succ c => have := (Hp.2.1 c (by omega)).2.2.1; rw [← w', kq] at this; cases this
  | succ k =>
    obtain ⟨-, -, b3, b4⟩ := Hq.2.1 k (by omega)
    cases C with
    | zero =>
      have w' : mkn π q (k + 1) = p := w
      rw [w', kp] at b3; cases b3
    | succ c =>
      have := (Hp.2.1 c (by omega)).2.2.2
      rw [w] at b4; exact hpq (b4.symm.trans this)
theorem oo_lt {π : pm_T} {D : Nat} (H : ∀ d, d < D + 1 → WBd π d) {d : Nat} (hd : d < D) : oo π d < oo π D ∧ ll π d < oo π D := by
  obtain ⟨k, rfl⟩ : ∃ k, D = k + 1 := ⟨D - 1, by omega⟩
  have m := ll_mono (k + 1) (fun e he => H e (by omega)) d hd
  simp only [Nat.add_sub_cancel] at m
  have h1 := (H d (by omega)).1
  have h2 := (H (k + 1) (by omega)).2.1
  have : ll π k + 1 ≤ oo π (k + 1) := h2
  omega
/-- a mark : -/
theorem MKm_col {π π' : pm_T} {h h' : ah_T} {D : Nat} (H : MKm π h) (W : WBp π) (eD : dp π = D + 1) (hz : sz π' = sz π + 1) (ed : dp π' = dp π) (e1 : ∀ j, j < sz π → π' 1 j = π 1 j) (e14 : ∀ j, j < sz π → j ≠ ll π D → π' 14 j = π 14 j) (hl : lk π' (ll π D) = sz π) (h15 : ∀ d, d < dp π → π' 15 d = π 15 d) (h16 : ∀ d, d < D → π' 16 d = π 16 d) (hn : ll π' D = sz π) (hk : π' 1 (sz π) = 58) (ho : π 1 (oo π D) = 91)
    (g0 : ∀ j, j < sz π → h'.2.1 210 j = h.2.1 210 j) (g1 : h'.2.1 214 (oo π D) = h.2.1 214 (oo π D) + 1 ∧ h'.2.1 213 (oo π D) = (sz π : Int)) (g2 : h.2.1 214 (oo π D) = 0 → h'.2.1 211 (oo π D) = (sz π : Int) ∧ ∀ j, h'.2.1 212 j = h.2.1 212 j)
    (g3 : h.2.1 214 (oo π D) ≠ 0 → h'.2.1 211 (oo π D) = h.2.1 211 (oo π D) ∧ h'.2.1 212 (h.2.1 213 (oo π D)).toNat = (sz π : Int) ∧ ∀ j, j ≠ (h.2.1 213 (oo π D)).toNat → h'.2.1 212 j = h.2.1 212 j) (g4 : ∀ a j, 211 ≤ a → a ≤ 214 → a ≠ 212 → j ≠ oo π D → h'.2.1 a j = h.2.1 a j) : MKm π' h' := by
  obtain ⟨ow, H1, H2⟩ := H
  have W1 := W.1
  rw [eD] at W1
  have WD := (W1 D (by omega)).1
  obtain ⟨C0, Hp, hC⟩ := H1 D (by omega) ho
  have eo : ∀ d, d < dp π → oo π' d = oo π d := fun d q => by unfold oo; rw [h15 d q]
  have hne : ∀ d, d < D → oo π d ≠ oo π D := fun d hd => by have := oo_lt W1 hd; omega
  generalize ep : oo π D = p at *
  have hpz : p < sz π := by omega
  have inz : ∀ (q C i : Nat), q < sz π → MKc π h ow q C → i ≤ C → mkn π q i < sz π := by
    intro q C i hp Hc hi
    cases i with
    | zero => exact hp
    | succ i => exact (Hc.2.1 i (by omega)).2.1
  -- other chains
  have oth : ∀ (q C : Nat), q < sz π → q ≠ p → π 1 q = 91 → MKc π h ow q C → ∀ i, i ≤ C → π' 14 (mkn π q i) = π 14 (mkn π q i) := by
    intro q C hq hqp kq Hq i hi
    exact e14 _ (inz q C i hq Hq hi) (by rw [hC]; exact MK_apart Hp Hq hqp kq ho hi)
  have oth2 : ∀ (q C : Nat), q < sz π → q ≠ p → π 1 q = 91 → MKc π h ow q C → ∀ i, i ≤ C → h'.2.1 212 (mkn π q i) = h.2.1 212 (mkn π q i) := by
    intro q C hq hqp kq Hq i hi
    by_cases c : h.2.1 214 p = 0
    · exact (g2 c).2 _
    · refine (g3 c).2.2 _ ?_
      have hC1 : 1 ≤ C0 := by have := Hp.1; omega
      rw [(Hp.2.2.1 hC1).2]
      exact MK_apart Hp Hq hqp kq ho hi
  refine ⟨fun j => if j = sz π then p else ow j, fun d hd k => ?_, fun q hq => ⟨fun k => ?_, fun k => ?_⟩⟩
  · rw [ed] at hd
    rw [eo d hd] at k ⊢
    by_cases c : d = D
    · subst c
      rw [hn]
      rw [ep]
      have em : ∀ i, i ≤ C0 → mkn π' p i = mkn π p i := fun i hi => mkn_c i (fun k hk => e14 _ (inz p C0 k hpz Hp (by omega)) (by rw [hC]; have := MKc_m Hp C0 (Nat.le_refl _) k (by omega); omega))
      have el : mkn π' p (C0 + 1) = sz π := by show lk π' (mkn π' p C0) = _; rw [em C0 (Nat.le_refl _), ← hC]; exact hl
      refine ⟨C0 + 1, ⟨by rw [g1.1, Hp.1]; rfl, fun i hi => ?_, fun _ => ⟨?_, by rw [el, g1.2]⟩, fun i h1 h2 => ?_⟩, el.symm⟩
      · by_cases c : i = C0
        · subst c
          rw [el, em i (Nat.le_refl _), ← hC]
          exact ⟨by omega, by omega, hk, if_pos rfl⟩
        · obtain ⟨b1, b2, b3, b4⟩ := Hp.2.1 i (by omega)
          rw [em i (by omega), em (i + 1) (by omega), e1 _ b2]
          exact ⟨b1, by omega, b3, (if_neg (by omega)).trans b4⟩
      · by_cases c : C0 = 0
        · subst c; rw [el, (g2 Hp.1).1]
        · rw [em 1 (by omega), (g3 (by have := Hp.1; omega)).1]; exact (Hp.2.2.1 (by omega)).1
      · by_cases c : i = C0
        · subst c
          have hC1 := (Hp.2.2.1 h1).2
          have := (g3 (by have := Hp.1; omega)).2.1
          rw [hC1] at this
          rw [el, em i (Nat.le_refl _)]; exact this
        · have hC1 := (Hp.2.2.1 (by omega)).2
          have h3 := MKc_m Hp C0 (Nat.le_refl _) i (by omega)
          rw [em i (by omega), em (i + 1) (by omega), (g3 (by have := Hp.1; omega)).2.2 _ (by rw [hC1]; rw [tn_c]; omega)]
          exact Hp.2.2.2 i h1 (by omega)
    · have hd' : d < D := by omega
      have hw := (W1 d (by omega)).1
      have hoz : oo π d < sz π := by omega
      rw [e1 _ hoz] at k
      obtain ⟨C, Hc, hl'⟩ := H1 d (by omega) k
      have ell : ll π' d = ll π d := by unfold ll; rw [h16 d hd']
      refine ⟨C, MKc_c Hc hoz (by omega) (fun i hi => oth _ C hoz (hne d hd') k Hc i (by omega)) e1 (fun j hj => if_neg (by omega)) ⟨g4 _ _ (by decide) (by decide) (by decide) (hne d hd'), g4 _ _ (by decide) (by decide) (by decide) (hne d hd'), g4 _ _ (by decide) (by decide) (by decide) (hne d hd')⟩ (fun i _ h2 => oth2 _ C hoz (hne d hd') k Hc i (by omega)), ?_⟩
      rw [ell, hl']
      exact (mkn_c C (fun i hi => oth _ C hoz (hne d hd') k Hc i (by omega))).symm
  · by_cases c : q < sz π
    · rw [e1 _ c] at k
      by_cases cp : q = p
      · subst cp; exact Or.inl ⟨D, by omega, by rw [eo D (by omega), ep]⟩
      · rcases (H2 q c).1 k with ⟨d, q1, q2⟩ | x
        · exact Or.inl ⟨d, by omega, by rw [eo d q1]; exact q2⟩
        · exact Or.inr (MKx_c x c (by omega) (fun C i Hc hi => oth q C c cp k Hc i hi) e1 (fun j hj => if_neg (by omega)) ⟨g4 _ _ (by decide) (by decide) (by decide) cp, g4 _ _ (by decide) (by decide) (by decide) cp, g4 _ _ (by decide) (by decide) (by decide) cp, g0 _ c⟩ (fun C i Hc _ h2 => oth2 q C c cp k Hc i (by omega)))
    · have : q = sz π := by omega
      subst this; rw [hk] at k; cases k
  · by_cases c : q < sz π
    · rw [e1 _ c] at k
      rcases (H2 q c).2 k with ⟨d, q1, q2⟩ | ⟨r1, r2, r3, r4⟩
      · exact Or.inl ⟨d, by omega, by rw [eo d q1]; exact q2⟩
      · have nl : q ≠ ll π D := by
          intro w
          rw [hC] at w
          cases C0 with
          | zero => have w' : q = p := w; rw [w', ho] at k; cases k
          | succ c0 => have := (Hp.2.1 c0 (by omega)).2.2.1; rw [← w, k] at this; cases this
        have el : lk π' q = lk π q := by unfold lk; rw [e14 q c nl]
        right
        unfold MKy
        rw [el, e1 _ r2, g0 _ r2]
        exact ⟨r1, by omega, r3, r4⟩
    · have : q = sz π := by omega
      subst this; rw [hk] at k; cases k
/-- the innermost bracket ends -/
theorem MKm_end {π π' : pm_T} {h h' : ah_T} {D : Nat} (H : MKm π h) (W : WBp π) (eD : dp π = D + 1) (hz : sz π' = sz π + 1) (ed : dp π' = D) (e1 : ∀ j, j < sz π → π' 1 j = π 1 j) (e14 : ∀ j, j < sz π → j ≠ ll π D → π' 14 j = π 14 j) (hl : lk π' (ll π D) = sz π) (h15 : ∀ d, d < dp π → π' 15 d = π 15 d) (h16 : ∀ d, d < D → π' 16 d = π 16 d) (hk : (π' 1 (sz π) = 93 ∧ π 1 (oo π D) = 91) ∨ (π' 1 (sz π) = 125 ∧ π 1 (oo π D) = 123))
    (g0 : h'.2.1 210 (sz π) = (oo π D : Int) ∧ h'.2.1 210 (oo π D) = (sz π : Int)) (g1 : ∀ j, j ≠ sz π → j ≠ oo π D → h'.2.1 210 j = h.2.1 210 j) (g2 : ∀ a j, 211 ≤ a → a ≤ 214 → h'.2.1 a j = h.2.1 a j) : MKm π' h' := by
  obtain ⟨ow, H1, H2⟩ := H
  have W1 := W.1
  rw [eD] at W1
  have WD := (W1 D (by omega)).1
  have WD4 := (W1 D (by omega)).2.2.2
  have HD := H1 D (by omega)
  have eo : ∀ d, d < dp π → oo π' d = oo π d := fun d q => by unfold oo; rw [h15 d q]
  have hne : ∀ d, d < D → oo π d ≠ oo π D := fun d hd => by have := oo_lt W1 hd; omega
  unfold MKo at HD
  generalize ep : oo π D = p at *
  have hpz : p < sz π := by omega
  have inz : ∀ (q C i : Nat), q < sz π → MKc π h ow q C → i ≤ C → mkn π q i < sz π := by
    intro q C i hp Hc hi
    cases i with
    | zero => exact hp
    | succ i => exact (Hc.2.1 i (by omega)).2.1
  have oth : ∀ (q C : Nat), q < sz π → q ≠ p → π 1 q = 91 → MKc π h ow q C → ∀ i, i ≤ C → π' 14 (mkn π q i) = π 14 (mkn π q i) := by
    intro q C hq hqp kq Hq i hi
    refine e14 _ (inz q C i hq Hq hi) (fun w => ?_)
    rcases hk with ⟨-, k2⟩ | ⟨-, k2⟩
    · obtain ⟨C0, Hp, hC⟩ := HD k2
      rw [hC] at w
      exact MK_apart Hp Hq hqp kq k2 hi w
    · rcases WD4 with ⟨b, -⟩ | ⟨-, b⟩
      · rw [k2] at b; cases b
      · rw [b] at w
        cases i with
        | zero => exact hqp w
        | succ k => have := (Hq.2.1 k (by omega)).2.2.1; rw [w, k2] at this; cases this
  refine ⟨ow, fun d hd k => ?_, fun q hq => ⟨fun k => ?_, fun k => ?_⟩⟩
  · rw [ed] at hd
    rw [eo d (by omega)] at k ⊢
    have hw := (W1 d (by omega)).1
    have hoz : oo π d < sz π := by omega
    rw [e1 _ hoz] at k
    obtain ⟨C, Hc, hl'⟩ := H1 d (by omega) k
    have ell : ll π' d = ll π d := by unfold ll; rw [h16 d hd]
    refine ⟨C, MKc_c Hc hoz (by omega) (fun i hi => oth _ C hoz (hne d hd) k Hc i (by omega)) e1 (fun _ _ => rfl) ⟨g2 _ _ (by decide) (by decide), g2 _ _ (by decide) (by decide), g2 _ _ (by decide) (by decide)⟩ (fun i _ h2 => g2 _ _ (by decide) (by decide)), ?_⟩
    rw [ell, hl']
    exact (mkn_c C (fun i hi => oth _ C hoz (hne d hd) k Hc i (by omega))).symm
  · by_cases c : q < sz π
    · rw [e1 _ c] at k
      by_cases cp : q = p
      · subst cp
        rcases hk with ⟨k1, k2⟩ | ⟨-, k2⟩
        · obtain ⟨C0, Hp, hC⟩ := HD k2
          right
          have em : ∀ i, i ≤ C0 → mkn π' q i = mkn π q i := fun i hi => mkn_c i (fun k hk => e14 _ (inz q C0 k c Hp (by omega)) (by rw [hC]; have := MKc_m Hp C0 (Nat.le_refl _) k (by omega); omega))
          have el : mkn π' q (C0 + 1) = sz π := by show lk π' (mkn π' q C0) = _; rw [em C0 (Nat.le_refl _), ← hC]; exact hl
          refine ⟨C0, MKc_c Hp c (by omega) (fun i hi => e14 _ (inz q C0 i c Hp (by omega)) (by rw [hC]; have := MKc_m Hp C0 (Nat.le_refl _) i hi; omega)) e1 (fun _ _ => rfl) ⟨g2 _ _ (by decide) (by decide), g2 _ _ (by decide) (by decide), g2 _ _ (by decide) (by decide)⟩ (fun i _ h2 => g2 _ _ (by decide) (by decide)), ?_⟩
          rw [em C0 (Nat.le_refl _), el, ← hC, g0.2]
          exact ⟨by omega, by omega, k1, rfl⟩
        · rw [k2] at k; cases k
      · rcases (H2 q c).1 k with ⟨d, q1, q2⟩ | x
        · refine Or.inl ⟨d, ?_, by rw [eo d q1]; exact q2⟩
          rcases Nat.lt_or_ge d D with w | w
          · omega
          · have : d = D := by omega
            subst this; rw [ep] at q2; exact absurd q2.symm cp
        · exact Or.inr (MKx_c x c (by omega) (fun C i Hc hi => oth q C c cp k Hc i hi) e1 (fun _ _ => rfl) ⟨g2 _ _ (by decide) (by decide), g2 _ _ (by decide) (by decide), g2 _ _ (by decide) (by decide), g1 _ (by omega) cp⟩ (fun C i Hc _ h2 => g2 _ _ (by decide) (by decide)))
    · have : q = sz π := by omega
      subst this
      rcases hk with ⟨k1, -⟩ | ⟨k1, -⟩ <;> (rw [k1] at k; cases k)
  · by_cases c : q < sz π
    · rw [e1 _ c] at k
      by_cases cp : q = p
      · subst cp
        rcases hk with ⟨k1, k2⟩ | ⟨k1, k2⟩
        · rw [k2] at k; cases k
        · rcases WD4 with ⟨b, -⟩ | ⟨-, b⟩
          · rw [k2] at b; cases b
          · rw [b] at hl
            right
            unfold MKy
            rw [hl, g0.1]
            exact ⟨by omega, by omega, k1, rfl⟩
      · rcases (H2 q c).2 k with ⟨d, q1, q2⟩ | ⟨r1, r2, r3, r4⟩
        · refine Or.inl ⟨d, ?_, by rw [eo d q1]; exact q2⟩
          rcases Nat.lt_or_ge d D with w | w
          · omega
          · have : d = D := by omega
            subst this; rw [ep] at q2; exact absurd q2.symm cp
        · have nl : q ≠ ll π D := by
            intro w
            rcases hk with ⟨-, k2⟩ | ⟨-, k2⟩
            · obtain ⟨C0, Hp, hC⟩ := HD k2
              rw [hC] at w
              cases C0 with
              | zero => exact cp w
              | succ c0 => have := (Hp.2.1 c0 (by omega)).2.2.1; rw [← w, k] at this; cases this
            · rcases WD4 with ⟨b, -⟩ | ⟨-, b⟩
              · rw [k2] at b; cases b
              · rw [b] at w; exact cp w
          have el : lk π' q = lk π q := by unfold lk; rw [e14 q c nl]
          have np : lk π q ≠ p := by
            intro w
            rw [w] at r3
            rcases hk with ⟨-, k2⟩ | ⟨-, k2⟩ <;> (rw [k2] at r3; cases r3)
          right
          unfold MKy
          rw [el, e1 _ r2, g1 _ (by omega) np]
          exact ⟨r1, by omega, r3, r4⟩
    · have : q = sz π := by omega
      subst this
      rcases hk with ⟨k1, -⟩ | ⟨k1, -⟩ <;> (rw [k1] at k; cases k)
theorem MKm_0 {h : ah_T} : MKm par0 h := ⟨fun _ => 0, fun d hd => absurd hd (Nat.not_lt_zero d), fun p hp => absurd hp (Nat.not_lt_zero p)⟩
