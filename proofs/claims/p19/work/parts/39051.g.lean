/-! ===== the reference: the marks of brackets in its cells ===== -/
/-- the marks of the [ at p, one behind another -/
def mkn (π : pm_T) (p : Nat) : Nat → Nat
  | 0 => p
  | i + 1 => lk π (mkn π p i)
theorem mkn_c {π π' : pm_T} {p : Nat} : ∀ n, (∀ i, i < n → π' 14 (mkn π p i) = π 14 (mkn π p i)) → mkn π' p n = mkn π p n
  | 0, _ => rfl
  | n + 1, h => by
    have e := mkn_c n (fun i hi => h i (by omega))
    show lk π' (mkn π' p n) = lk π (mkn π p n)
    rw [e]; unfold lk; rw [h n (by omega)]
/-- the marks : of the [ at p, C of them -/
def MKc (π : pm_T) (h : ah_T) (ow : Nat → Nat) (p C : Nat) : Prop := h.2.1 214 p = (C : Int) ∧
  (∀ i, i < C → mkn π p i < mkn π p (i + 1) ∧ mkn π p (i + 1) < sz π ∧ π 1 (mkn π p (i + 1)) = 58 ∧ ow (mkn π p (i + 1)) = p) ∧
  (1 ≤ C → h.2.1 211 p = (mkn π p 1 : Int) ∧ h.2.1 213 p = (mkn π p C : Int)) ∧
  (∀ i, 1 ≤ i → i < C → h.2.1 212 (mkn π p i) = (mkn π p (i + 1) : Int))
theorem MKc_m {π : pm_T} {h : ah_T} {ow : Nat → Nat} {p C : Nat} (H : MKc π h ow p C) : ∀ j, j ≤ C → ∀ i, i < j → mkn π p i < mkn π p j
  | 0, _, i, hi => by omega
  | j + 1, hj, i, hi => by
    have a := (H.2.1 j (by omega)).1
    by_cases c : i = j
    · subst c; exact a
    · have := MKc_m H j (by omega) i (by omega); omega
def MKo (π : pm_T) (h : ah_T) (ow : Nat → Nat) (d : Nat) : Prop := π 1 (oo π d) = 91 → ∃ C, MKc π h ow (oo π d) C ∧ ll π d = mkn π (oo π d) C
def MKx (π : pm_T) (h : ah_T) (ow : Nat → Nat) (p : Nat) : Prop := ∃ C, MKc π h ow p C ∧ mkn π p C < mkn π p (C + 1) ∧ mkn π p (C + 1) < sz π ∧ π 1 (mkn π p (C + 1)) = 93 ∧ h.2.1 210 p = (mkn π p (C + 1) : Int)
def MKy (π : pm_T) (h : ah_T) (p : Nat) : Prop := p < lk π p ∧ lk π p < sz π ∧ π 1 (lk π p) = 125 ∧ h.2.1 210 (lk π p) = (p : Int)
def MKm (π : pm_T) (h : ah_T) : Prop := ∃ ow : Nat → Nat, (∀ d, d < dp π → MKo π h ow d) ∧ ∀ p, p < sz π → (π 1 p = 91 → (∃ d, d < dp π ∧ oo π d = p) ∨ MKx π h ow p) ∧ (π 1 p = 123 → (∃ d, d < dp π ∧ oo π d = p) ∨ MKy π h p)
/-- a chain, where what changes stands elsewhere -/
theorem MKc_c {π π' : pm_T} {h h' : ah_T} {ow ow' : Nat → Nat} {p C : Nat} (H : MKc π h ow p C) (h0 : p < sz π) (hz : sz π ≤ sz π') (e14 : ∀ i, i < C → π' 14 (mkn π p i) = π 14 (mkn π p i)) (e1 : ∀ j, j < sz π → π' 1 j = π 1 j) (eo : ∀ j, j < sz π → ow' j = ow j)
    (g : h'.2.1 214 p = h.2.1 214 p ∧ h'.2.1 211 p = h.2.1 211 p ∧ h'.2.1 213 p = h.2.1 213 p) (g2 : ∀ i, 1 ≤ i → i < C → h'.2.1 212 (mkn π p i) = h.2.1 212 (mkn π p i)) : MKc π' h' ow' p C := by
  obtain ⟨a1, a2, a3, a4⟩ := H
  have em : ∀ i, i ≤ C → mkn π' p i = mkn π p i := fun i hi => mkn_c i (fun k hk => e14 k (by omega))
  refine ⟨by rw [g.1]; exact a1, fun i hi => ?_, fun hC => ?_, fun i h1 h2 => ?_⟩
  · obtain ⟨b1, b2, b3, b4⟩ := a2 i hi
    rw [em i (by omega), em (i + 1) (by omega), e1 _ b2, eo _ b2]
    exact ⟨b1, by omega, b3, b4⟩
  · rw [em 1 hC, em C (Nat.le_refl _), g.2.1, g.2.2]; exact a3 hC
  · rw [em i (by omega), em (i + 1) (by omega), g2 i h1 h2]; exact a4 i h1 h2
theorem MKx_c {π π' : pm_T} {h h' : ah_T} {ow ow' : Nat → Nat} {p : Nat} (H : MKx π h ow p) (h0 : p < sz π) (hz : sz π ≤ sz π') (e14 : ∀ C i, MKc π h ow p C → i ≤ C → π' 14 (mkn π p i) = π 14 (mkn π p i)) (e1 : ∀ j, j < sz π → π' 1 j = π 1 j) (eo : ∀ j, j < sz π → ow' j = ow j)
    (g : h'.2.1 214 p = h.2.1 214 p ∧ h'.2.1 211 p = h.2.1 211 p ∧ h'.2.1 213 p = h.2.1 213 p ∧ h'.2.1 210 p = h.2.1 210 p) (g2 : ∀ C i, MKc π h ow p C → 1 ≤ i → i < C → h'.2.1 212 (mkn π p i) = h.2.1 212 (mkn π p i)) : MKx π' h' ow' p := by
  obtain ⟨C, H, b1, b2, b3, b4⟩ := H
  have em : ∀ i, i ≤ C + 1 → mkn π' p i = mkn π p i := fun i hi => mkn_c i (fun k hk => e14 C k H (by omega))
  refine ⟨C, MKc_c H h0 hz (fun i hi => e14 C i H (by omega)) e1 eo ⟨g.1, g.2.1, g.2.2.1⟩ (fun i => g2 C i H), ?_⟩
  rw [em C (by omega), em (C + 1) (by omega), e1 _ b2, g.2.2.2]
  exact ⟨b1, by omega, b3, b4⟩
/-- parts that are no brackets come behind, or a bracket opens -/
theorem MKm_add {π π' : pm_T} {h h' : ah_T} (H : MKm π h) (W : WBp π) (hz : sz π' = sz π + 1) (e : ∀ a j, (a = 1 ∨ a = 14) → j < sz π → π' a j = π a j) (g : ∀ a j, 210 ≤ a → a ≤ 214 → j < sz π → h'.2.1 a j = h.2.1 a j)
    (hd : dp π ≤ dp π') (e15 : ∀ d, d < dp π → π' 15 d = π 15 d ∧ π' 16 d = π 16 d)
    (hn : (dp π' = dp π ∧ π' 1 (sz π) ≠ 91 ∧ π' 1 (sz π) ≠ 123) ∨ (dp π' = dp π + 1 ∧ oo π' (dp π) = sz π ∧ ll π' (dp π) = sz π ∧ (π' 1 (sz π) = 91 → h'.2.1 214 (sz π) = 0))) : MKm π' h' := by
  obtain ⟨ow, H1, H2⟩ := H
  have eo : ∀ d, d < dp π → oo π' d = oo π d ∧ ll π' d = ll π d := fun d q => by unfold oo ll; rw [(e15 d q).1, (e15 d q).2]; exact ⟨rfl, rfl⟩
  have inz : ∀ (p C i : Nat), p < sz π → MKc π h ow p C → i ≤ C → mkn π p i < sz π := by
    intro p C i hp Hc hi
    cases i with
    | zero => exact hp
    | succ i => exact (Hc.2.1 i (by omega)).2.1
  refine ⟨ow, fun d hd' => ?_, fun p hp => ⟨fun k => ?_, fun k => ?_⟩⟩
  · by_cases c : d < dp π
    · intro k
      have hw := (W.1 d c).1
      rw [(eo d c).1] at k ⊢
      rw [(eo d c).2]
      rw [e 1 _ (Or.inl rfl) (by omega)] at k
      obtain ⟨C, Hc, hl⟩ := H1 d c k
      have hoz : oo π d < sz π := by omega
      refine ⟨C, MKc_c Hc hoz (by omega) (fun i hi => e 14 _ (Or.inr rfl) (inz _ C i hoz Hc (by omega))) (fun j hj => e 1 _ (Or.inl rfl) hj) (fun _ _ => rfl) ⟨g _ _ (by decide) (by decide) hoz, g _ _ (by decide) (by decide) hoz, g _ _ (by decide) (by decide) hoz⟩ (fun i _ h2 => g _ _ (by decide) (by decide) (inz _ C i hoz Hc (by omega))), ?_⟩
      rw [hl]
      exact (mkn_c C (fun i hi => e 14 _ (Or.inr rfl) (inz _ C i hoz Hc (by omega)))).symm
    · rcases hn with ⟨q, -, -⟩ | ⟨q1, q2, q3, q4⟩
      · omega
      · have : d = dp π := by omega
        subst this
        intro k
        rw [q2] at k ⊢
        rw [q3]
        exact ⟨0, ⟨q4 k, fun i hi => by omega, fun hC => by omega, fun i h1 h2 => by omega⟩, rfl⟩
  · by_cases c : p < sz π
    · rw [e 1 _ (Or.inl rfl) c] at k
      rcases (H2 p c).1 k with ⟨d, q1, q2⟩ | q
      · exact Or.inl ⟨d, by omega, by rw [(eo d q1).1]; exact q2⟩
      · exact Or.inr (MKx_c q c (by omega) (fun C i Hc hi => e 14 _ (Or.inr rfl) (inz p C i c Hc hi)) (fun j hj => e 1 _ (Or.inl rfl) hj) (fun _ _ => rfl) ⟨g _ _ (by decide) (by decide) c, g _ _ (by decide) (by decide) c, g _ _ (by decide) (by decide) c, g _ _ (by decide) (by decide) c⟩ (fun C i Hc _ h2 => g _ _ (by decide) (by decide) (inz p C i c Hc (by omega))))
    · have : p = sz π := by omega
      subst this
      rcases hn with ⟨-, q, -⟩ | ⟨q1, q2, -, -⟩
      · exact absurd k q
      · exact Or.inl ⟨dp π, by omega, q2⟩
  · by_cases c : p < sz π
    · rw [e 1 _ (Or.inl rfl) c] at k
      rcases (H2 p c).2 k with ⟨d, q1, q2⟩ | ⟨r1, r2, r3, r4⟩
      · exact Or.inl ⟨d, by omega, by rw [(eo d q1).1]; exact q2⟩
      · have el : lk π' p = lk π p := by unfold lk; rw [e 14 _ (Or.inr rfl) c]
        right
        unfold MKy
        rw [el, e 1 _ (Or.inl rfl) r2, g _ _ (by decide) (by decide) r2]
        exact ⟨r1, by omega, r3, r4⟩
    · have : p = sz π := by omega
      subst this
      rcases hn with ⟨-, -, q⟩ | ⟨q1, q2, -, -⟩
      · exact absurd k q
      · exact Or.inl ⟨dp π, by omega, q2⟩
theorem MKm_h {π : pm_T} {h h' : ah_T} (H : MKm π h) (W : WBp π) (g : ∀ a j, 210 ≤ a → a ≤ 214 → j < sz π → h'.2.1 a j = h.2.1 a j) : MKm π h' := by
  obtain ⟨ow, H1, H2⟩ := H
  have inz : ∀ (p C i : Nat), p < sz π → MKc π h ow p C → i ≤ C → mkn π p i < sz π := by
    intro p C i hp Hc hi
    cases i with
    | zero => exact hp
    | succ i => exact (Hc.2.1 i (by omega)).2.1
  refine ⟨ow, fun d hd' k => ?_, fun p hp => ⟨fun k => ?_, fun k => ?_⟩⟩
  · have hw := (W.1 d hd').1
    have hoz : oo π d < sz π := by omega
    obtain ⟨C, Hc, hl⟩ := H1 d hd' k
    exact ⟨C, MKc_c Hc hoz (Nat.le_refl _) (fun _ _ => rfl) (fun _ _ => rfl) (fun _ _ => rfl) ⟨g _ _ (by decide) (by decide) hoz, g _ _ (by decide) (by decide) hoz, g _ _ (by decide) (by decide) hoz⟩ (fun i _ h2 => g _ _ (by decide) (by decide) (inz _ C i hoz Hc (by omega))), hl⟩
  · rcases (H2 p hp).1 k with q | q
    · exact Or.inl q
    · exact Or.inr (MKx_c q hp (Nat.le_refl _) (fun _ _ _ _ => rfl) (fun _ _ => rfl) (fun _ _ => rfl) ⟨g _ _ (by decide) (by decide) hp, g _ _ (by decide) (by decide) hp, g _ _ (by decide) (by decide) hp, g _ _ (by decide) (by decide) hp⟩ (fun C i Hc _ h2 => g _ _ (by decide) (by decide) (inz p C i hp Hc (by omega))))
  · rcases (H2 p hp).2 k with q | ⟨r1, r2, r3, r4⟩
    · exact Or.inl q
    · exact Or.inr ⟨r1, r2, r3, by rw [g _ _ (by decide) (by decide) r2]; exact r4⟩
/-- the innermost bracket's last mark is no mark of another -/
theorem MK_apart {π : pm_T} {h : ah_T} {ow : Nat → Nat} {p C q Cq i : Nat} (Hp : MKc π h ow p C) (Hq : MKc π h ow q Cq) (hpq : q ≠ p) (kq : π 1 q = 91) (kp : π 1 p = 91) (hi : i ≤ Cq) : mkn π q i ≠ mkn π p C := by
  intro w
  cases i with
  | zero =>
    have w' : q = mkn π p C := w
    cases C with
    | zero => exact hpq w'
    | succ c => have := (Hp.2.1 c (by omega)).2.2.1; rw [← w', kq] at this; cases this
  | succ k =>
    obtain ⟨-, -, b3, b4⟩ := Hq.2.1 k (by omega)
    cases C with
    | zero =>
      have w' : mkn π q (k + 1) = p := w
      rw [w', kp] at b3; cases b3
    | succ c =>
      have := (Hp.2.1 c (by omega)).2.2.2
      rw [w] at b4; exact hpq (b4.symm.trans this)
theorem oo_lt {π : pm_T} {D : Nat} (H : ∀ d, d < D + 1 → WBd π d) {d : Nat} (hd : d < D) : oo π d < oo π D ∧ ll π d < oo π D := by
  obtain ⟨k, rfl⟩ : ∃ k, D = k + 1 := ⟨D - 1, by omega⟩
  have m := ll_mono (k + 1) (fun e he => H e (by omega)) d hd
  simp only [Nat.add_sub_cancel] at m
  have h1 := (H d (by omega)).1
  have h2 := (H (k + 1) (by omega)).2.1
  have : ll π k + 1 ≤ oo π (k + 1) := h2
  omega
/-- a mark : -/
theorem MKm_col {π π' : pm_T} {h h' : ah_T} {D : Nat} (H : MKm π h) (W : WBp π) (eD : dp π = D + 1) (hz : sz π' = sz π + 1) (ed : dp π' = dp π) (e1 : ∀ j, j < sz π → π' 1 j = π 1 j) (e14 : ∀ j, j < sz π → j ≠ ll π D → π' 14 j = π 14 j) (hl : lk π' (ll π D) = sz π) (h15 : ∀ d, d < dp π → π' 15 d = π 15 d) (h16 : ∀ d, d < D → π' 16 d = π 16 d) (hn : ll π' D = sz π) (hk : π' 1 (sz π) = 58) (ho : π 1 (oo π D) = 91)
    (g0 : ∀ j, j < sz π → h'.2.1 210 j = h.2.1 210 j) (g1 : h'.2.1 214 (oo π D) = h.2.1 214 (oo π D) + 1 ∧ h'.2.1 213 (oo π D) = (sz π : Int)) (g2 : h.2.1 214 (oo π D) = 0 → h'.2.1 211 (oo π D) = (sz π : Int) ∧ ∀ j, h'.2.1 212 j = h.2.1 212 j)
    (g3 : h.2.1 214 (oo π D) ≠ 0 → h'.2.1 211 (oo π D) = h.2.1 211 (oo π D) ∧ h'.2.1 212 (h.2.1 213 (oo π D)).toNat = (sz π : Int) ∧ ∀ j, j ≠ (h.2.1 213 (oo π D)).toNat → h'.2.1 212 j = h.2.1 212 j) (g4 : ∀ a j, 211 ≤ a → a ≤ 214 → a ≠ 212 → j ≠ oo π D → h'.2.1 a j = h.2.1 a j) : MKm π' h' := by
  obtain ⟨ow, H1, H2⟩ := H
  have W1 := W.1
  rw [eD] at W1
  have WD := (W1 D (by omega)).1
  obtain ⟨C0, Hp, hC⟩ := H1 D (by omega) ho
  have eo : ∀ d, d < dp π → oo π' d = oo π d := fun d q => by unfold oo; rw [h15 d q]
  have hne : ∀ d, d < D → oo π d ≠ oo π D := fun d hd => by have := oo_lt W1 hd; omega
  generalize ep : oo π D = p at *
  have hpz : p < sz π := by omega
  have inz : ∀ (q C i : Nat), q < sz π → MKc π h ow q C → i ≤ C → mkn π q i < sz π := by
    intro q C i hp Hc hi
    cases i with
    | zero => exact hp
    | succ i => exact (Hc.2.1 i (by omega)).2.1
  -- other chains
  have oth : ∀ (q C : Nat), q < sz π → q ≠ p → π 1 q = 91 → MKc π h ow q C → ∀ i, i ≤ C → π' 14 (mkn π q i) = π 14 (mkn π q i) := by
    intro q C hq hqp kq Hq i hi
    exact e14 _ (inz q C i hq Hq hi) (by rw [hC]; exact MK_apart Hp Hq hqp kq ho hi)
  have oth2 : ∀ (q C : Nat), q < sz π → q ≠ p → π 1 q = 91 → MKc π h ow q C → ∀ i, i ≤ C → h'.2.1 212 (mkn π q i) = h.2.1 212 (mkn π q i) := by
    intro q C hq hqp kq Hq i hi
    by_cases c : h.2.1 214 p = 0
    · exact (g2 c).2 _
    · refine (g3 c).2.2 _ ?_
      have hC1 : 1 ≤ C0 := by have := Hp.1; omega
      rw [(Hp.2.2.1 hC1).2]
      exact MK_apart Hp Hq hqp kq ho hi
  refine ⟨fun j => if j = sz π then p else ow j, fun d hd k => ?_, fun q hq => ⟨fun k => ?_, fun k => ?_⟩⟩
  · rw [ed] at hd
    rw [eo d hd] at k ⊢
    by_cases c : d = D
    · subst c
      rw [hn]
      rw [ep]
      have em : ∀ i, i ≤ C0 → mkn π' p i = mkn π p i := fun i hi => mkn_c i (fun k hk => e14 _ (inz p C0 k hpz Hp (by omega)) (by rw [hC]; have := MKc_m Hp C0 (Nat.le_refl _) k (by omega); omega))
      have el : mkn π' p (C0 + 1) = sz π := by show lk π' (mkn π' p C0) = _; rw [em C0 (Nat.le_refl _), ← hC]; exact hl
      refine ⟨C0 + 1, ⟨by rw [g1.1, Hp.1]; rfl, fun i hi => ?_, fun _ => ⟨?_, by rw [el, g1.2]⟩, fun i h1 h2 => ?_⟩, el.symm⟩
      · by_cases c : i = C0
        · subst c
          rw [el, em i (Nat.le_refl _), ← hC]
          exact ⟨by omega, by omega, hk, if_pos rfl⟩
        · obtain ⟨b1, b2, b3, b4⟩ := Hp.2.1 i (by omega)
          rw [em i (by omega), em (i + 1) (by omega), e1 _ b2]
          exact ⟨b1, by omega, b3, (if_neg (by omega)).trans b4⟩
      · by_cases c : C0 = 0
        · subst c; rw [el, (g2 Hp.1).1]
        · rw [em 1 (by omega), (g3 (by have := Hp.1; omega)).1]; exact (Hp.2.2.1 (by omega)).1
      · by_cases c : i = C0
        · subst c
          have hC1 := (Hp.2.2.1 h1).2
          have := (g3 (by have := Hp.1; omega)).2.1
          rw [hC1] at this
          rw [el, em i (Nat.le_refl _)]; exact this
        · have hC1 := (Hp.2.2.1 (by omega)).2
          have h3 := MKc_m Hp C0 (Nat.le_refl _) i (by omega)
          rw [em i (by omega), em (i + 1) (by omega), (g3 (by have := Hp.1; omega)).2.2 _ (by rw [hC1]; rw [tn_c]; omega)]
          exact Hp.2.2.2 i h1 (by omega)
    · have hd' : d < D := by omega
      have hw := (W1 d (by omega)).1
      have hoz : oo π d < sz π := by omega
      rw [e1 _ hoz] at k
      obtain ⟨C, Hc, hl'⟩ := H1 d (by omega) k
      have ell : ll π' d = ll π d := by unfold ll; rw [h16 d hd']
      refine ⟨C, MKc_c Hc hoz (by omega) (fun i hi => oth _ C hoz (hne d hd') k Hc i (by omega)) e1 (fun j hj => if_neg (by omega)) ⟨g4 _ _ (by decide) (by decide) (by decide) (hne d hd'), g4 _ _ (by decide) (by decide) (by decide) (hne d hd'), g4 _ _ (by decide) (by decide) (by decide) (hne d hd')⟩ (fun i _ h2 => oth2 _ C hoz (hne d hd') k Hc i (by omega)), ?_⟩
      rw [ell, hl']
      exact (mkn_c C (fun i hi => oth _ C hoz (hne d hd') k Hc i (by omega))).symm
  · by_cases c : q < sz π
    · rw [e1 _ c] at k
      by_cases cp : q = p
      · subst cp; exact Or.inl ⟨D, by omega, by rw [eo D (by omega), ep]⟩
      · rcases (H2 q c).1 k with ⟨d, q1, q2⟩ | x
        · exact Or.inl ⟨d, by omega, by rw [eo d q1]; exact q2⟩
        · exact Or.inr (MKx_c x c (by omega) (fun C i Hc hi => oth q C c cp k Hc i hi) e1 (fun j hj => if_neg (by omega)) ⟨g4 _ _ (by decide) (by decide) (by decide) cp, g4 _ _ (by decide) (by decide) (by decide) cp, g4 _ _ (by decide) (by decide) (by decide) cp, g0 _ c⟩ (fun C i Hc _ h2 => oth2 q C c cp k Hc i (by omega)))
    · have : q = sz π := by omega
      subst this; rw [hk] at k; cases k
  · by_cases c : q < sz π
    · rw [e1 _ c] at k
      rcases (H2 q c).2 k with ⟨d, q1, q2⟩ | ⟨r1, r2, r3, r4⟩
      · exact Or.inl ⟨d, by omega, by rw [eo d q1]; exact q2⟩
      · have nl : q ≠ ll π D := by
          intro w
          rw [hC] at w
          cases C0 with
          | zero => have w' : q = p := w; rw [w', ho] at k; cases k
          | succ c0 => have := (Hp.2.1 c0 (by omega)).2.2.1; rw [← w, k] at this; cases this
        have el : lk π' q = lk π q := by unfold lk; rw [e14 q c nl]
        right
        unfold MKy
        rw [el, e1 _ r2, g0 _ r2]
        exact ⟨r1, by omega, r3, r4⟩
    · have : q = sz π := by omega
      subst this; rw [hk] at k; cases k
/-- the innermost bracket ends -/
theorem MKm_end {π π' : pm_T} {h h' : ah_T} {D : Nat} (H : MKm π h) (W : WBp π) (eD : dp π = D + 1) (hz : sz π' = sz π + 1) (ed : dp π' = D) (e1 : ∀ j, j < sz π → π' 1 j = π 1 j) (e14 : ∀ j, j < sz π → j ≠ ll π D → π' 14 j = π 14 j) (hl : lk π' (ll π D) = sz π) (h15 : ∀ d, d < dp π → π' 15 d = π 15 d) (h16 : ∀ d, d < D → π' 16 d = π 16 d) (hk : (π' 1 (sz π) = 93 ∧ π 1 (oo π D) = 91) ∨ (π' 1 (sz π) = 125 ∧ π 1 (oo π D) = 123))
    (g0 : h'.2.1 210 (sz π) = (oo π D : Int) ∧ h'.2.1 210 (oo π D) = (sz π : Int)) (g1 : ∀ j, j ≠ sz π → j ≠ oo π D → h'.2.1 210 j = h.2.1 210 j) (g2 : ∀ a j, 211 ≤ a → a ≤ 214 → h'.2.1 a j = h.2.1 a j) : MKm π' h' := by
  obtain ⟨ow, H1, H2⟩ := H
  have W1 := W.1
  rw [eD] at W1
  have WD := (W1 D (by omega)).1
  have WD4 := (W1 D (by omega)).2.2.2
  have HD := H1 D (by omega)
  have eo : ∀ d, d < dp π → oo π' d = oo π d := fun d q => by unfold oo; rw [h15 d q]
  have hne : ∀ d, d < D → oo π d ≠ oo π D := fun d hd => by have := oo_lt W1 hd; omega
  unfold MKo at HD
  generalize ep : oo π D = p at *
  have hpz : p < sz π := by omega
  have inz : ∀ (q C i : Nat), q < sz π → MKc π h ow q C → i ≤ C → mkn π q i < sz π := by
    intro q C i hp Hc hi
    cases i with
    | zero => exact hp
    | succ i => exact (Hc.2.1 i (by omega)).2.1
  have oth : ∀ (q C : Nat), q < sz π → q ≠ p → π 1 q = 91 → MKc π h ow q C → ∀ i, i ≤ C → π' 14 (mkn π q i) = π 14 (mkn π q i) := by
    intro q C hq hqp kq Hq i hi
    refine e14 _ (inz q C i hq Hq hi) (fun w => ?_)
    rcases hk with ⟨-, k2⟩ | ⟨-, k2⟩
    · obtain ⟨C0, Hp, hC⟩ := HD k2
      rw [hC] at w
      exact MK_apart Hp Hq hqp kq k2 hi w
    · rcases WD4 with ⟨b, -⟩ | ⟨-, b⟩
      · rw [k2] at b; cases b
      · rw [b] at w
        cases i with
        | zero => exact hqp w
        | succ k => have := (Hq.2.1 k (by omega)).2.2.1; rw [w, k2] at this; cases this
  refine ⟨ow, fun d hd k => ?_, fun q hq => ⟨fun k => ?_, fun k => ?_⟩⟩
  · rw [ed] at hd
    rw [eo d (by omega)] at k ⊢
    have hw := (W1 d (by omega)).1
    have hoz : oo π d < sz π := by omega
    rw [e1 _ hoz] at k
    obtain ⟨C, Hc, hl'⟩ := H1 d (by omega) k
    have ell : ll π' d = ll π d := by unfold ll; rw [h16 d hd]
    refine ⟨C, MKc_c Hc hoz (by omega) (fun i hi => oth _ C hoz (hne d hd) k Hc i (by omega)) e1 (fun _ _ => rfl) ⟨g2 _ _ (by decide) (by decide), g2 _ _ (by decide) (by decide), g2 _ _ (by decide) (by decide)⟩ (fun i _ h2 => g2 _ _ (by decide) (by decide)), ?_⟩
    rw [ell, hl']
    exact (mkn_c C (fun i hi => oth _ C hoz (hne d hd) k Hc i (by omega))).symm
  · by_cases c : q < sz π
    · rw [e1 _ c] at k
      by_cases cp : q = p
      · subst cp
        rcases hk with ⟨k1, k2⟩ | ⟨-, k2⟩
        · obtain ⟨C0, Hp, hC⟩ := HD k2
          right
          have em : ∀ i, i ≤ C0 → mkn π' q i = mkn π q i := fun i hi => mkn_c i (fun k hk => e14 _ (inz q C0 k c Hp (by omega)) (by rw [hC]; have := MKc_m Hp C0 (Nat.le_refl _) k (by omega); omega))
          have el : mkn π' q (C0 + 1) = sz π := by show lk π' (mkn π' q C0) = _; rw [em C0 (Nat.le_refl _), ← hC]; exact hl
          refine ⟨C0, MKc_c Hp c (by omega) (fun i hi => e14 _ (inz q C0 i c Hp (by omega)) (by rw [hC]; have := MKc_m Hp C0 (Nat.le_refl _) i hi; omega)) e1 (fun _ _ => rfl) ⟨g2 _ _ (by decide) (by decide), g2 _ _ (by decide) (by decide), g2 _ _ (by decide) (by decide)⟩ (fun i _ h2 => g2 _ _ (by decide) (by decide)), ?_⟩
          rw [em C0 (Nat.le_refl _), el, ← hC, g0.2]
          exact ⟨by omega, by omega, k1, rfl⟩
        · rw [k2] at k; cases k
      · rcases (H2 q c).1 k with ⟨d, q1, q2⟩ | x
        · refine Or.inl ⟨d, ?_, by rw [eo d q1]; exact q2⟩
          rcases Nat.lt_or_ge d D with w | w
          · omega
          · have : d = D := by omega
            subst this; rw [ep] at q2; exact absurd q2.symm cp
        · exact Or.inr (MKx_c x c (by omega) (fun C i Hc hi => oth q C c cp k Hc i hi) e1 (fun _ _ => rfl) ⟨g2 _ _ (by decide) (by decide), g2 _ _ (by decide) (by decide), g2 _ _ (by decide) (by decide), g1 _ (by omega) cp⟩ (fun C i Hc _ h2 => g2 _ _ (by decide) (by decide)))
    · have : q = sz π := by omega
      subst this
      rcases hk with ⟨k1, -⟩ | ⟨k1, -⟩ <;> (rw [k1] at k; cases k)
  · by_cases c : q < sz π
    · rw [e1 _ c] at k
      by_cases cp : q = p
      · subst cp
        rcases hk with ⟨k1, k2⟩ | ⟨k1, k2⟩
        · rw [k2] at k; cases k
        · rcases WD4 with ⟨b, -⟩ | ⟨-, b⟩
          · rw [k2] at b; cases b
          · rw [b] at hl
            right
            unfold MKy
            rw [hl, g0.1]
            exact ⟨by omega, by omega, k1, rfl⟩
      · rcases (H2 q c).2 k with ⟨d, q1, q2⟩ | ⟨r1, r2, r3, r4⟩
        · refine Or.inl ⟨d, ?_, by rw [eo d q1]; exact q2⟩
          rcases Nat.lt_or_ge d D with w | w
          · omega
          · have : d = D := by omega
            subst this; rw [ep] at q2; exact absurd q2.symm cp
        · have nl : q ≠ ll π D := by
            intro w
            rcases hk with ⟨-, k2⟩ | ⟨-, k2⟩
            · obtain ⟨C0, Hp, hC⟩ := HD k2
              rw [hC] at w
              cases C0 with
              | zero => exact cp w
              | succ c0 => have := (Hp.2.1 c0 (by omega)).2.2.1; rw [← w, k] at this; cases this
            · rcases WD4 with ⟨b, -⟩ | ⟨-, b⟩
              · rw [k2] at b; cases b
              · rw [b] at w; exact cp w
          have el : lk π' q = lk π q := by unfold lk; rw [e14 q c nl]
          have np : lk π q ≠ p := by
            intro w
            rw [w] at r3
            rcases hk with ⟨-, k2⟩ | ⟨-, k2⟩ <;> (rw [k2] at r3; cases r3)
          right
          unfold MKy
          rw [el, e1 _ r2, g1 _ (by omega) np]
          exact ⟨r1, by omega, r3, r4⟩
    · have : q = sz π := by omega
      subst this
      rcases hk with ⟨k1, -⟩ | ⟨k1, -⟩ <;> (rw [k1] at k; cases k)
theorem MKm_0 {h : ah_T} : MKm par0 h := ⟨fun _ => 0, fun d hd => absurd hd (Nat.not_lt_zero d), fun p hp => absurd hp (Nat.not_lt_zero p)⟩

/-! ===== the reference: parts of a voice in its cells ===== -/
def mkd (K : Int) : Int := if K = 256 then 0 else if K = 124 then 1 else if K = 91 then 2 else if K = 58 then 3 else if K = 93 then 4 else if K = 123 then 5 else 6
/-- pitches of a sound -/
def ESm (π : pm_T) (j : Nat) (h : ah_T) : Prop := h.2.1 204 j = π 5 j ∧ h.2.1 207 j = π 17 j ∧ ∀ p : Nat, (p : Int) < π 5 j → h.2.1 205 (4 * j + p) = π (6 + p) j ∧ h.2.1 206 (4 * j + p) = π (10 + p) j
def EMj (π : pm_T) (j : Nat) (h : ah_T) : Prop := (h.2.1 202 j = π 2 j ∧ h.2.1 209 j = π 3 j ∧ h.2.1 208 j = π 4 j) ∧ ESm π j h
def RMj (π : pm_T) (j : Nat) (h : ah_T) : Prop := h.2.1 201 j = mkd (π 1 j) ∧ (π 1 j = 256 → EMj π j h) ∧ (π 1 j = 123 → h.2.1 202 j = π 2 j ∧ h.2.1 203 j = π 3 j)
/-- the parts but the count of them -/
def RPx (π : pm_T) (h : ah_T) : Prop := (h.2.1 170 63 = π 0 1 ∧ h.2.1 170 64 = π 0 2) ∧ (∀ d : Nat, (d : Int) < π 0 1 → h.2.1 215 d = π 15 d ∧ h.2.1 216 d = (if π 1 (π 15 d).toNat = 91 then 2 else 5)) ∧ ∀ j : Nat, (j : Int) < π 0 0 → RMj π j h
def RPm (π : pm_T) (h : ah_T) : Prop := h.2.1 170 43 = π 0 0 ∧ RPx π h
/-- what reading parts writes -/
abbrev WVm : Nat → Nat → Prop := fun a k => (a = 170 ∧ ((3 ≤ k ∧ k ≤ 12) ∨ k = 43 ∨ k = 63 ∨ k = 64)) ∨ (201 ≤ a ∧ a ≤ 216)
theorem WK_V : ∀ a k, WK a k → WVm a k := fun a k q => Or.inl ⟨q.1, Or.inl q.2⟩
theorem WM_V : ∀ a k, WM a k → WVm a k := fun a k q => WK_V a k (WM_K a k q)
/-- what reading any item writes -/
abbrev WJb : Nat → Nat → Prop := fun a k => WJ a k ∨ ((a = 185 ∨ a = 186) ∧ 4 ≤ k) ∨ ((187 ≤ a ∧ a ≤ 198 ∧ a ≠ 192 ∧ a ≠ 193) ∧ 1200 ≤ k) ∨ ((a = 192 ∨ a = 193) ∧ 4800 ≤ k) ∨ ((a = 199 ∨ a = 200) ∧ 408 ≤ k) ∨ (201 ≤ a ∧ a ≤ 220)
theorem WJ_b : ∀ a k, WJ a k → WJb a k := fun _ _ q => Or.inl q
theorem WV_J : ∀ a k, WVm a k → WJb a k := fun a k q => q.elim (fun w => Or.inl (Or.inl ⟨w.1, by omega⟩)) (fun w => Or.inr (Or.inr (Or.inr (Or.inr (Or.inr ⟨by omega, by omega⟩)))))
theorem WJ_c : ∀ a k, WJ a k → a ≤ 184 ∨ 201 ≤ a := by
  intro a k q
  rcases q with q | q | q | q | q | q <;> omega
theorem RMs_V {X : tx_T} {i : Nat} {μ : pm_T} {W : Nat → Nat → Prop} {h h' : ah_T} (H : RMs X i μ h) (f : fr W h h') (hW : ∀ a k, W a k → (a = 170 ∧ 12 < k) ∨ 201 ≤ a) : RMs X i μ h' :=
  ⟨RMt_f H.1 f (fun a k w => by have := hW a k w; omega), RSn_f H.2.1 f (fun a k w => by have := hW a k w; omega), (fr_g f (fun w => by have := hW _ _ w; omega)).trans H.2.2⟩
theorem ESm_c {π π' : pm_T} {j : Nat} {h h' : ah_T} (H : ESm π j h) (h5 : π 5 j ≤ 4) (e : ∀ a, (5 ≤ a ∧ a ≤ 13) ∨ a = 17 → π' a j = π a j) (g : h'.2.1 204 j = h.2.1 204 j ∧ h'.2.1 207 j = h.2.1 207 j) (g2 : ∀ k, 4 * j ≤ k → k < 4 * j + 4 → h'.2.1 205 k = h.2.1 205 k ∧ h'.2.1 206 k = h.2.1 206 k) : ESm π' j h' := by
  obtain ⟨a1, a2, a3⟩ := H
  refine ⟨by rw [g.1, e 5 (by omega)]; exact a1, by rw [g.2, e 17 (by omega)]; exact a2, fun p hp => ?_⟩
  rw [e 5 (by omega)] at hp
  rw [(g2 _ (by omega) (by omega)).1, (g2 _ (by omega) (by omega)).2, e (6 + p) (by omega), e (10 + p) (by omega)]
  exact a3 p hp
theorem RMj_c {π π' : pm_T} {j : Nat} {h h' : ah_T} (H : RMj π j h) (P : PJ π j) (e : ∀ a, (1 ≤ a ∧ a ≤ 13) ∨ a = 17 → π' a j = π a j) (g : ∀ a, (201 ≤ a ∧ a ≤ 204) ∨ (207 ≤ a ∧ a ≤ 209) → h'.2.1 a j = h.2.1 a j) (g2 : ∀ k, 4 * j ≤ k → k < 4 * j + 4 → h'.2.1 205 k = h.2.1 205 k ∧ h'.2.1 206 k = h.2.1 206 k) : RMj π' j h' := by
  obtain ⟨a1, a2, a3⟩ := H
  have e1 := e 1 (by omega)
  refine ⟨by rw [g 201 (by omega), e1]; exact a1, fun q => ?_, fun q => ?_⟩
  · rw [e1] at q
    obtain ⟨b1, b2⟩ := a2 q
    have S := (P.2.1 q).2.2.2
    exact ⟨by rw [g 202 (by omega), g 209 (by omega), g 208 (by omega), e 2 (by omega), e 3 (by omega), e 4 (by omega)]; exact b1, ESm_c b2 S.1.2 (fun a w => e a (by omega)) ⟨g _ (by omega), g _ (by omega)⟩ g2⟩
  · rw [e1] at q
    rw [g 202 (by omega), g 203 (by omega), e 2 (by omega), e 3 (by omega)]; exact a3 q
/-- the parts stay; the count of admitted and the sound being read may change -/
theorem RPx_s {π π' : pm_T} {h h' : ah_T} {W : Nat → Nat → Prop} (H : RPx π h) (P : PW π) (f : fr W h h') (hW : ∀ a k, W a k → (a ≤ 170 ∧ (a = 170 → k ≠ 63)) ∨ ((a = 205 ∨ a = 206) ∧ 4 * sz π ≤ k) ∨ ((201 ≤ a ∧ a ≤ 204 ∨ 207 ≤ a ∧ a ≤ 214) ∧ sz π ≤ k)) (e : ∀ a k, (k ≠ sz π ∧ (a ≠ 0 ∨ (k ≠ 2 ∧ k ≠ 4))) ∨ (14 ≤ a ∧ a ≤ 16) → π' a k = π a k) (e0 : π' 0 0 = π 0 0 ∧ π' 0 1 = π 0 1) (e2 : h'.2.1 170 64 = π' 0 2) : RPx π' h' := by
  obtain ⟨⟨a1, a2⟩, hd, hj⟩ := H
  obtain ⟨c0, c1⟩ := e0
  have p0 := P.1.1
  have hz : (sz π : Int) = π 0 0 := by unfold sz; omega
  have g : ∀ (a k : Nat), ¬ ((a ≤ 170 ∧ (a = 170 → k ≠ 63)) ∨ ((a = 205 ∨ a = 206) ∧ 4 * sz π ≤ k) ∨ ((201 ≤ a ∧ a ≤ 204 ∨ 207 ≤ a ∧ a ≤ 214) ∧ sz π ≤ k)) → h'.2.1 a k = h.2.1 a k := fun a k q => fr_g f (fun w => q (hW a k w))
  refine ⟨⟨by rw [g _ _ (by omega), c1]; exact a1, e2⟩, fun d hd' => ?_, fun j hj' => ?_⟩
  · rw [c1] at hd'
    have pd := P.2.1 d hd'
    have : (π 15 d).toNat ≠ sz π := by have := pd.1; omega
    rw [g _ _ (by omega), g _ _ (by omega), e 15 d (by omega), e 1 _ (Or.inl ⟨this, by omega⟩)]; exact hd d hd'
  · rw [c0] at hj'
    have nz : j ≠ sz π := by omega
    exact RMj_c (hj j hj') (P.2.2 j hj') (fun a q => e a j (Or.inl ⟨nz, by omega⟩)) (fun a q => g _ _ (by omega)) (fun k h1 h2 => ⟨g _ _ (by omega), g _ _ (by omega)⟩)
theorem RPx_t {π : pm_T} {h h' : ah_T} {W : Nat → Nat → Prop} (H : RPx π h) (P : PW π) (f : fr W h h') (hW : ∀ a k, W a k → a = 170 ∧ k ≠ 63 ∧ k ≠ 64) : RPx π h' :=
  RPx_s H P f (fun a k w => by have := hW a k w; omega) (fun _ _ _ => rfl) ⟨rfl, rfl⟩ ((fr_g f (fun w => by have := hW _ _ w; omega)).trans H.1.2)
theorem t_MD_put {G : cx_T} {s p : Nat} {h : ah_T} {a1 : Int} (hb0 : hb s h) (hp : h.2.1 170 43 = (p : Int)) (hp2 : p < 2100) : con G 0 0 0 m_MD_put [av_R (some 170), av_I a1] h (fun r h' => r = none ∧ hb s h' ∧ fr (fun a k => (a = 201 ∧ k = p) ∨ (a = 170 ∧ k = 43)) h h' ∧ h'.2.1 201 p = a1 ∧ h'.2.1 170 43 = (p : Int) + 1) := by
  refine c_MD_put hb0 (fun _ => ?_)
  unfold B_MD_put_0
  intro x2 e2 _ _
  obtain rfl : x2 = (p : Int) := e2.trans hp
  refine ⟨⟨by omega, by omega⟩, ?_⟩
  rw [tn_c]
  intro h4 e4
  refine ⟨⟨by omega, by omega⟩, fun h8 e8 => ⟨rfl, hb_i (hb_i hb0 e4) e8, fr_i (fr_i fr_0 e4 (Or.inl ⟨rfl, rfl⟩)) e8 (Or.inr ⟨rfl, rfl⟩), ?_, mv_i e8⟩⟩
  rw [mm_i e8 (by omega), mv_i e4]
theorem sg_sw : ∀ b : Nat, 65 ≤ b → b ≤ 71 → 0 ≤ sw b ∧ sw b ≤ 6 ∧ (sw b % 7 + 2) % 7 + 65 = b := by
  intro b h1 h2
  have : b = 65 ∨ b = 66 ∨ b = 67 ∨ b = 68 ∨ b = 69 ∨ b = 70 ∨ b = 71 := by omega
  rcases this with rfl | rfl | rfl | rfl | rfl | rfl | rfl <;> decide
/-- the signs of a PITCH by its KEY and STEP -/
theorem sg_mk {X : tx_T} {i : Nat} (hA : XA X) (hi : i < X.2.2.2.1) (hk : tK X.2.2.1 i = 258) : sgt X.2.2.1 i = (mk X.1 X.2.1 (X.2.2.2.2.1 i) : Int) := by
  obtain ⟨h1, h2, h3, h4⟩ := hA.2.1 i hi
  have hlt : X.2.2.2.2.1 i < X.2.1 := by
    rcases Nat.lt_or_ge (X.2.2.2.2.1 i) X.2.1 with w | w
    · exact w
    · have := (h3 (by omega)).1; omega
  obtain ⟨⟨t1, t2, t3, t4⟩, -⟩ := h4 hlt
  generalize X.1 = T at *
  generalize X.2.1 = n at *
  generalize X.2.2.2.2.1 i = p at *
  have cP : 65 ≤ T p ∧ T p ≤ 71 := by
    refine Classical.byContradiction fun c1 => ?_
    by_cases c2 : isSm (T p)
    · obtain ⟨-, s1, s2⟩ := t2 c2
      by_cases c : 8 < X.2.2.2.2.2 i - p
      · have := s1 c; omega
      · have := (s2 (by omega)).1; have := knm_b (x := lvl T p (X.2.2.2.2.2 i - p)); omega
    · by_cases c3 : isDg (T p)
      · obtain ⟨-, s1, s2⟩ := t3 c3
        by_cases c : 4 < X.2.2.2.2.2 i - p
        · have := s1 c; omega
        · have := (s2 (by omega)).1; omega
      · obtain ⟨-, a2, a3⟩ := t4 c1 c2 c3
        by_cases c : isSg (T p)
        · have := a2 c; unfold isSg at c; omega
        · have := a3 c; omega
  obtain ⟨q1, q2⟩ := t1 cP
  by_cases d : 48 ≤ tb T n (p + 1 + mk T n p) ∧ tb T n (p + 1 + mk T n p) ≤ 56
  · obtain ⟨-, v, st, -⟩ := q1 d
    obtain ⟨b, eb⟩ : ∃ b : Nat, T p = (b : Int) := ⟨(T p).toNat, by omega⟩
    obtain ⟨w1, w2, w3⟩ := sg_sw b (by omega) (by omega)
    have hm := mk_2 (T := T) (n := n) (p := p)
    unfold sgt sgk
    rw [v, st, eb]
    generalize tb T n (p + 1 + mk T n p) = D at d ⊢
    have e1 : (7 * (D - 48) + sw b) / 7 = D - 48 := by omega
    have e2 : (7 * (D - 48) + sw b) % 7 = sw b % 7 := by omega
    rw [e1, e2, w3]
    have e0 : 12 * (D - 48) + wh b + (if tb T n (p + 1) = 35 then (mk T n p : Int) else -(mk T n p : Int)) - (12 * (D - 48) + wh b) = (if tb T n (p + 1) = 35 then (mk T n p : Int) else -(mk T n p : Int)) := by omega
    rw [e0]
    split <;> split <;> omega
  · have := q2 d; omega

/-! ===== the reference: a sound ===== -/
/-- a sound is being read: its part is counted already -/
def RSm (π : pm_T) (h : ah_T) : Prop := h.2.1 170 43 = π 0 0 + 1 ∧ RPx π h ∧ PW π ∧ PS π ∧ h.2.1 201 (sz π) = 0 ∧ ESm π (sz π) h
/-- what reading a sound writes -/
abbrev WSm : Nat → Nat → Prop := fun a k => (a = 170 ∧ ((3 ≤ k ∧ k ≤ 12) ∨ k = 43 ∨ k = 64)) ∨ (201 ≤ a ∧ a ≤ 209)
theorem WK_S : ∀ a k, WK a k → WSm a k := fun a k q => Or.inl ⟨q.1, Or.inl q.2⟩
theorem WM_S : ∀ a k, WM a k → WSm a k := fun a k q => WK_S a k (WM_K a k q)
abbrev WPp (p : Nat) : Nat → Nat → Prop := fun a k => (a = 170 ∧ ((3 ≤ k ∧ k ≤ 10) ∨ k = 64)) ∨ ((a = 204 ∨ a = 207) ∧ k = p) ∨ ((a = 205 ∨ a = 206) ∧ 4 * p ≤ k ∧ k < 4 * p + 4)
theorem t_MD_pitchOf {G : cx_T} {s : Nat} {h : ah_T} {X : tx_T} {i : Nat} {μ π : pm_T} (hb0 : hb s h) (hA : XA X) (H : RMs X i μ h) (R : RSm π h) (hk : tK X.2.2.1 i = 258) (h5 : π 5 (sz π) < 4) (hp : sz π < 2100) :
    con G 3 0 0 m_MD_pitchOf [av_R (some 170), av_I (sz π : Int)] h (fun r h' => ∃ z, r = some (av_I z) ∧ hb s h' ∧ fr WSm h h' ∧ ((π 0 2 < 300 ∧ z = 1 ∧ RMs X (i + 1) μ h' ∧ RSm (pch X.2.2.1 i (sgt X.2.2.1 i) (adm π)) h') ∨ (¬ π 0 2 < 300 ∧ z = 0 ∧ h'.2.1 170 11 = 3 ∧ h'.2.1 170 12 = tP X.2.2.1 i))) := by
  have hT : TG X.2.2.1 X.2.2.2.1 := XA_g hA
  have hkb := hT.2.2 i H.1.2.1 hk
  have hsg := sg_mk hA H.1.2.1 hk
  have h8 := H.1.2.2.2.2.2.2.2.1 hk
  obtain ⟨R1, R2, P, S, R3, R4⟩ := R
  obtain ⟨⟨s1, s2, s3, s4⟩, s5, s6⟩ := S
  obtain ⟨P0, -, -⟩ := id P
  obtain ⟨e, en⟩ : ∃ e : Nat, π 5 (sz π) = (e : Int) := ⟨(π 5 (sz π)).toNat, by omega⟩
  refine c_MD_pitchOf hb0 (fun _ => ?_)
  unfold B_MD_pitchOf_0
  intro x1 e1 _ _
  have ex1 : x1 = π 0 2 := e1.trans R2.1.2
  refine ⟨fun c y ey _ _ => ?_, fun c => ⟨⟨by omega, by omega⟩, fun h4 e4 => ⟨⟨by omega, by omega⟩, ⟨by omega, by omega⟩, ?_⟩⟩⟩
  · refine con_mono (t_MD_wrongk hb0 H.2.2) ?_
    rintro r h' ⟨z, rfl, hb1, f1, rfl, q1, q2⟩
    exact ⟨0, rfl, hb1, Or.inl rfl, 0, rfl, hb1, fr_w f1 WK_S, Or.inr ⟨by omega, rfl, q1, by rw [q2, ey]; exact H.1.2.2.1⟩⟩
  rw [tn_c]
  intro x8 e8 _ _
  have ex8 : x8 = (e : Int) := by rw [e8, mm_i e4 (by omega), R4.1, en]
  subst ex8
  refine ⟨⟨by omega, by omega⟩, fun x12 e12 _ _ => ⟨⟨by omega, by omega⟩, ?_⟩⟩
  have ek : (4 * (sz π : Int) + (e : Int)).toNat = 4 * sz π + e := by omega
  rw [ek]
  intro h14 e14 x17 e17 _ _ h18 e18 x21 e21 _ _ x22 e22 _ _
  have g12 : x12 = tV' X.2.2.1 i := by rw [e12, mm_i e4 (by omega)]; exact h8.1
  have g17 : x17 = tS X.2.2.1 i := by rw [e17, mm_i e14 (by omega), mm_i e4 (by omega)]; exact h8.2.1
  have g21 : x21 = π 17 (sz π) := by rw [e21, mm_i e18 (by omega), mm_i e14 (by omega), mm_i e4 (by omega)]; exact R4.2.1
  have g22 : x22 = sgt X.2.2.1 i := by rw [e22, mm_i e18 (by omega), mm_i e14 (by omega), mm_i e4 (by omega), hsg]; exact h8.2.2
  have hm := mk_2 (T := X.1) (n := X.2.1) (p := X.2.2.2.2.1 i)
  have b17 : 0 ≤ π 17 (sz π) ∧ π 17 (sz π) ≤ 100000 := by
    rw [s4]
    have : ∀ k : Nat, k ≤ 4 → (k : Int) ≤ π 5 (sz π) → 0 ≤ sgs π (sz π) k ∧ sgs π (sz π) k ≤ 2000 * k := by
      intro k
      induction k with
      | zero => intro _ _; exact ⟨Int.le_refl _, Int.le_refl _⟩
      | succ k ih =>
        intro h1 h2
        have i1 := ih (by omega) (by omega)
        obtain ⟨⟨w1, w2⟩, w3, w4⟩ := s3 k (by omega)
        have w5 : 0 ≤ sgk (π (6 + k) (sz π)) (π (10 + k) (sz π)) ∧ sgk (π (6 + k) (sz π)) (π (10 + k) (sz π)) ≤ 2000 := by
          unfold sgk
          have := wh_b (b := (π (10 + k) (sz π) % 7 + 2) % 7 + 65)
          split <;> omega
        rw [sgs]; omega
    have := this (π 5 (sz π)).toNat (by omega) (by omega)
    omega
  refine ⟨⟨by omega, by omega⟩, fun h24 e24 => ⟨⟨by omega, by omega⟩, fun h29 e29 => ?_⟩⟩
  have f29 : fr (WPp (sz π)) h h29 := fr_i (fr_i (fr_i (fr_i (fr_i fr_0 e4 (by omega)) e14 (by omega)) e18 (by omega)) e24 (by omega)) e29 (by omega)
  have H29 := RMs_V H (fr_i (fr_i (fr_i (fr_i (fr_i (W := fun a k => (a = 170 ∧ k = 64) ∨ 201 ≤ a) fr_0 e4 (by omega)) e14 (by omega)) e18 (by omega)) e24 (by omega)) e29 (by omega)) (fun a k w => by omega)
  refine con_mono (t_MD_step (hb_i (hb_i (hb_i (hb_i (hb_i hb0 e4) e14) e18) e24) e29) hA H29 ⟨by omega, by omega⟩) ?_
  rintro r h' ⟨z, rfl, hb1, f1, H1, rfl⟩
  have f : fr (WPp (sz π)) h h' := fr_t f29 f1 (fun a k w => by omega)
  have c3 : π 0 2 < 300 := by omega
  refine ⟨1, rfl, hb1, Or.inr rfl, 1, rfl, hb1, fr_w f (fun a k w => by omega), Or.inl ⟨c3, rfl, H1, ?_⟩⟩
  obtain ⟨p1, p2⟩ := PW_adm P ⟨⟨s1, s2, s3, s4⟩, s5, s6⟩ c3
  have a5 : adm π 5 (sz (adm π)) = π 5 (sz π) := by rw [sz_adm, adm_o (by omega)]
  have en' : adm π 5 (sz (adm π)) = (e : Int) := a5.trans en
  obtain ⟨q1, q2⟩ := PW_pch (t := X.2.2.1) (i := i) p1 p2 (by rw [a5]; exact h5) (by rw [a5, adm_o (by omega), adm_2]; omega) (by rw [adm_o (by omega), adm_2]; omega) hkb
  have po : ∀ a k, ¬ (a = 0 ∧ (k = 4 ∨ k = 2)) → (k ≠ sz π ∨ (a ≠ 5 ∧ a ≠ 17 ∧ a ≠ 6 + e ∧ a ≠ 10 + e)) → pch X.2.2.1 i (sgt X.2.2.1 i) (adm π) a k = π a k := fun a k q r => by
    rw [pch_o en' (by omega) (by rw [sz_adm]; omega), adm_o (by omega)]
  have es : sz (pch X.2.2.1 i (sgt X.2.2.1 i) (adm π)) = sz π := by rw [sz_pch, sz_adm]
  have m64 : h'.2.1 170 64 = π 0 2 + 1 := by rw [fr_g f1 (by omega), mm_i e29 (by omega), mm_i e24 (by omega), mm_i e18 (by omega), mm_i e14 (by omega), mv_i e4, ex1]
  have v5 : pch X.2.2.1 i (sgt X.2.2.1 i) (adm π) 5 (sz π) = π 5 (sz π) + 1 := by
    have := pch_5 (t := X.2.2.1) (i := i) (g := sgt X.2.2.1 i) (π := adm π)
    rw [sz_adm] at this
    rw [this, adm_o (by omega)]
  have v17 : pch X.2.2.1 i (sgt X.2.2.1 i) (adm π) 17 (sz π) = π 17 (sz π) + sgt X.2.2.1 i := by
    have := pch_17 (t := X.2.2.1) (i := i) (g := sgt X.2.2.1 i) (π := adm π)
    rw [sz_adm] at this
    rw [this, adm_o (by omega)]
  have vk := pch_k (t := X.2.2.1) (i := i) (g := sgt X.2.2.1 i) en' (by omega)
  rw [sz_adm] at vk
  refine ⟨?_, RPx_s R2 P f (fun a k w => by omega) (fun a k q => po a k (by omega) (by omega)) ⟨po _ _ (by omega) (by omega), po _ _ (by omega) (by omega)⟩ ?_, q1, q2, ?_, ?_⟩
  · rw [po 0 0 (by omega) (by omega), fr_g f (by omega)]; exact R1
  · rw [m64, pch_o en' (by omega) (by omega), adm_2]
  · rw [es, fr_g f (by omega)]; exact R3
  · rw [es]
    refine ⟨?_, ?_, fun p hp => ?_⟩
    · rw [v5, fr_g f1 (by omega), mv_i e29, en]
    · rw [v17, fr_g f1 (by omega), mm_i e29 (by omega), mv_i e24, g21, g22]
    · rw [v5] at hp
      by_cases hc : p = e
      · subst hc
        rw [vk.1, vk.2, fr_g f1 (by omega), fr_g f1 (by omega), mm_i e29 (by omega), mm_i e24 (by omega), mm_i e18 (by omega), mv_i e14, mm_i e29 (by omega), mm_i e24 (by omega), mv_i e18]
        exact ⟨g12, g17⟩
      · rw [po _ _ (by omega) (by omega), po _ _ (by omega) (by omega), fr_g f1 (by omega), fr_g f1 (by omega), mm_i e29 (by omega), mm_i e24 (by omega), mm_i e18 (by omega), mm_i e14 (by omega), mm_i e4 (by omega), mm_i e29 (by omega), mm_i e24 (by omega), mm_i e18 (by omega), mm_i e14 (by omega), mm_i e4 (by omega)]
        exact R4.2.2 p (by omega)

/-! ===== the reference: an event ===== -/
theorem TkA_a {T : Nat → Int} {n : Nat} {t : tk_T} {m : Nat} {a b : Nat → Nat} (H : TkA T n t m a b) : ∀ i, i < m → i ≤ a i ∧ a i ≤ n
  | 0, h => ⟨Nat.zero_le _, (H.2.1 0 h).2.1⟩
  | i + 1, h => by
    obtain ⟨i1, i2⟩ := TkA_a H i (by omega)
    obtain ⟨g, s⟩ := H.2.2.1 i h
    obtain ⟨h1, h2, h3, h4⟩ := H.2.1 i (by omega)
    refine ⟨?_, (H.2.1 (i + 1) h).2.1⟩
    have hs := s.1.1
    rcases Nat.lt_or_ge (a i) n with w | w
    · have := (Tok_lt (h4 w).1 w g.2).1; omega
    · exact absurd (h3 (by omega)).1 g.1
theorem XA_m {X : tx_T} (hA : XA X) : X.2.2.2.1 ≤ X.2.1 + 1 := by
  have h0 := hA.2.2.2.2
  have := TkA_a hA (X.2.2.2.1 - 1) (by omega)
  omega
theorem RMs_i {X : tx_T} {i : Nat} {μ : pm_T} {h : ah_T} (hA : XA X) (H : RMs X i μ h) : i ≤ 2000 := by
  have := XA_m hA
  have h1 := H.1.2.1
  have h2 := H.1.1.2.1
  omega
theorem RPm_addE {π : pm_T} {h : ah_T} {n d w : Int} (R : RSm π h) (g : h.2.1 202 (sz π) = n ∧ h.2.1 209 (sz π) = d ∧ h.2.1 208 (sz π) = w) : RPm (addE π n d w) h := by
  obtain ⟨R1, ⟨⟨a1, a2⟩, hd, hj⟩, P, S, R3, R4⟩ := R
  have p0 := P.1.1
  have hz : (sz π : Int) = π 0 0 := by unfold sz; omega
  refine ⟨by rw [addE_0.1]; exact R1, ⟨by rw [addE_o (by omega) (by omega)]; exact a1, by rw [addE_o (by omega) (by omega)]; exact a2⟩, fun e he => ?_, fun j hj' => ?_⟩
  · rw [addE_o (by omega) (by omega)] at he
    have pd := P.2.1 e he
    rw [addE_o (a := 15) (by omega) (by omega), addE_o (a := 1) (by omega) (Or.inl (by have := pd.1; omega))]; exact hd e he
  · rw [addE_0.1] at hj'
    by_cases c : j = sz π
    · subst c
      obtain ⟨v1, v2, v3, v4, -, -⟩ := addE_v (π := π) (n := n) (d := d) (w := w)
      refine ⟨by rw [v1]; exact R3, fun _ => ⟨by rw [v2, v3, v4]; exact g, ESm_c R4 S.1.1.2 (fun a q => addE_o (by omega) (by omega)) ⟨rfl, rfl⟩ (fun _ _ _ => ⟨rfl, rfl⟩)⟩, fun q => by rw [v1] at q; cases q⟩
    · exact RMj_c (hj j (by omega)) (P.2.2 j (by omega)) (fun a q => addE_o (by omega) (Or.inl c)) (fun _ _ => rfl) (fun _ _ _ => ⟨rfl, rfl⟩)
def PVm (X : tx_T) (μ : pm_T) (R : F_T ⊕ (Nat × pm_T)) (z : Int) (h' : ah_T) : Prop := match R with
  | .inl q => z = 0 ∧ h'.2.1 170 11 = q.1 ∧ h'.2.1 170 12 = q.2
  | .inr q => z = 1 ∧ RMs X q.1 μ h' ∧ RPm q.2 h' ∧ PW q.2
abbrev QSm (s : Nat) (X : tx_T) (μ : pm_T) (R : F_T ⊕ (Nat × pm_T)) (h : ah_T) : Option av_T → ah_T → Prop := fun r h' => ∃ z, r = some (av_I z) ∧ hb s h' ∧ fr WSm h h' ∧ (z = 0 ∨ z = 1) ∧ PVm X μ R z h'
theorem RSm_t {π : pm_T} {h h' : ah_T} {W : Nat → Nat → Prop} (R : RSm π h) (f : fr W h h') (hW : ∀ a k, W a k → (a = 170 ∧ k ≠ 43 ∧ k ≠ 63 ∧ k ≠ 64) ∨ ((a = 202 ∨ a = 208 ∨ a = 209) ∧ k = sz π)) : RSm π h' := by
  obtain ⟨R1, R2, P, S, R3, R4⟩ := R
  have g : ∀ (a k : Nat), ¬ ((a = 170 ∧ k ≠ 43 ∧ k ≠ 63 ∧ k ≠ 64) ∨ ((a = 202 ∨ a = 208 ∨ a = 209) ∧ k = sz π)) → h'.2.1 a k = h.2.1 a k := fun a k q => fr_g f (fun w => q (hW a k w))
  refine ⟨by rw [g _ _ (by omega)]; exact R1, RPx_s R2 P f (fun a k w => by have := hW a k w; omega) (fun _ _ _ => rfl) ⟨rfl, rfl⟩ (by rw [g _ _ (by omega)]; exact R2.1.2), P, S, by rw [g _ _ (by omega)]; exact R3, ESm_c R4 S.1.1.2 (fun _ _ => rfl) ⟨g _ _ (by omega), g _ _ (by omega)⟩ (fun k _ _ => ⟨g _ _ (by omega), g _ _ (by omega)⟩)⟩
/-- what is left of an event behind its sound -/
def ev_n (t : tk_T) (i : Nat) (a : Nat × pm_T) : F_T ⊕ (Nat × pm_T) := bnd (sp_num t a.1 64 true) fun n => bnd (sp_dots t 4 (a.1 + 1) 0) fun d => sp_tie t i a.2 n d
theorem ev_e {t : tk_T} {i : Nat} {π : pm_T} : sp_event t i π = bnd (sp_sound t i π) (ev_n t i) := rfl
theorem t_MD_soundPart {G : cx_T} {s : Nat} {h : ah_T} {X : tx_T} {i : Nat} {μ π : pm_T} (hb0 : hb s h) (hA : XA X) (H : RMs X i μ h) (R : RPm π h) (P : PW π) (hp : π 0 0 ≤ i) (hk : tK X.2.2.1 i = 258 ∨ tK X.2.2.1 i = 266 ∨ tK X.2.2.1 i = 60) :
    con G 4 0 0 m_MD_soundPart [av_R (some 170)] h (QSm s X μ (sp_event X.2.2.1 i π) h) := by
  have hT : TG X.2.2.1 X.2.2.2.1 := XA_g hA
  have hi2 := RMs_i hA H
  obtain ⟨p0, p1, p2, p3, p4⟩ := P.1
  obtain ⟨q1, q2, q3⟩ := PW_snd0 P
  have e0 : ∀ a k, a ≠ 5 ∧ a ≠ 17 ∧ a ≠ 19 ∨ k ≠ sz π → snd0 π a k = π a k := fun a k q => by
    unfold snd0; rw [up2_o (by omega), up2_o (by omega), up2_o (by omega)]
  have v5 : snd0 π 5 (sz π) = 0 := by unfold snd0; rw [up2_o (by omega), up2_o (by omega), up2_at]
  have v17 : snd0 π 17 (sz π) = 0 := by unfold snd0; rw [up2_o (by omega), up2_at]
  have hz : (sz π : Int) = π 0 0 := by unfold sz; omega
  generalize et : X.2.2.1 = t at *
  have a2 : ∀ {a b : Int} {h1 : ah_T} {R : F_T ⊕ (Nat × pm_T)}, hb s h1 → h1.2.1 170 11 = 0 → fr WSm h h1 → R = .inl (a, b) → con G 0 0 0 m_MD_wrong [av_R (some 170), av_I a, av_I b] h1 (fun r h2 => ∃ z : Int, r = some (av_I z) ∧ hb s h2 ∧ (z = 0 ∨ z = 1) ∧ QSm s X μ R h (some (av_I z)) h2) := by
    intro a b h1 R hb1 h0 f1 e
    refine con_mono (t_MD_wrongk hb1 h0) ?_
    rintro r h' ⟨z, rfl, hb2, f2, rfl, w1, w2⟩
    exact ⟨0, rfl, hb2, Or.inl rfl, 0, rfl, hb2, fr_t f1 f2 WK_S, Or.inl rfl, by rw [e]; exact ⟨rfl, w1, w2⟩⟩
  have a3 : ∀ {j : Nat} {h1 : ah_T} {R : F_T ⊕ (Nat × pm_T)}, hb s h1 → RMs X j μ h1 → fr WSm h h1 → R = .inl (cn t j) → con G 1 0 0 m_MD_cant [av_R (some 170)] h1 (fun r h2 => ∃ z : Int, r = some (av_I z) ∧ hb s h2 ∧ (z = 0 ∨ z = 1) ∧ QSm s X μ R h (some (av_I z)) h2) := by
    intro j h1 R hb1 H1 f1 e
    refine con_mono (t_MD_cantk hb1 H1) ?_
    rintro r h' ⟨z, rfl, hb2, f2, rfl, w1, w2⟩
    rw [et] at w1 w2
    exact ⟨0, rfl, hb2, Or.inl rfl, 0, rfl, hb2, fr_t f1 f2 WK_S, Or.inl rfl, by rw [e]; exact ⟨rfl, w1, w2⟩⟩
  -- the dots
  have X2 : ∀ (v1 v2 : Int) (h1 : ah_T), hb s h1 → (fr WSm h h1 ∧ v1 = (sz π : Int) ∧ (v2 = 0 ↔ ¬ tK t i = 266) ∧ ∃ (j f : Nat) (ρ : pm_T) (n d : Int), RMs X j μ h1 ∧ RSm ρ h1 ∧ sz ρ = sz π ∧ ρ 0 3 < ρ 0 2 ∧ h1.2.1 202 (sz π) = n ∧ h1.2.1 209 (sz π) = d ∧ (1 ≤ n ∧ n ≤ 64) ∧ (0 ≤ d ∧ d ≤ 3) ∧ (f : Int) = 3 - d ∧ sp_event t i π = bnd (sp_dots t (f + 1) j d) (fun d => sp_tie t i ρ n d)) → aw G (rm_R 4 0 0) m_MD_soundPart 0 0 267 [some (av_R (some 170)), some (av_I v1), some (av_I v2)] [] h1 (QSm s X μ (sp_event t i π) h) := by
    refine lp_MD_soundPart_267 _ (fun v1 _ h1 => (4 - h1.2.1 209 v1.toNat).toNat) ?_
    rintro v1 v2 h1 hb1 ⟨f1, rfl, hv2, j, f, ρ, n, d, H1, R1, ez, h32, g2, g9, hn, hd, hf, es⟩
    unfold B_MD_soundPart_267 B_MD_soundPart_358
    refine con_mono (t_MD_isSign hb1 hA H1 (k := 46) (by unfold isSg; omega)) ?_
    rintro r h2 ⟨z3, rfl, hb2, rfl, -, z02⟩
    rw [et] at z02
    refine ⟨z3, rfl, hb2, fun c => ?_, fun c => ?_⟩
    · have n46 := z02.mp c
      have ed : sp_dots t (f + 1) j d = .inr (j, d) := by rw [sp_dots, if_neg n46]
      rw [ed] at es
      refine con_mono (t_MD_isSign hb2 hA H1 (k := 126) (by unfold isSg; omega)) ?_
      rintro r h5 ⟨z7, rfl, hb5, rfl, z01, z04⟩
      rw [et] at z04
      refine ⟨z7, rfl, hb5, ⟨by omega, by omega⟩, z01, ?_⟩
      rw [tn_c]
      intro h9 e9 x12 e12 _
      have ex12 : x12 = z7 := by rw [e12, mv_i e9]
      have f9 : fr (fun a k => a = 208 ∧ k = sz π) h5 h9 := fr_i fr_0 e9 ⟨rfl, rfl⟩
      have R9 := RSm_t R1 f9 (fun a k w => by rw [ez]; omega)
      have H9 := RMs_V H1 f9 (fun a k w => by omega)
      have hb9 := hb_i hb5 e9
      have ff := fr_t (W := WSm) f1 f9 (fun a k w => by omega)
      have hd3 : ∀ w : Int, (w = 0 ∨ w = 1) → w = z7 → RPm (addE ρ n d w) h9 ∧ PW (addE ρ n d w) := by
        intro w w01 ew
        exact ⟨RPm_addE R9 (by rw [ez, mm_i e9 (by omega), mm_i e9 (by omega), mv_i e9, ew]; exact ⟨g2, g9, rfl⟩), PW_addE R9.2.2.1 R9.2.2.2.1 h32 hn hd w01⟩
      refine ⟨fun c0 => ?_, fun c0 => ⟨fun c1 => ?_, fun c1 x16 e16 _ _ => ?_⟩⟩
      · have n126 : ¬ tK t j = 126 := z04.mp (by omega)
        refine ⟨1, rfl, hb9, ff, Or.inr rfl, ?_⟩
        rw [es]
        simp only [bnd, sp_tie]
        rw [if_neg n126]
        exact ⟨rfl, H9, hd3 0 (Or.inl rfl) (by omega)⟩
      · have y126 : tK t j = 126 := Classical.not_not.mp (fun w => c0 (by rw [ex12]; exact z04.mpr w))
        have nr : ¬ tK t i = 266 := hv2.mp c1
        refine con_mono (t_MD_step hb9 hA H9 (by rw [et, y126]; exact ⟨by decide, by decide⟩)) ?_
        rintro r h13 ⟨z, rfl, hb13, f13, H13, rfl⟩
        have hq := hd3 1 (Or.inr rfl) (by rcases z01 with w | w <;> omega)
        refine ⟨1, rfl, hb13, Or.inr rfl, 1, rfl, hb13, fr_t ff f13 WM_S, Or.inr rfl, ?_⟩
        rw [es]
        simp only [bnd, sp_tie]
        rw [if_pos y126, if_neg nr]
        exact ⟨rfl, H13, ⟨by rw [fr_g f13 (by omega)]; exact hq.1.1, RPx_t hq.1.2 hq.2 f13 (fun a k w => by omega)⟩, hq.2⟩
      · have y126 : tK t j = 126 := Classical.not_not.mp (fun w => c0 (by rw [ex12]; exact z04.mpr w))
        have yr : tK t i = 266 := Classical.not_not.mp (fun w => c1 (hv2.mpr w))
        have := a2 (a := 7) (b := x16) (R := sp_event t i π) hb9 H9.2.2 ff (by rw [es]; simp only [bnd, sp_tie]; rw [if_pos y126, if_pos yr, e16, H9.1.2.2.1, et])
        refine con_mono this ?_
        rintro r h17 ⟨z, rfl, hb17, z01', q⟩
        exact ⟨z, rfl, hb17, z01', q⟩
    · have y46 : tK t j = 46 := Classical.not_not.mp (fun w => c (z02.mpr w))
      rw [tn_c]
      refine ⟨⟨by omega, by omega⟩, fun x21 e21 _ _ => ?_⟩
      have ex21 : x21 = d := e21.trans g9
      subst ex21
      rw [sp_dots, if_pos y46] at es
      refine ⟨fun c3 x31 e31 _ _ => ?_, fun c3 => ⟨⟨by omega, by omega⟩, fun h26 e26 => ?_⟩⟩
      · rw [if_pos c3] at es
        exact a2 (a := 3) (b := x31) hb2 H1.2.2 f1 (by rw [es]; simp only [bnd]; rw [e31, H1.1.2.2.1, et])
      · rw [if_neg c3] at es
        have f26 : fr (fun a k => a = 209 ∧ k = sz π) h2 h26 := fr_i fr_0 e26 ⟨rfl, rfl⟩
        have R26 := RSm_t R1 f26 (fun a k w => by rw [ez]; omega)
        have H26 := RMs_V H1 f26 (fun a k w => by omega)
        refine con_mono (t_MD_step (hb_i hb2 e26) hA H26 (by rw [et, y46]; exact ⟨by decide, by decide⟩)) ?_
        rintro r h28 ⟨z, rfl, hb28, f28, H28, rfl⟩
        have m9 : h28.2.1 209 (sz π) = x21 + 1 := by rw [fr_g f28 (by omega), mv_i e26]
        obtain ⟨f', rfl⟩ : ∃ f', f = f' + 1 := ⟨f - 1, by omega⟩
        refine ⟨1, rfl, hb28, ⟨fr_t (fr_t (W := WSm) f1 f26 (fun a k w => by omega)) f28 WM_S, rfl, hv2, j + 1, f', ρ, n, x21 + 1, H28, RSm_t R26 f28 (fun a k w => by omega), ez, h32, by rw [fr_g f28 (by omega), mm_i e26 (by omega)]; exact g2, m9, hn, by omega, by omega, es⟩, ?_⟩
        rw [tn_c, m9, g9]; omega
  -- the number
  have k209 : ∀ (v2 : Int) (h1 : ah_T) (j : Nat) (ρ : pm_T), hb s h1 → fr WSm h h1 → (v2 = 0 ↔ ¬ tK t i = 266) → RMs X j μ h1 → RSm ρ h1 → sz ρ = sz π → ρ 0 3 < ρ 0 2 → sp_event t i π = ev_n t i (j, ρ) → B_MD_soundPart_209 G s (sz π : Int) v2 h1 (QSm s X μ (sp_event t i π) h) (fun v1 v2 h1 => (fr WSm h h1 ∧ v1 = (sz π : Int) ∧ (v2 = 0 ↔ ¬ tK t i = 266) ∧ ∃ (j f : Nat) (ρ : pm_T) (n d : Int), RMs X j μ h1 ∧ RSm ρ h1 ∧ sz ρ = sz π ∧ ρ 0 3 < ρ 0 2 ∧ h1.2.1 202 (sz π) = n ∧ h1.2.1 209 (sz π) = d ∧ (1 ≤ n ∧ n ≤ 64) ∧ (0 ≤ d ∧ d ≤ 3) ∧ (f : Int) = 3 - d ∧ sp_event t i π = bnd (sp_dots t (f + 1) j d) (fun d => sp_tie t i ρ n d))) := by
    intro v2 h1 j ρ hb1 f1 hv2 H1 R1 ez h32 es
    unfold ev_n at es
    unfold B_MD_soundPart_209
    intro x1 e1 _ _
    have k3 : x1 = 3 ↔ tK t j = 259 := by rw [e1, H1.1.2.2.2.1, et]; exact ek_3
    refine ⟨fun c x2 e2 _ _ => ?_, fun c => ?_⟩
    · have kn := k3.mp c
      have ev : x2 = tV' t j := by rw [e2]; have := H1.1.2.2.2.2.2.2.1; rw [et] at this; exact this kn
      refine con_mono (t_MD_isPower hb1 (by decide)) ?_
      rintro r h3 ⟨z5, rfl, hb3, rfl, -, z02⟩
      have esn : sp_num t j 64 true = if (1 ≤ tV' t j ∧ tV' t j ≤ 64) ∧ (true = false ∨ pwb (tV' t j) = true) then .inr (tV' t j) else .inl (5, tP t j) := by unfold sp_num; rw [if_pos kn]
      refine ⟨z5, rfl, hb3, fun c5 x17 e17 _ _ => ?_, fun c5 x7 e7 _ _ => ⟨⟨by omega, by omega⟩, ?_⟩⟩
      · have := z02.mp c5
        rw [if_neg (by rintro ⟨w1, w2⟩; rcases w2 with w | w; exact absurd w (by decide); exact this (by rw [ev]; exact ⟨w1, w⟩))] at esn
        refine a2 (a := 5) (b := x17) hb3 H1.2.2 f1 ?_
        rw [es, esn, e17, H1.1.2.2.1, et]; rfl
      · have hy : (1 ≤ x2 ∧ x2 ≤ 64) ∧ pwb x2 = true := Classical.not_not.mp (fun w => c5 (z02.mpr w))
        rw [ev] at hy
        rw [if_pos ⟨hy.1, Or.inr hy.2⟩] at esn
        rw [tn_c]
        intro h9 e9
        have f9 : fr (fun a k => a = 202 ∧ k = sz π) h3 h9 := fr_i fr_0 e9 ⟨rfl, rfl⟩
        have R9 := RSm_t R1 f9 (fun a k w => by rw [ez]; omega)
        have H9 := RMs_V H1 f9 (fun a k w => by omega)
        refine con_mono (t_MD_step (hb_i hb3 e9) hA H9 (by rw [et, kn]; exact ⟨by decide, by decide⟩)) ?_
        rintro r h11 ⟨z, rfl, hb11, f11, H11, rfl⟩
        refine ⟨1, rfl, hb11, fun h15 e15 => ?_⟩
        have f15 : fr (fun a k => a = 209 ∧ k = sz π) h11 h15 := fr_i fr_0 e15 ⟨rfl, rfl⟩
        refine ⟨fr_t (fr_t (fr_t (W := WSm) f1 f9 (fun a k w => by omega)) f11 WM_S) f15 (fun a k w => by omega), rfl, hv2, j + 1, 3, ρ, tV' t j, 0, RMs_V H11 f15 (fun a k w => by omega), RSm_t (RSm_t R9 f11 (fun a k w => by omega)) f15 (fun a k w => by rw [ez]; omega), ez, h32, ?_, mv_i e15, hy.1, ⟨by decide, by decide⟩, by decide, ?_⟩
        · rw [mm_i e15 (by omega), fr_g f11 (by omega), mv_i e9, e7]
          have := H1.1.2.2.2.2.2.2.1; rw [et] at this; exact this kn
        · rw [es, esn]; rfl
    · refine a3 (j := j) hb1 H1 f1 ?_
      rw [es]
      unfold sp_num
      rw [if_neg (fun w => c (k3.mpr w))]; rfl
  refine c_MD_soundPart (X95 := fun v1 v2 h1 => fr WSm h h1 ∧ v1 = (sz π : Int) ∧ v2 = 0 ∧ tK t i = 60 ∧ ∃ (j f : Nat) (ρ : pm_T), RMs X j μ h1 ∧ RSm ρ h1 ∧ sz ρ = sz π ∧ (f : Int) = 4 - ρ 5 (sz ρ) ∧ (0 < ρ 5 (sz ρ) → ρ 0 3 < ρ 0 2) ∧ sp_event t i π = bnd (sp_chord t (f + 1) j ρ) (ev_n t i)) (X267 := fun v1 v2 h1 => (fr WSm h h1 ∧ v1 = (sz π : Int) ∧ (v2 = 0 ↔ ¬ tK t i = 266) ∧ ∃ (j f : Nat) (ρ : pm_T) (n d : Int), RMs X j μ h1 ∧ RSm ρ h1 ∧ sz ρ = sz π ∧ ρ 0 3 < ρ 0 2 ∧ h1.2.1 202 (sz π) = n ∧ h1.2.1 209 (sz π) = d ∧ (1 ≤ n ∧ n ≤ 64) ∧ (0 ≤ d ∧ d ≤ 3) ∧ (f : Int) = 3 - d ∧ sp_event t i π = bnd (sp_dots t (f + 1) j d) (fun d => sp_tie t i ρ n d))) ?_ X2 hb0 ?_
  · refine lp_MD_soundPart_95 X2 _ (fun v1 _ h1 => (5 - h1.2.1 204 v1.toNat).toNat) ?_
    rintro v1 v2 h1 hb1 ⟨f1, rfl, rfl, hk60, j, f, ρ, H1, R1, ez, hf, h32, es⟩
    obtain ⟨⟨s1, s2, s3, s4⟩, s5, s6⟩ := R1.2.2.2.1
    obtain ⟨r0, r1, r2, r3, r4⟩ := R1.2.2.1.1
    unfold B_MD_soundPart_95
    intro x1 e1 _ _
    have k1 : x1 = 1 ↔ tK t j = 258 := by rw [e1, H1.1.2.2.2.1, et]; exact ek_1
    rw [tn_c]
    refine ⟨fun c => ⟨⟨by omega, by omega⟩, fun x3 e3 _ _ => ?_⟩, fun c => ?_⟩
    · have kp := k1.mp c
      have ex3 : x3 = ρ 5 (sz ρ) := by rw [e3, ← ez]; exact R1.2.2.2.2.2.1
      rw [sp_chord, if_pos kp] at es
      have k185 : ¬ ρ 5 (sz ρ) = 4 → ¬ (0 < ρ 5 (sz ρ) ∧ tV' t j ≤ ρ (5 + (ρ 5 (sz ρ)).toNat) (sz ρ)) → B_MD_soundPart_185 G s (sz π : Int) 0 h1 (QSm s X μ (sp_event t i π) h) (fun v1' v2' h' => (fr WSm h h' ∧ v1' = (sz π : Int) ∧ v2' = 0 ∧ tK t i = 60 ∧ ∃ (j f : Nat) (ρ : pm_T), RMs X j μ h' ∧ RSm ρ h' ∧ sz ρ = sz π ∧ (f : Int) = 4 - ρ 5 (sz ρ) ∧ (0 < ρ 5 (sz ρ) → ρ 0 3 < ρ 0 2) ∧ sp_event t i π = bnd (sp_chord t (f + 1) j ρ) (ev_n t i)) ∧ (5 - h'.2.1 204 v1'.toNat).toNat < (5 - h1.2.1 204 ((sz π : Int)).toNat).toNat) (fun v1 v2 h1 => (fr WSm h h1 ∧ v1 = (sz π : Int) ∧ (v2 = 0 ↔ ¬ tK t i = 266) ∧ ∃ (j f : Nat) (ρ : pm_T) (n d : Int), RMs X j μ h1 ∧ RSm ρ h1 ∧ sz ρ = sz π ∧ ρ 0 3 < ρ 0 2 ∧ h1.2.1 202 (sz π) = n ∧ h1.2.1 209 (sz π) = d ∧ (1 ≤ n ∧ n ≤ 64) ∧ (0 ≤ d ∧ d ≤ 3) ∧ (f : Int) = 3 - d ∧ sp_event t i π = bnd (sp_dots t (f + 1) j d) (fun d => sp_tie t i ρ n d))) := by
        intro n4 nlow
        rw [if_neg n4, if_neg nlow] at es
        unfold B_MD_soundPart_185
        rw [← ez]
        refine con_mono (t_MD_pitchOf (π := ρ) hb1 hA H1 R1 (by rw [et]; exact kp) (by omega) (by rw [ez]; omega)) ?_
        rw [et]
        rintro r h2 ⟨z3, rfl, hb2, f2, q⟩
        rcases q with ⟨c3, rfl, H2, R2⟩ | ⟨c3, rfl, w1, w2⟩
        · rw [sp_adm_a c3] at es
          simp only [bnd] at es
          have a5 : adm ρ 5 (sz (adm ρ)) = ρ 5 (sz ρ) := by rw [sz_adm, adm_o (by omega)]
          have b5 : pch t j (sgt t j) (adm ρ) 5 (sz (pch t j (sgt t j) (adm ρ))) = ρ 5 (sz ρ) + 1 := by rw [sz_pch, pch_5, a5]
          have bz : sz (pch t j (sgt t j) (adm ρ)) = sz π := by rw [sz_pch, sz_adm, ez]
          obtain ⟨e, ee⟩ : ∃ e : Nat, ρ 5 (sz ρ) = (e : Int) := ⟨(ρ 5 (sz ρ)).toNat, by omega⟩
          have b32 : pch t j (sgt t j) (adm ρ) 0 3 < pch t j (sgt t j) (adm ρ) 0 2 := by
            rw [pch_o (a5.trans ee) (by omega) (by omega), pch_o (a5.trans ee) (by omega) (by omega), adm_2, adm_o (by omega)]; omega
          refine ⟨1, rfl, hb2, fun d => absurd d (by decide), fun _ => ?_⟩
          refine con_mono (t_MD_isSign hb2 hA H2 (k := 62) (by unfold isSg; omega)) ?_
          rintro r h4 ⟨z6, rfl, hb4, rfl, -, z02⟩
          rw [et] at z02
          refine ⟨z6, rfl, hb4, fun c6 => ?_, fun c6 => ?_⟩
          · rw [if_neg (z02.mp c6)] at es
            obtain ⟨f', rfl⟩ : ∃ f', f = f' + 1 := ⟨f - 1, by omega⟩
            have bz' := bz.trans ez.symm
            refine ⟨⟨fr_t f1 f2 (fun _ _ w => w), rfl, rfl, hk60, j + 1, f', pch t j (sgt t j) (adm ρ), H2, R2, bz', by rw [b5]; omega, fun _ => b32, es⟩, ?_⟩
            have m1 := R2.2.2.2.2.2.1
            have m0 := R1.2.2.2.2.2.1
            rw [b5, bz'] at m1
            show (5 - h4.2.1 204 (sz ρ)).toNat < (5 - h1.2.1 204 (sz ρ)).toNat
            rw [m1, m0]
            omega
          · have y62 : tK t (j + 1) = 62 := Classical.not_not.mp (fun w => c6 (z02.mpr w))
            rw [if_pos y62] at es
            refine con_mono (t_MD_step hb4 hA H2 (by rw [et, y62]; exact ⟨by decide, by decide⟩)) ?_
            rintro r h7 ⟨z9, rfl, hb7, f7, H7, rfl⟩
            refine ⟨1, rfl, hb7, ?_⟩
            rw [ez]
            exact k209 0 h7 (j + 1 + 1) _ hb7 (fr_t (fr_t f1 f2 (fun _ _ w => w)) f7 WM_S) ⟨fun _ w => by omega, fun _ => rfl⟩ H7 (RSm_t R2 f7 (fun a k w => by omega)) bz b32 es
        · rw [sp_adm_n c3] at es
          refine ⟨0, rfl, hb2, fun _ => ⟨0, rfl, hb2, fr_t f1 f2 (fun _ _ w => w), Or.inl rfl, ?_⟩, fun d => absurd rfl d⟩
          rw [es]; exact ⟨rfl, w1, w2⟩
      refine ⟨fun c4 x17 e17 _ _ => ?_, fun c4 => ⟨fun c0 => k185 (by omega) (by omega), fun c0 x7 e7 _ _ => ⟨⟨by omega, by omega⟩, ⟨by omega, by omega⟩, ⟨by omega, by omega⟩, ⟨by omega, by omega⟩, ?_⟩⟩⟩
      · rw [if_pos (by omega)] at es
        exact a2 (a := 3) (b := x17) hb1 H1.2.2 f1 (by rw [es, e17, H1.1.2.2.1, et]; rfl)
      · obtain ⟨e, ee⟩ : ∃ e : Nat, x3 = (e : Int) + 1 := ⟨(x3 - 1).toNat, by omega⟩
        have ek : (4 * (sz π : Int) + x3 - 1).toNat = 4 * sz π + e := by omega
        rw [ek]
        intro x14 e14 _ _
        have ex14 : x14 = ρ (6 + e) (sz ρ) := by rw [e14, ← ez]; exact (R1.2.2.2.2.2.2.2 e (by omega)).1
        have ex7 : x7 = tV' t j := by rw [e7]; have := H1.1.2.2.2.2.2.2.2.1; rw [et] at this; exact (this kp).1
        have e5 : 5 + (ρ 5 (sz ρ)).toNat = 6 + e := by omega
        refine ⟨fun c7 => k185 (by omega) (by rw [e5]; omega), fun c7 x16 e16 _ _ => ?_⟩
        rw [if_neg (by omega), if_pos (by rw [e5]; omega)] at es
        have ex16 : x16 = ρ 0 2 := e16.trans R1.2.1.1.2
        unfold B_MD_soundPart_177
        refine ⟨fun c8 y ey _ _ => ?_, fun c8 y ey _ _ => ?_⟩
        · rw [if_neg (by omega)] at es
          exact a2 (a := 3) (b := y) hb1 H1.2.2 f1 (by rw [es, ey, H1.1.2.2.1, et]; rfl)
        · rw [if_pos (by omega)] at es
          exact a2 (a := 4) (b := y) hb1 H1.2.2 f1 (by rw [es, ey, H1.1.2.2.1, et]; rfl)
    · rw [sp_chord, if_neg (fun w => c (k1.mpr w))] at es
      exact a3 (j := j) hb1 H1 f1 (by rw [es]; rfl)
  · unfold B_MD_soundPart_0
    intro x1 e1 _ _
    have ex1 : x1 = (sz π : Int) := by rw [e1, R.1, hz]
    subst ex1
    refine con_mono (t_MD_put (p := sz π) hb0 (by rw [R.1, hz]) (by omega)) ?_
    rintro r h2 ⟨rfl, hb2, f2, m1, m2⟩
    refine ⟨rfl, hb2, ⟨by omega, by omega⟩, ?_⟩
    rw [tn_c]
    intro h7 e7 h10 e10
    have f10 : fr (fun a k => ((a = 201 ∨ a = 204 ∨ a = 207) ∧ k = sz π) ∨ (a = 170 ∧ k = 43)) h h10 := fr_i (fr_i (fr_w f2 (fun a k w => by omega)) e7 (by omega)) e10 (by omega)
    have hb10 := hb_i (hb_i hb2 e7) e10
    have H10 := RMs_V H f10 (fun a k w => by omega)
    have R10 : RSm (snd0 π) h10 := by
      refine ⟨?_, RPx_s R.2 P f10 (fun a k w => by omega) (fun a k q => e0 a k (by omega)) ⟨e0 _ _ (by omega), e0 _ _ (by omega)⟩ ?_, q1, q2, ?_, ?_⟩
      · rw [e0 _ _ (by omega), mm_i e10 (by omega), mm_i e7 (by omega), m2, hz]
      · rw [fr_g f10 (by omega), e0 _ _ (by omega)]; exact R.2.1.2
      · rw [q3, mm_i e10 (by omega), mm_i e7 (by omega), m1]
      · rw [q3]
        refine ⟨by rw [mm_i e10 (by omega), mv_i e7, v5], by rw [mv_i e10, v17], fun p hp => by rw [v5] at hp; omega⟩
    have ff : fr WSm h h10 := fr_w f10 (fun a k w => by omega)
    have s2 : snd0 π 0 2 = π 0 2 := e0 _ _ (by omega)
    have s3 : snd0 π 0 3 = π 0 3 := e0 _ _ (by omega)
    rw [ev_e] at *
    refine con_mono (t_MD_isWord hb10 H10 (k := 5) (by omega)) ?_
    rintro r h12 ⟨z14, rfl, hb12, rfl, z01, z02⟩
    rw [et] at z02
    refine ⟨z14, rfl, hb12, fun c => ?_, fun c => ?_⟩
    · have nr : ¬ tK t i = 266 := by have := z02.mp c; omega
      intro x15 e15 _ _
      have k1 : x15 = 1 ↔ tK t i = 258 := by rw [e15, H10.1.2.2.2.1, et]; exact ek_1
      refine ⟨fun c1 => ?_, fun c1 => ?_⟩
      · have kp := k1.mp c1
        have es : sp_sound t i π = bnd (sp_adm t i (snd0 π)) fun π1 => .inr (i + 1, pch t i (sgt t i) π1) := by unfold sp_sound; rw [if_neg nr, if_pos kp]
        have := t_MD_pitchOf (G := G) (π := snd0 π) hb12 hA H10 R10 (by rw [et]; exact kp) (by rw [q3, v5]; decide) (by rw [q3]; omega)
        rw [q3, et] at this
        refine con_mono this ?_
        rintro r h19 ⟨z, rfl, hb19, f19, q⟩
        rcases q with ⟨c3, rfl, H19, R19⟩ | ⟨c3, rfl, w1, w2⟩
        · have a5 : adm (snd0 π) 5 (sz (adm (snd0 π))) = ((0 : Nat) : Int) := by rw [sz_adm, adm_o (by omega), q3, v5]; rfl
          refine ⟨1, rfl, hb19, fun d => absurd d (by decide), fun _ => k209 z14 h19 (i + 1) _ hb19 (fr_t ff f19 (fun _ _ w => w)) ⟨fun _ => nr, fun _ => c⟩ H19 R19 (by rw [sz_pch, sz_adm, q3]) ?_ ?_⟩
          · rw [pch_o a5 (by omega) (by omega), pch_o a5 (by omega) (by omega), adm_2, adm_o (by omega), s2, s3]; omega
          · rw [es, sp_adm_a c3]; rfl
        · refine ⟨0, rfl, hb19, fun _ => ⟨0, rfl, hb19, fr_t ff f19 (fun _ _ w => w), Or.inl rfl, ?_⟩, fun d => absurd rfl d⟩
          rw [es, sp_adm_n c3]; exact ⟨rfl, w1, w2⟩
      · have k60 : tK t i = 60 := by
          rcases hk with w | w | w
          · exact absurd (k1.mpr w) c1
          · exact absurd w nr
          · exact w
        refine con_mono (t_MD_step hb12 hA H10 (by rw [et, k60]; exact ⟨by decide, by decide⟩)) ?_
        rintro r h16 ⟨z, rfl, hb16, f16, H16, rfl⟩
        refine ⟨1, rfl, hb16, fr_t ff f16 WM_S, rfl, c, k60, i + 1, 4, snd0 π, H16, RSm_t R10 f16 (fun a k w => by omega), q3, by rw [q3, v5]; rfl, fun w => by rw [q3, v5] at w; omega, ?_⟩
        have es : sp_sound t i π = sp_chord t 5 (i + 1) (snd0 π) := by unfold sp_sound; rw [if_neg nr, if_neg (by omega)]
        rw [es]
    · have yr : tK t i = 266 := by
        have := Classical.not_not.mp (fun w => c (z02.mpr w)); omega
      have es : sp_sound t i π = bnd (sp_adm t i (snd0 π)) fun π1 => .inr (i + 1, π1) := by unfold sp_sound; rw [if_pos yr]
      intro x22 e22 _ _
      have ex22 : x22 = π 0 2 := by rw [e22, R10.2.1.1.2, s2]
      refine ⟨fun c3 x30 e30 _ _ => ?_, fun c3 => ⟨⟨by omega, by omega⟩, fun h25 e25 => ?_⟩⟩
      · exact a2 (a := 3) (b := x30) hb12 H10.2.2 ff (by rw [es, sp_adm_n (by omega), e30, H10.1.2.2.1, et]; rfl)
      · have c32 : snd0 π 0 2 < 300 := by rw [s2]; omega
        obtain ⟨t1, t2⟩ := PW_adm q1 q2 c32
        have f25 : fr (fun a k => a = 170 ∧ k = 64) h12 h25 := fr_i fr_0 e25 ⟨rfl, rfl⟩
        have H25 := RMs_V H10 f25 (fun a k w => by omega)
        have R25 : RSm (adm (snd0 π)) h25 := by
          obtain ⟨u1, u2, u3, u4, u5, u6⟩ := R10
          refine ⟨by rw [fr_g f25 (by omega), adm_o (by omega)]; exact u1, RPx_s u2 u3 f25 (fun a k w => by omega) (fun a k q => adm_o (by omega)) ⟨adm_o (by omega), adm_o (by omega)⟩ (by rw [mv_i e25, adm_2, s2, ex22]), t1, t2, by rw [sz_adm, fr_g f25 (by omega)]; exact u5, ?_⟩
          rw [sz_adm]
          exact ESm_c u6 u4.1.1.2 (fun a q => adm_o (by omega)) ⟨fr_g f25 (by omega), fr_g f25 (by omega)⟩ (fun k _ _ => ⟨fr_g f25 (by omega), fr_g f25 (by omega)⟩)
        refine con_mono (t_MD_step (hb_i hb12 e25) hA H25 (by rw [et, yr]; exact ⟨by decide, by decide⟩)) ?_
        rintro r h27 ⟨z, rfl, hb27, f27, H27, rfl⟩
        refine ⟨1, rfl, hb27, k209 z14 h27 (i + 1) _ hb27 (fr_t (fr_t (W := WSm) ff f25 (fun a k w => by omega)) f27 WM_S) ⟨fun w => absurd w c, fun w => absurd yr w⟩ H27 (RSm_t R25 f27 (fun a k w => by omega)) (by rw [sz_adm, q3]) ?_ ?_⟩
        · rw [adm_2, adm_o (by omega), s2, s3]; omega
        · rw [es, sp_adm_a c32]; rfl

/-! ===== the reference: a part of a voice ===== -/
theorem MKc_n {π : pm_T} {h : ah_T} {ow : Nat → Nat} {p C : Nat} (H : MKc π h ow p C) : ∀ j, j ≤ C → j ≤ mkn π p j
  | 0, _ => Nat.zero_le _
  | j + 1, hj => by
    have := MKc_n H j (by omega)
    have := (H.2.1 j (by omega)).1
    omega
/-- a part without a number -/
theorem RPm_addP {π : pm_T} {c x y : Int} {h h' : ah_T} {W : Nat → Nat → Prop} (R : RPm π h) (P : PW π) (hc : c ≠ 256 ∧ c ≠ 123) (f : fr W h h') (hW : ∀ a k, W a k → (a = 170 ∧ k ≠ 63 ∧ k ≠ 64) ∨ (a = 201 ∧ k = sz π)) (g : h'.2.1 170 43 = π 0 0 + 1 ∧ h'.2.1 201 (sz π) = mkd c) : RPm (addP π c x y) h' := by
  obtain ⟨R1, ⟨a1, a2⟩, hd, hj⟩ := R
  have p0 := P.1.1
  have hz : (sz π : Int) = π 0 0 := by unfold sz; omega
  have gg : ∀ (a k : Nat), ¬ ((a = 170 ∧ k ≠ 63 ∧ k ≠ 64) ∨ (a = 201 ∧ k = sz π)) → h'.2.1 a k = h.2.1 a k := fun a k q => fr_g f (fun w => q (hW a k w))
  have v0 := (addP_v (π := π) (c := c) (x := x) (y := y)).1
  have v1 := (addP_v (π := π) (c := c) (x := x) (y := y)).2.1
  refine ⟨by rw [v0, g.1], ⟨by rw [gg _ _ (by omega), addP_o (by omega) (by omega)]; exact a1, by rw [gg _ _ (by omega), addP_o (by omega) (by omega)]; exact a2⟩, fun e he => ?_, fun j hj' => ?_⟩
  · rw [addP_o (by omega) (by omega)] at he
    have pd := P.2.1 e he
    rw [gg _ _ (by omega), gg _ _ (by omega), addP_o (a := 15) (by omega) (by omega), addP_o (a := 1) (by omega) (Or.inl (by have := pd.1; omega))]; exact hd e he
  · rw [v0] at hj'
    by_cases q : j = sz π
    · rw [q]
      exact ⟨by rw [v1, g.2], fun w => by rw [v1] at w; omega, fun w => by rw [v1] at w; omega⟩
    · exact RMj_c (hj j (by omega)) (P.2.2 j (by omega)) (fun a w => addP_o (by omega) (Or.inl q)) (fun a w => gg _ _ (by omega)) (fun k _ _ => ⟨gg _ _ (by omega), gg _ _ (by omega)⟩)
/-- a bracket opened -/
theorem RPm_addO {π : pm_T} {c x y : Int} {h h' : ah_T} {W : Nat → Nat → Prop} (R : RPm π h) (P : PW π) (hc : c = 91 ∨ c = 123) (f : fr W h h') (hW : ∀ a k, W a k → (a = 170 ∧ k ≠ 64) ∨ ((a = 201 ∨ a = 202 ∨ a = 203 ∨ a = 214) ∧ k = sz π) ∨ ((a = 215 ∨ a = 216) ∧ k = dp π)) (g : h'.2.1 170 43 = π 0 0 + 1 ∧ h'.2.1 170 63 = π 0 1 + 1 ∧ h'.2.1 201 (sz π) = mkd c ∧ (c = 123 → h'.2.1 202 (sz π) = x ∧ h'.2.1 203 (sz π) = y) ∧ h'.2.1 215 (dp π) = π 0 0 ∧ h'.2.1 216 (dp π) = (if c = 91 then 2 else 5)) : RPm (addP (opn π) c x y) h' := by
  obtain ⟨R1, ⟨a1, a2⟩, hd, hj⟩ := R
  obtain ⟨p0, p1, -⟩ := P.1
  have hz : (sz π : Int) = π 0 0 := by unfold sz; omega
  have hdp : (dp π : Int) = π 0 1 := by unfold dp; omega
  have gg : ∀ (a k : Nat), ¬ ((a = 170 ∧ k ≠ 64) ∨ ((a = 201 ∨ a = 202 ∨ a = 203 ∨ a = 214) ∧ k = sz π) ∨ ((a = 215 ∨ a = 216) ∧ k = dp π)) → h'.2.1 a k = h.2.1 a k := fun a k q => fr_g f (fun w => q (hW a k w))
  obtain ⟨v0, v1, v2, v3, -⟩ := addP_v (π := opn π) (c := c) (x := x) (y := y)
  obtain ⟨w1, w15, w16⟩ := opn_v (π := π)
  rw [sz_opn] at v1 v2 v3
  rw [opn_o (by omega) (by omega)] at v0
  have o : ∀ a k, ¬ (a = 0 ∧ k ≤ 1) → (k ≠ sz π ∨ ¬ (a = 1 ∨ a = 2 ∨ a = 3 ∨ a = 14)) → (k ≠ dp π ∨ ¬ (a = 15 ∨ a = 16)) → addP (opn π) c x y a k = π a k := fun a k q1 q2 q3 => by
    rw [addP_o (by omega) (by rw [sz_opn]; exact q2), opn_o (by omega) q3]
  have o1 : addP (opn π) c x y 0 1 = π 0 1 + 1 := by rw [addP_o (by omega) (by omega), w1]
  refine ⟨by rw [v0, g.1], ⟨by rw [o1, g.2.1], by rw [gg _ _ (by omega), o _ _ (by omega) (by omega) (by omega)]; exact a2⟩, fun e he => ?_, fun j hj' => ?_⟩
  · rw [o1] at he
    by_cases q : e = dp π
    · rw [q]
      have e15 : addP (opn π) c x y 15 (dp π) = π 0 0 := by rw [addP_o (by omega) (by omega), w15]
      rw [e15]
      have : (π 0 0).toNat = sz π := rfl
      rw [this, v1]
      exact ⟨g.2.2.2.2.1, g.2.2.2.2.2⟩
    · have he' : (e : Int) < π 0 1 := by omega
      have pd := P.2.1 e he'
      rw [gg _ _ (by omega), gg _ _ (by omega), o 15 _ (by omega) (by omega) (Or.inl q), o 1 _ (by omega) (Or.inl (by have := pd.1; omega)) (by omega)]; exact hd e he'
  · rw [v0] at hj'
    by_cases q : j = sz π
    · rw [q]
      refine ⟨by rw [v1]; exact g.2.2.1, fun w => by rw [v1] at w; omega, fun w => ?_⟩
      rw [v1] at w
      rw [v2, v3]; exact g.2.2.2.1 w
    · exact RMj_c (hj j (by omega)) (P.2.2 j (by omega)) (fun a w => o _ _ (by omega) (Or.inl q) (by omega)) (fun a w => gg _ _ (by omega)) (fun k _ _ => ⟨gg _ _ (by omega), gg _ _ (by omega)⟩)
/-- a mark -/
theorem RPm_addM {π : pm_T} {K : Int} {h h' : ah_T} {W : Nat → Nat → Prop} (R : RPm π h) (P : PW π) (h1 : 0 < π 0 1) (hK : K = 58 ∨ K = 93 ∨ K = 125) (f : fr W h h') (hW : ∀ a k, W a k → (a = 170 ∧ k ≠ 64) ∨ (a = 201 ∧ k = sz π) ∨ (210 ≤ a ∧ a ≤ 214)) (g : h'.2.1 170 43 = π 0 0 + 1 ∧ h'.2.1 170 63 = (if K = 58 then π 0 1 else π 0 1 - 1) ∧ h'.2.1 201 (sz π) = mkd K) : RPm (addM π K) h' := by
  obtain ⟨R1, ⟨a1, a2⟩, hd, hj⟩ := R
  obtain ⟨p0, p1, -⟩ := P.1
  have hz : (sz π : Int) = π 0 0 := by unfold sz; omega
  have gg : ∀ (a k : Nat), ¬ ((a = 170 ∧ k ≠ 64) ∨ (a = 201 ∧ k = sz π) ∨ (210 ≤ a ∧ a ≤ 214)) → h'.2.1 a k = h.2.1 a k := fun a k q => fr_g f (fun w => q (hW a k w))
  have pdl := P.2.1 (dp π - 1) (by unfold dp; omega)
  unfold PD at pdl
  obtain ⟨z0, z1, v1, -, -, -⟩ := addM_v (π := π) (K := K) (by omega)
  refine ⟨by rw [z0, g.1], ⟨by rw [z1, g.2.1], by rw [gg _ _ (by omega), addM_o (by omega) (by omega) (by omega) (by omega)]; exact a2⟩, fun e he => ?_, fun j hj' => ?_⟩
  · have he' : (e : Int) < π 0 1 := by rw [z1] at he; split at he <;> omega
    have pd := P.2.1 e he'
    rw [gg _ _ (by omega), gg _ _ (by omega), addM_o (a := 15) (by omega) (by omega) (by omega) (by omega), addM_o (a := 1) (by omega) (Or.inl (by have := pd.1; omega)) (by omega) (by omega)]; exact hd e he'
  · rw [z0] at hj'
    by_cases q : j = sz π
    · rw [q]
      exact ⟨by rw [v1, g.2.2], fun w => by rw [v1] at w; omega, fun w => by rw [v1] at w; omega⟩
    · exact RMj_c (hj j (by omega)) (P.2.2 j (by omega)) (fun a w => addM_o (by omega) (Or.inl q) (by omega) (by omega)) (fun a w => gg _ _ (by omega)) (fun k _ _ => ⟨gg _ _ (by omega), gg _ _ (by omega)⟩)
theorem MKm_addO {π : pm_T} {c x y : Int} {h h' : ah_T} (M : MKm π h) (W : WC π) (g : ∀ a j, 210 ≤ a → a ≤ 214 → j < sz π → h'.2.1 a j = h.2.1 a j) (g2 : c = 91 → h'.2.1 214 (sz π) = 0) : MKm (addP (opn π) c x y) h' := by
  obtain ⟨p0, p1, W2⟩ := W
  obtain ⟨z0, v1, v2, v3, v14⟩ := addP_v (π := opn π) (c := c) (x := x) (y := y)
  obtain ⟨y1, y15, y16⟩ := opn_v (π := π)
  rw [sz_opn] at v1
  rw [opn_o (by omega) (by omega)] at z0
  have o1 : addP (opn π) c x y 0 1 = π 0 1 + 1 := by rw [addP_o (by omega) (by omega), y1]
  refine MKm_add M W2 (by unfold sz; omega) (fun a j ha hj => ?_) g (by unfold dp; omega) (fun d hd => ⟨?_, ?_⟩) (Or.inr ⟨by unfold dp; omega, ?_, ?_, fun w => g2 (by rw [v1] at w; exact w)⟩)
  · rw [addP_o (by omega) (by rw [sz_opn]; omega), opn_o (by omega) (by omega)]
  · rw [addP_o (by omega) (by omega), opn_o (by omega) (by omega)]
  · rw [addP_o (by omega) (by omega), opn_o (by omega) (by omega)]
  · unfold oo; rw [addP_o (by omega) (by omega), y15]; rfl
  · unfold ll; rw [addP_o (by omega) (by omega), y16]; rfl
theorem MKm_addP {π : pm_T} {c x y : Int} {h h' : ah_T} (M : MKm π h) (W : WC π) (hc : c ≠ 91 ∧ c ≠ 123) (g : ∀ a j, 210 ≤ a → a ≤ 214 → j < sz π → h'.2.1 a j = h.2.1 a j) : MKm (addP π c x y) h' := by
  obtain ⟨p0, p1, W2⟩ := W
  have k0 := (addP_v (π := π) (c := c) (x := x) (y := y)).1
  have v1 := (addP_v (π := π) (c := c) (x := x) (y := y)).2.1
  have o1 : addP π c x y 0 1 = π 0 1 := addP_o (by omega) (by omega)
  exact MKm_add M W2 (by unfold sz; omega) (fun a j ha hj => addP_o (by omega) (by omega)) g (by unfold dp; rw [o1]; exact Nat.le_refl _) (fun d hd => ⟨addP_o (by omega) (by omega), addP_o (by omega) (by omega)⟩) (Or.inl ⟨by unfold dp; rw [o1], by rw [v1]; exact hc.1, by rw [v1]; exact hc.2⟩)
theorem addO_0 {π : pm_T} {c x y : Int} : addP (opn π) c x y 0 0 = π 0 0 + 1 := by
  have := (addP_v (π := opn π) (c := c) (x := x) (y := y)).1
  rw [opn_o (by omega) (by omega)] at this
  exact this
/-- between two parts -/
def VEm (X : tx_T) (i : Nat) (μ π : pm_T) (h : ah_T) : Prop := RMs X i μ h ∧ RPm π h ∧ PW π ∧ WC π ∧ MKm π h ∧ π 0 0 + 1 ≤ i
def PEm (X : tx_T) (μ : pm_T) (R : F_T ⊕ (Nat × pm_T)) (z : Int) (h' : ah_T) : Prop := match R with
  | .inl q => z = 0 ∧ h'.2.1 170 11 = q.1 ∧ h'.2.1 170 12 = q.2
  | .inr q => z = 1 ∧ VEm X q.1 μ q.2 h'
abbrev QEm (s : Nat) (X : tx_T) (μ : pm_T) (R : F_T ⊕ (Nat × pm_T)) (h : ah_T) : Option av_T → ah_T → Prop := fun r h' => ∃ z, r = some (av_I z) ∧ hb s h' ∧ fr WVm h h' ∧ (z = 0 ∨ z = 1) ∧ PEm X μ R z h'
theorem t_MD_wantR {G : cx_T} {s : Nat} {h : ah_T} {X : tx_T} {i : Nat} {μ : pm_T} {k : Int} (hb0 : hb s h) (hA : XA X) (H : RMs X i μ h) (hk : isSg k) : con G 3 0 0 m_MD_want [av_R (some 170), av_I k] h (fun r h' => ∃ z, r = some (av_I z) ∧ hb s h' ∧ fr WK h h' ∧ ((tK X.2.2.1 i = k ∧ z = 1 ∧ RMs X (i + 1) μ h') ∨ (¬ tK X.2.2.1 i = k ∧ z = 0 ∧ h'.2.1 170 11 = (cn X.2.2.1 i).1 ∧ h'.2.1 170 12 = (cn X.2.2.1 i).2))) := by
  refine c_MD_want hb0 (fun _ => ?_)
  unfold B_MD_want_0 B_MD_want_19
  refine con_mono (t_MD_isSign hb0 hA H hk) ?_
  rintro r h2 ⟨z3, rfl, hb2, rfl, -, z02⟩
  refine ⟨z3, rfl, hb2, fun c => ?_, fun c => ?_⟩
  · refine con_mono (t_MD_cantk hb2 H) ?_
    rintro r h' ⟨z, rfl, hb3, f3, rfl, q1, q2⟩
    exact ⟨0, rfl, hb3, Or.inl rfl, 0, rfl, hb3, f3, Or.inr ⟨z02.mp c, rfl, q1, q2⟩⟩
  · have e : tK X.2.2.1 i = k := Classical.not_not.mp (fun w => c (z02.mpr w))
    refine con_mono (t_MD_step hb2 hA H (by rw [e]; unfold isSg at hk; unfold gk; omega)) ?_
    rintro r h' ⟨z, rfl, hb3, f3, H3, rfl⟩
    exact ⟨1, rfl, hb3, Or.inr rfl, 1, rfl, hb3, fr_w f3 WM_K, Or.inl ⟨e, rfl, H3⟩⟩
theorem t_MD_timesPart {G : cx_T} {s : Nat} {h : ah_T} {X : tx_T} {i : Nat} {μ π : pm_T} (hb0 : hb s h) (hA : XA X) (H : VEm X i μ π h) (hk : tK X.2.2.1 i = 123) (h6 : π 0 1 ≤ 6) :
    con G 4 0 0 m_MD_timesPart [av_R (some 170)] h (QEm s X μ (sp_times X.2.2.1 i π) h) := by
  obtain ⟨H, R, P, W, M, hpi⟩ := H
  have hi2 := RMs_i hA H
  obtain ⟨p0, p1, -⟩ := P.1
  have hz : (sz π : Int) = π 0 0 := by unfold sz; omega
  have hdp : (dp π : Int) = π 0 1 := by unfold dp; omega
  generalize et : X.2.2.1 = t at *
  have a2 : ∀ {a b : Int} {h1 : ah_T} {R : F_T ⊕ (Nat × pm_T)}, hb s h1 → h1.2.1 170 11 = 0 → fr WVm h h1 → R = .inl (a, b) → con G 0 0 0 m_MD_wrong [av_R (some 170), av_I a, av_I b] h1 (fun r h2 => ∃ z : Int, r = some (av_I z) ∧ hb s h2 ∧ (z = 0 ∨ z = 1) ∧ QEm s X μ R h (some (av_I z)) h2) := by
    intro a b h1 R hb1 h0 f1 e
    refine con_mono (t_MD_wrongk hb1 h0) ?_
    rintro r h' ⟨z, rfl, hb2, f2, rfl, w1, w2⟩
    exact ⟨0, rfl, hb2, Or.inl rfl, 0, rfl, hb2, fr_t f1 f2 WK_V, Or.inl rfl, by rw [e]; exact ⟨rfl, w1, w2⟩⟩
  have a3 : ∀ {j : Nat} {h1 : ah_T} {R : F_T ⊕ (Nat × pm_T)}, hb s h1 → RMs X j μ h1 → fr WVm h h1 → R = .inl (cn t j) → con G 1 0 0 m_MD_cant [av_R (some 170)] h1 (fun r h2 => ∃ z : Int, r = some (av_I z) ∧ hb s h2 ∧ (z = 0 ∨ z = 1) ∧ QEm s X μ R h (some (av_I z)) h2) := by
    intro j h1 R hb1 H1 f1 e
    refine con_mono (t_MD_cantk hb1 H1) ?_
    rintro r h' ⟨z, rfl, hb2, f2, rfl, w1, w2⟩
    rw [et] at w1 w2
    exact ⟨0, rfl, hb2, Or.inl rfl, 0, rfl, hb2, fr_t f1 f2 WK_V, Or.inl rfl, by rw [e]; exact ⟨rfl, w1, w2⟩⟩
  refine c_MD_timesPart hb0 ?_
  unfold B_MD_timesPart_0 B_MD_timesPart_78 B_MD_timesPart_144
  intro x1 e1 _ _ x3 e3 _ _
  have ex1 : x1 = (sz π : Int) := by rw [e1, R.1, hz]
  have ex3 : x3 = (dp π : Int) := by rw [e3, R.2.1.1, hdp]
  subst ex1 ex3
  refine ⟨⟨by omega, by omega⟩, ?_⟩
  rw [tn_c]
  intro h6' e6
  have f6 : fr (fun a k => a = 215 ∧ k = dp π) h h6' := fr_i fr_0 e6 ⟨rfl, rfl⟩
  refine con_mono (t_MD_put (p := sz π) (hb_i hb0 e6) (by rw [fr_g f6 (by omega), R.1, hz]) (by omega)) ?_
  rintro r h8 ⟨rfl, hb8, f8, m1, m2⟩
  refine ⟨rfl, hb8, fun x12 e12 _ _ => ?_⟩
  have ex12 : x12 = (dp π : Int) := by rw [e12, fr_g f8 (by omega), fr_g f6 (by omega), R.2.1.1, hdp]
  subst ex12
  refine ⟨⟨by omega, by omega⟩, ?_⟩
  rw [tn_c]
  intro h14 e14
  refine ⟨⟨by omega, by omega⟩, fun h18 e18 => ?_⟩
  have f18 : fr (fun a k => (a = 170 ∧ k = 43) ∨ (a = 170 ∧ k = 63) ∨ (a = 201 ∧ k = sz π) ∨ ((a = 215 ∨ a = 216) ∧ k = dp π)) h h18 := fr_i (fr_i (fr_t (fr_w f6 (fun a k w => by omega)) f8 (fun a k w => by omega)) e14 (by omega)) e18 (by omega)
  have hb18 := hb_i (hb_i hb8 e14) e18
  have H18 := RMs_V H f18 (fun a k w => by omega)
  refine con_mono (t_MD_step hb18 hA H18 (by rw [et, hk]; exact ⟨by decide, by decide⟩)) ?_
  rintro r h20 ⟨z, rfl, hb20, f20, H20, rfl⟩
  have ff20 : fr (fun a k => (a = 170 ∧ k ≠ 64) ∨ ((a = 201 ∨ a = 202 ∨ a = 203 ∨ a = 214) ∧ k = sz π) ∨ ((a = 215 ∨ a = 216) ∧ k = dp π)) h h20 := fr_t (fr_w f18 (fun a k w => by omega)) f20 (fun a k w => by omega)
  have gV20 : fr WVm h h20 := fr_t (fr_w f18 (fun a k w => by omega)) f20 (fun a k w => by omega)
  have w1 : h20.2.1 170 43 = π 0 0 + 1 := by rw [fr_g f20 (by omega), mm_i e18 (by omega), mm_i e14 (by omega), m2, hz]
  have w2 : h20.2.1 170 63 = π 0 1 + 1 := by rw [fr_g f20 (by omega), mv_i e18, hdp]
  have w3 : h20.2.1 201 (sz π) = mkd 123 := by rw [fr_g f20 (by omega), mm_i e18 (by omega), mm_i e14 (by omega), m1]; rfl
  have w4 : h20.2.1 215 (dp π) = π 0 0 := by rw [fr_g f20 (by omega), mm_i e18 (by omega), mm_i e14 (by omega), fr_g f8 (by omega), mv_i e6, hz]
  have w5 : h20.2.1 216 (dp π) = 5 := by rw [fr_g f20 (by omega), mm_i e18 (by omega), mv_i e14]
  have num : ∀ {j : Nat} {h1 : ah_T} {x : Int}, RMs X j μ h1 → x = h1.2.1 170 4 → (x = 3 ↔ tK t j = 259) := by
    intro j h1 x H1 e; rw [e, H1.1.2.2.2.1, et]; exact ek_3
  have val : ∀ {j : Nat} {h1 : ah_T} {x : Int}, RMs X j μ h1 → tK t j = 259 → x = h1.2.1 170 6 → x = tV' t j := by
    intro j h1 x H1 k e; rw [e]; have := H1.1.2.2.2.2.2.2.1; rw [et] at this; exact this k
  unfold sp_times
  refine ⟨1, rfl, hb20, fun x23 e23 _ _ => ⟨fun c => ?_, fun c => ?_⟩⟩
  · have kn := (num H20 e23).mp c
    have bad : ¬ (1 ≤ tV' t (i + 1) ∧ tV' t (i + 1) ≤ 16) → sp_num t (i + 1) 16 false = .inl (5, tP t (i + 1)) := fun w => by unfold sp_num; rw [if_pos kn, if_neg (fun q => w q.1)]
    intro x24 e24 _ _
    have ev := val H20 kn e24
    refine ⟨fun d x ex _ _ => ?_, fun d => ⟨fun d2 => ⟨⟨by omega, by omega⟩, ?_⟩, fun d2 x ex _ _ => ?_⟩⟩
    · exact a2 (a := 5) (b := x) hb20 H20.2.2 gV20 (by rw [bad (by omega), ex, H20.1.2.2.1, et]; rfl)
    · have en : sp_num t (i + 1) 16 false = .inr x24 := by unfold sp_num; rw [if_pos kn, if_pos ⟨by omega, Or.inl rfl⟩, ev]
      rw [tn_c]
      intro h29 e29
      have H29 := RMs_V H20 (fr_i (W := fun a k => a = 202 ∧ k = sz π) fr_0 e29 ⟨rfl, rfl⟩) (fun a k w => by omega)
      refine con_mono (t_MD_step (hb_i hb20 e29) hA H29 (by rw [et, kn]; exact ⟨by decide, by decide⟩)) ?_
      rintro r h31 ⟨z, rfl, hb31, f31, H31, rfl⟩
      have ff31 := fr_t (fr_i ff20 e29 (by omega)) f31 (fun a k w => by omega)
      have gV31 := fr_t (fr_i gV20 e29 (by omega)) f31 (fun a k w => by omega)
      refine ⟨1, rfl, hb31, ?_⟩
      refine con_mono (t_MD_wantR (k := 47) hb31 hA H31 (by unfold isSg; omega)) ?_
      rintro r h34 ⟨z36, rfl, hb34, f34, q⟩
      rw [et] at q
      have ff34 := fr_t ff31 f34 (fun a k w => by omega)
      have gV34 := fr_t gV31 f34 (fun a k w => by omega)
      rcases q with ⟨k47, rfl, H34⟩ | ⟨k47, rfl, q1, q2⟩
      · refine ⟨1, rfl, hb34, fun d => absurd d (by decide), fun _ x37 e37 _ _ => ⟨fun c2 => ?_, fun c2 => ?_⟩⟩
        · have kn2 : tK t (i + 3) = 259 := (num H34 e37).mp c2
          have bad2 : ¬ (1 ≤ tV' t (i + 3) ∧ tV' t (i + 3) ≤ 16) → sp_num t (i + 3) 16 false = .inl (5, tP t (i + 3)) := fun w => by unfold sp_num; rw [if_pos kn2, if_neg (fun q => w q.1)]
          intro x38 e38 _ _
          have ev2 : x38 = tV' t (i + 3) := val H34 kn2 e38
          refine ⟨fun d x ex _ _ => ?_, fun d => ⟨fun d2 h42 e42 => ?_, fun d2 x ex _ _ => ?_⟩⟩
          · exact a2 (a := 5) (b := x) hb34 H34.2.2 gV34 (by rw [en]; simp only [bnd, sp_take]; rw [if_pos k47, bad2 (by omega), ex, H34.1.2.2.1, et])
          · have en2 : sp_num t (i + 3) 16 false = .inr x38 := by unfold sp_num; rw [if_pos kn2, if_pos ⟨by omega, Or.inl rfl⟩, ev2]
            have H42 := RMs_V H34 (fr_i (W := fun a k => a = 203 ∧ k = sz π) fr_0 e42 ⟨rfl, rfl⟩) (fun a k w => by omega)
            refine con_mono (t_MD_step (hb_i hb34 e42) hA H42 (by rw [et, kn2]; exact ⟨by decide, by decide⟩)) ?_
            rintro r h44 ⟨z, rfl, hb44, f44, H44, rfl⟩
            refine ⟨1, rfl, hb44, ?_⟩
            refine con_mono (t_MD_wantR (k := 58) hb44 hA H44 (by unfold isSg; omega)) ?_
            rintro r h47 ⟨z49, rfl, hb47, f47, q⟩
            rw [et] at q
            have ff47 := fr_t (fr_t (fr_i ff34 e42 (by omega)) f44 (fun a k w => by omega)) f47 (fun a k w => by omega)
            have gV47 := fr_t (fr_t (fr_i gV34 e42 (by omega)) f44 (fun a k w => by omega)) f47 (fun a k w => by omega)
            rcases q with ⟨k58, rfl, H47⟩ | ⟨k58, rfl, q1, q2⟩
            · refine ⟨1, rfl, hb47, Or.inr rfl, 1, rfl, hb47, gV47, Or.inr rfl, ?_⟩
              have es : (bnd (sp_num t (i + 1) 16 false) fun a => bnd (sp_take t (i + 2) 47) fun _ => bnd (sp_num t (i + 3) 16 false) fun b => bnd (sp_take t (i + 4) 58) fun _ => (.inr (i + 5, addP (opn π) 123 a b) : F_T ⊕ (Nat × pm_T))) = .inr (i + 5, addP (opn π) 123 x24 x38) := by
                rw [en]; simp only [bnd, sp_take]; rw [if_pos k47, en2]; simp only; rw [if_pos k58]
              rw [es]
              have u : ∀ a k, a ≠ 170 → a ≠ 203 → h47.2.1 a k = h31.2.1 a k := fun a k q1 q2 => by rw [fr_g f47 (by omega), fr_g f44 (by omega), mm_i e42 (by omega), fr_g f34 (by omega)]
              have uu : ∀ a k, a = 170 → (k = 43 ∨ k = 63) → h47.2.1 a k = h20.2.1 a k := fun a k q1 q2 => by rw [fr_g f47 (by omega), fr_g f44 (by omega), mm_i e42 (by omega), fr_g f34 (by omega), fr_g f31 (by omega), mm_i e29 (by omega)]
              have RR : RPm (addP (opn π) 123 x24 x38) h47 := by
                refine RPm_addO R P (Or.inr rfl) ff47 (fun _ _ w => w) ⟨by rw [uu _ _ rfl (Or.inl rfl)]; exact w1, by rw [uu _ _ rfl (Or.inr rfl)]; exact w2, ?_, fun _ => ⟨?_, ?_⟩, ?_, ?_⟩
                · rw [u _ _ (by decide) (by decide), fr_g f31 (by omega), mm_i e29 (by omega)]; exact w3
                · rw [u _ _ (by decide) (by decide), fr_g f31 (by omega), mv_i e29]
                · rw [fr_g f47 (by omega), fr_g f44 (by omega), mv_i e42]
                · rw [u _ _ (by decide) (by decide), fr_g f31 (by omega), mm_i e29 (by omega)]; exact w4
                · rw [u _ _ (by decide) (by decide), fr_g f31 (by omega), mm_i e29 (by omega)]; exact w5
              have PP : PW (addP (opn π) 123 x24 x38) := PW_addO P h6 (Or.inr ⟨rfl, by omega, by omega⟩)
              have WW' := WC_addO (x := x24) (y := x38) W h6 (Or.inr rfl)
              have MM : MKm (addP (opn π) 123 x24 x38) h47 := MKm_addO M W (fun a j h1 h2 hj => fr_g ff47 (by omega)) (fun w => absurd w (by decide))
              have k0 := addO_0 (π := π) (c := 123) (x := x24) (y := x38)
              exact ⟨rfl, H47, RR, PP, WW', MM, by show addP (opn π) 123 x24 x38 0 0 + 1 ≤ ((i + 5 : Nat) : Int); rw [k0]; omega⟩
            · refine ⟨0, rfl, hb47, Or.inl rfl, 0, rfl, hb47, gV47, Or.inl rfl, ?_⟩
              have es : (bnd (sp_num t (i + 1) 16 false) fun a => bnd (sp_take t (i + 2) 47) fun _ => bnd (sp_num t (i + 3) 16 false) fun b => bnd (sp_take t (i + 4) 58) fun _ => (.inr (i + 5, addP (opn π) 123 a b) : F_T ⊕ (Nat × pm_T))) = .inl (cn t (i + 4)) := by
                rw [en]; simp only [bnd, sp_take]; rw [if_pos k47, en2]; simp only; rw [if_neg k58]
              rw [es]
              exact ⟨rfl, q1, q2⟩
          · exact a2 (a := 5) (b := x) hb34 H34.2.2 gV34 (by rw [en]; simp only [bnd, sp_take]; rw [if_pos k47, bad2 (by omega), ex, H34.1.2.2.1, et])
        · refine a3 (j := i + 1 + 1 + 1) hb34 H34 gV34 ?_
          have bad3 : sp_num t (i + 3) 16 false = .inl (cn t (i + 3)) := by unfold sp_num; rw [if_neg (fun w => c2 ((num H34 e37).mpr w))]
          rw [en]; simp only [bnd, sp_take]; rw [if_pos k47, bad3]
      · refine ⟨0, rfl, hb34, fun _ => ⟨0, rfl, hb34, gV34, Or.inl rfl, ?_⟩, fun d => absurd rfl d⟩
        have es : (bnd (sp_num t (i + 1) 16 false) fun a => bnd (sp_take t (i + 2) 47) fun _ => bnd (sp_num t (i + 3) 16 false) fun b => bnd (sp_take t (i + 4) 58) fun _ => (.inr (i + 5, addP (opn π) 123 a b) : F_T ⊕ (Nat × pm_T))) = .inl (cn t (i + 2)) := by
          rw [en]; simp only [bnd, sp_take]; rw [if_neg k47]
        rw [es]
        exact ⟨rfl, q1, q2⟩
    · exact a2 (a := 5) (b := x) hb20 H20.2.2 gV20 (by rw [bad (by omega), ex, H20.1.2.2.1, et]; rfl)
  · refine a3 (j := i + 1) hb20 H20 gV20 ?_
    unfold sp_num
    rw [if_neg (fun w => c ((num H20 e23).mpr w))]; rfl

/-! ===== the reference: a part of a voice, 2 ===== -/
theorem QSm_E {s : Nat} {X : tx_T} {i : Nat} {μ π : pm_T} {h h' : ah_T} {z : Int} (H : VEm X i μ π h) (f : fr WSm h h') (p : PVm X μ (sp_event X.2.2.1 i π) z h') : PEm X μ (sp_event X.2.2.1 i π) z h' := by
  obtain ⟨-, R, P, W, M, hpi⟩ := H
  have p0 := P.1.1
  rcases e : sp_event X.2.2.1 i π with q | q
  · rw [e] at p; exact p
  · rw [e] at p
    obtain ⟨rfl, H', R', P'⟩ := p
    rw [sp_event_e] at e
    obtain ⟨a, ea, e⟩ := bnd_r e
    obtain ⟨n, -, e⟩ := bnd_r e
    obtain ⟨d, ed, e⟩ := bnd_r e
    have s1 := sp_sound_s ea
    have s0 := sp_sound_ok ea
    have hd := sp_dots_i _ _ _ _ ed
    have key : ∀ w : Int, WC (addE a.2 n d.2 w) ∧ MKm (addE a.2 n d.2 w) h' ∧ addE a.2 n d.2 w 0 0 = π 0 0 + 1 := by
      intro w
      have ez : sz a.2 = sz π := by unfold sz; rw [s0.2]
      obtain ⟨v1, -⟩ := addE_v (π := a.2) (n := n) (d := d.2) (w := w)
      rw [ez] at v1
      have k0 := (addE_0 (π := a.2) (n := n) (d := d.2) (w := w)).1
      have o : ∀ c k, (c = 0 ∧ k = 1) ∨ ((c = 1 ∨ c = 14) ∧ k ≠ sz π) ∨ c = 15 ∨ c = 16 → addE a.2 n d.2 w c k = π c k := fun c k q => by
        rw [addE_o (by omega) (by rw [ez]; omega)]; exact s1 _ _ (by omega)
      refine ⟨WC_addE W s1, MKm_add M W.2.2 (by unfold sz; omega) (fun c j hc hj => o c j (by omega)) (fun c j h1 h2 _ => fr_g f (by omega)) (by unfold dp; rw [o 0 1 (by omega)]; exact Nat.le_refl _) (fun e he => ⟨o 15 e (by omega), o 16 e (by omega)⟩) (Or.inl ⟨by unfold dp; rw [o 0 1 (by omega)], by rw [v1]; decide, by rw [v1]; decide⟩), by rw [k0, s0.2]⟩
    unfold sp_tie at e
    split at e
    · split at e
      · cases e
      · cases e
        obtain ⟨k1, k2, k3⟩ := key 1
        exact ⟨rfl, H', R', P', k1, k2, by show addE a.2 n d.2 1 0 0 + 1 ≤ ((d.1 + 1 : Nat) : Int); rw [k3]; omega⟩
    · cases e
      obtain ⟨k1, k2, k3⟩ := key 0
      exact ⟨rfl, H', R', P', k1, k2, by show addE a.2 n d.2 0 0 0 + 1 ≤ ((d.1 : Nat) : Int); rw [k3]; omega⟩
theorem t_MD_voicePart {G : cx_T} {s : Nat} {h : ah_T} {X : tx_T} {i : Nat} {μ π : pm_T} (hb0 : hb s h) (hA : XA X) (H : VEm X i μ π h) :
    con G 5 0 0 m_MD_voicePart [av_R (some 170)] h (QEm s X μ (sp_part X.2.2.1 i π) h) := by
  have HH := H
  obtain ⟨H, R, P, W, M, hpi⟩ := H
  have hi2 := RMs_i hA H
  obtain ⟨p0, p1, -⟩ := P.1
  have hz : (sz π : Int) = π 0 0 := by unfold sz; omega
  have hdp : (dp π : Int) = π 0 1 := by unfold dp; omega
  generalize et : X.2.2.1 = t at *
  have a2 : ∀ {a b : Int} {R : F_T ⊕ (Nat × pm_T)}, R = .inl (a, b) → con G 0 0 0 m_MD_wrong [av_R (some 170), av_I a, av_I b] h (fun r h2 => ∃ z : Int, r = some (av_I z) ∧ hb s h2 ∧ (z = 0 ∨ z = 1) ∧ QEm s X μ R h (some (av_I z)) h2) := by
    intro a b R e
    refine con_mono (t_MD_wrongk hb0 H.2.2) ?_
    rintro r h' ⟨z, rfl, hb2, f2, rfl, w1, w2⟩
    exact ⟨0, rfl, hb2, Or.inl rfl, 0, rfl, hb2, fr_w f2 WK_V, Or.inl rfl, by rw [e]; exact ⟨rfl, w1, w2⟩⟩
  have isS : ∀ {k : Int}, isSg k → con G 0 0 0 m_MD_isSign [av_R (some 170), av_I k] h (fun r h' => ∃ z, r = some (av_I z) ∧ hb s h' ∧ h' = h ∧ (z = 0 ∨ z = 1) ∧ (z = 0 ↔ ¬ tK t i = k)) := by
    intro k hk
    have := t_MD_isSign (G := G) hb0 hA H hk
    rw [et] at this; exact this
  have e1' : h.2.1 170 5 = tP t i := by rw [H.1.2.2.1, et]
  -- no mark
  have k207 : ¬ mkb π (tK t i) = true → B_MD_voicePart_207 G s h (QEm s X μ (sp_part t i π) h) := by
    intro nm
    have es : sp_part t i π = if tK t i = 258 ∨ tK t i = 266 ∨ tK t i = 60 then (if π 0 1 ≤ 6 then sp_event t i π else .inl (3, tP t i)) else if tK t i = 124 then (if π 0 1 ≤ 6 then .inr (i + 1, addP π 124 0 0) else .inl (3, tP t i)) else if tK t i = 91 then (if π 0 1 ≤ 6 then .inr (i + 1, addP (opn π) 91 0 0) else .inl (3, tP t i)) else if tK t i = 123 then (if π 0 1 ≤ 6 then sp_times t i π else .inl (3, tP t i)) else .inl (cn t i) := by
      unfold sp_part; rw [if_neg nm]
    generalize sp_part t i π = RR at es ⊢
    have k264 : (tK t i = 258 ∨ tK t i = 266 ∨ tK t i = 60 ∨ tK t i = 124 ∨ tK t i = 91 ∨ tK t i = 123) → B_MD_voicePart_264 G s 1 h (QEm s X μ RR h) := by
      intro hbg
      unfold B_MD_voicePart_264
      refine ⟨fun d => absurd d (by decide), fun _ x1 y1 _ _ => ⟨fun c6 => ?_, fun c6 x49 e49 _ _ => ?_⟩⟩
      · have d6 : π 0 1 ≤ 6 := by have := y1.trans R.2.1.1; omega
        refine con_mono (isS (k := 124) (by unfold isSg; omega)) ?_
        rintro r h2 ⟨z4, rfl, hb2, rfl, -, z02⟩
        refine ⟨z4, rfl, hb2, fun c => ?_, fun c => ?_⟩
        · have n124 := z02.mp c
          refine con_mono (isS (k := 91) (by unfold isSg; omega)) ?_
          rintro r h5 ⟨z7, rfl, hb5, rfl, -, z03⟩
          refine ⟨z7, rfl, hb5, fun c2 => ?_, fun c2 => ?_⟩
          · have n91 := z03.mp c2
            refine con_mono (isS (k := 123) (by unfold isSg; omega)) ?_
            rintro r h8 ⟨z10, rfl, hb8, rfl, -, z04⟩
            refine ⟨z10, rfl, hb8, fun c3 => ?_, fun c3 => ?_⟩
            · have n123 := z04.mp c3
              have hk3 : tK t i = 258 ∨ tK t i = 266 ∨ tK t i = 60 := by omega
              rw [if_pos hk3, if_pos d6] at es
              refine con_mono (t_MD_soundPart hb8 hA H R P (by omega) (by rw [et]; exact hk3)) ?_
              rintro r h11 ⟨z, rfl, hb11, f11, z01, p⟩
              refine ⟨z, rfl, hb11, z01, z, rfl, hb11, fr_w f11 (fun a k w => by omega), z01, ?_⟩
              have q := QSm_E (s := s) HH f11 p
              rw [et, ← es] at q; exact q
            · have y123 : tK t i = 123 := Classical.not_not.mp (fun w => c3 (z04.mpr w))
              rw [if_neg (by omega), if_neg n124, if_neg n91, if_pos y123, if_pos d6] at es
              refine con_mono (t_MD_timesPart hb8 hA HH (by rw [et]; exact y123) d6) ?_
              rintro r h14 ⟨z, rfl, hb14, f14, z01, p⟩
              rw [et, ← es] at p
              exact ⟨z, rfl, hb14, z01, z, rfl, hb14, f14, z01, p⟩
          · have y91 : tK t i = 91 := Classical.not_not.mp (fun w => c2 (z03.mpr w))
            rw [if_neg (by omega), if_neg n124, if_pos y91, if_pos d6] at es
            intro x18 e18 _ _ x19 e19 _ _
            have ex18 : x18 = (dp π : Int) := by rw [e18, R.2.1.1, hdp]
            have ex19 : x19 = (sz π : Int) := by rw [e19, R.1, hz]
            subst ex18 ex19
            refine ⟨⟨by omega, by omega⟩, ?_⟩
            rw [tn_c]
            intro h21 e21
            refine ⟨⟨by omega, by omega⟩, ?_⟩
            rw [tn_c]
            intro h26 e26
            have f26 : fr (fun a k => (a = 215 ∧ k = dp π) ∨ (a = 214 ∧ k = sz π)) h5 h26 := fr_i (fr_i fr_0 e21 (by omega)) e26 (by omega)
            refine con_mono (t_MD_put (p := sz π) (hb_i (hb_i hb5 e21) e26) (by rw [fr_g f26 (by omega), R.1, hz]) (by omega)) ?_
            rintro r h28 ⟨rfl, hb28, f28, m1, m2⟩
            refine ⟨rfl, hb28, fun x32 e32 _ _ => ?_⟩
            have ex32 : x32 = (dp π : Int) := by rw [e32, fr_g f28 (by omega), fr_g f26 (by omega), R.2.1.1, hdp]
            subst ex32
            refine ⟨⟨by omega, by omega⟩, ?_⟩
            rw [tn_c]
            intro h34 e34
            refine ⟨⟨by omega, by omega⟩, fun h38 e38 => ?_⟩
            have f38 : fr (fun a k => (a = 170 ∧ (k = 43 ∨ k = 63)) ∨ ((a = 201 ∨ a = 214) ∧ k = sz π) ∨ ((a = 215 ∨ a = 216) ∧ k = dp π)) h5 h38 := fr_i (fr_i (fr_t (fr_w f26 (fun a k w => by omega)) f28 (fun a k w => by omega)) e34 (by omega)) e38 (by omega)
            have hb38 := hb_i (hb_i hb28 e34) e38
            have H38 := RMs_V H f38 (fun a k w => by omega)
            refine con_mono (t_MD_step hb38 hA H38 (by rw [et, y91]; exact ⟨by decide, by decide⟩)) ?_
            rintro r h40 ⟨z, rfl, hb40, f40, H40, rfl⟩
            have ff : fr (fun a k => (a = 170 ∧ k ≠ 64) ∨ ((a = 201 ∨ a = 202 ∨ a = 203 ∨ a = 214) ∧ k = sz π) ∨ ((a = 215 ∨ a = 216) ∧ k = dp π)) h5 h40 := fr_t (fr_w f38 (fun a k w => by omega)) f40 (fun a k w => by omega)
            have gV : fr WVm h5 h40 := fr_t (fr_w f38 (fun a k w => by omega)) f40 (fun a k w => by omega)
            refine ⟨1, rfl, hb40, Or.inr rfl, 1, rfl, hb40, gV, Or.inr rfl, ?_⟩
            rw [es]
            have WW' := WC_addO (x := 0) (y := 0) W d6 (Or.inl rfl)
            have k0 := addO_0 (π := π) (c := 91) (x := 0) (y := 0)
            have MM : MKm (addP (opn π) 91 0 0) h40 := MKm_addO M W (fun a j h1 h2 hj => fr_g ff (by omega)) (fun _ => by rw [fr_g f40 (by omega), mm_i e38 (by omega), mm_i e34 (by omega), fr_g f28 (by omega), mv_i e26])
            refine ⟨rfl, H40, RPm_addO R P (Or.inl rfl) ff (fun _ _ w => w) ⟨?_, ?_, ?_, fun w => absurd w (by decide), ?_, ?_⟩, PW_addO P d6 (Or.inl rfl), WW', MM, by show addP (opn π) 91 0 0 0 0 + 1 ≤ ((i + 1 : Nat) : Int); rw [k0]; omega⟩
            · rw [fr_g f40 (by omega), mm_i e38 (by omega), mm_i e34 (by omega), m2, hz]
            · rw [fr_g f40 (by omega), mv_i e38, hdp]
            · rw [fr_g f40 (by omega), mm_i e38 (by omega), mm_i e34 (by omega), m1]; rfl
            · rw [fr_g f40 (by omega), mm_i e38 (by omega), mm_i e34 (by omega), fr_g f28 (by omega), mm_i e26 (by omega), mv_i e21, hz]
            · rw [fr_g f40 (by omega), mm_i e38 (by omega), mv_i e34]; rfl
        · have y124 : tK t i = 124 := Classical.not_not.mp (fun w => c (z02.mpr w))
          rw [if_neg (by omega), if_pos y124, if_pos d6] at es
          refine con_mono (t_MD_put (p := sz π) hb2 (by rw [R.1, hz]) (by omega)) ?_
          rintro r h43 ⟨rfl, hb43, f43, m1, m2⟩
          refine ⟨rfl, hb43, ?_⟩
          have H43 := RMs_V H f43 (fun a k w => by omega)
          refine con_mono (t_MD_step hb43 hA H43 (by rw [et, y124]; exact ⟨by decide, by decide⟩)) ?_
          rintro r h46 ⟨z, rfl, hb46, f46, H46, rfl⟩
          have ff : fr (fun a k => (a = 170 ∧ k ≠ 63 ∧ k ≠ 64) ∨ (a = 201 ∧ k = sz π)) h2 h46 := fr_t (fr_w f43 (fun a k w => by omega)) f46 (fun a k w => by omega)
          have gV : fr WVm h2 h46 := fr_t (fr_w f43 (fun a k w => by omega)) f46 (fun a k w => by omega)
          refine ⟨1, rfl, hb46, Or.inr rfl, 1, rfl, hb46, gV, Or.inr rfl, ?_⟩
          rw [es]
          have k0 := (addP_v (π := π) (c := 124) (x := 0) (y := 0)).1
          have MM : MKm (addP π 124 0 0) h46 := MKm_addP M W ⟨by decide, by decide⟩ (fun a j h1 h2 hj => fr_g ff (by omega))
          refine ⟨rfl, H46, RPm_addP R P ⟨by decide, by decide⟩ ff (fun _ _ w => w) ⟨?_, ?_⟩, PW_addP P ⟨by decide, by decide⟩, WC_addL W, MM, by show addP π 124 0 0 0 0 + 1 ≤ ((i + 1 : Nat) : Int); rw [k0]; omega⟩
          · rw [fr_g f46 (by omega), m2, hz]
          · rw [fr_g f46 (by omega), m1]; rfl
      · have d6 : ¬ π 0 1 ≤ 6 := by have := y1.trans R.2.1.1; omega
        rw [if_neg d6, if_neg d6, if_neg d6, if_neg d6] at es
        refine a2 (a := 3) (b := x49) ?_
        rw [es, e49, e1']
        rcases hbg with w | w | w | w | w | w
        · rw [if_pos (Or.inl w)]
        · rw [if_pos (Or.inr (Or.inl w))]
        · rw [if_pos (Or.inr (Or.inr w))]
        · rw [if_neg (by omega), if_pos w]
        · rw [if_neg (by omega), if_neg (by omega), if_pos w]
        · rw [if_neg (by omega), if_neg (by omega), if_neg (by omega), if_pos w]
    unfold B_MD_voicePart_207 B_MD_voicePart_259
    intro x1 y1 _ _
    have k1 : x1 = 1 ↔ tK t i = 258 := by rw [y1, H.1.2.2.2.1, et]; exact ek_1
    refine ⟨fun c => k264 (Or.inl (k1.mp c)), fun c => ?_⟩
    have n258 : ¬ tK t i = 258 := fun w => c (k1.mpr w)
    refine con_mono (t_MD_isWord hb0 H (k := 5) (by omega)) ?_
    rintro r h2 ⟨z4, rfl, hb2, rfl, -, z02⟩
    rw [et] at z02
    refine ⟨z4, rfl, hb2, fun c => ?_, fun c => k264 (Or.inr (Or.inl (by have := Classical.not_not.mp (fun w => c (z02.mpr w)); omega)))⟩
    have n266 : ¬ tK t i = 266 := by have := z02.mp c; omega
    refine con_mono (isS (k := 60) (by unfold isSg; omega)) ?_
    rintro r h5 ⟨z7, rfl, hb5, rfl, -, z03⟩
    refine ⟨z7, rfl, hb5, fun c => ?_, fun c => k264 (Or.inr (Or.inr (Or.inl (Classical.not_not.mp (fun w => c (z03.mpr w))))))⟩
    have n60 := z03.mp c
    refine con_mono (isS (k := 124) (by unfold isSg; omega)) ?_
    rintro r h8 ⟨z10, rfl, hb8, rfl, -, z04⟩
    refine ⟨z10, rfl, hb8, fun c => ?_, fun c => k264 (Or.inr (Or.inr (Or.inr (Or.inl (Classical.not_not.mp (fun w => c (z04.mpr w)))))))⟩
    have n124 := z04.mp c
    refine con_mono (isS (k := 91) (by unfold isSg; omega)) ?_
    rintro r h11 ⟨z13, rfl, hb11, rfl, -, z05⟩
    refine ⟨z13, rfl, hb11, fun c => ?_, fun c => k264 (Or.inr (Or.inr (Or.inr (Or.inr (Or.inl (Classical.not_not.mp (fun w => c (z05.mpr w))))))))⟩
    have n91 := z05.mp c
    refine con_mono (isS (k := 123) (by unfold isSg; omega)) ?_
    rintro r h14 ⟨z16, rfl, hb14, rfl, -, z06⟩
    refine ⟨z16, rfl, hb14, fun c => ?_, fun c => k264 (Or.inr (Or.inr (Or.inr (Or.inr (Or.inr (Classical.not_not.mp (fun w => c (z06.mpr w))))))))⟩
    have n123 := z06.mp c
    rw [if_neg (by omega), if_neg n124, if_neg n91, if_neg n123] at es
    unfold B_MD_voicePart_264
    refine ⟨fun _ => ?_, fun d => absurd rfl d⟩
    refine con_mono (t_MD_cantk hb14 H) ?_
    rintro r h' ⟨z, rfl, hb3, f3, rfl, q1, q2⟩
    rw [et] at q1 q2
    exact ⟨0, rfl, hb3, Or.inl rfl, 0, rfl, hb3, fr_w f3 WK_V, Or.inl rfl, by rw [es]; exact ⟨rfl, q1, q2⟩⟩
  refine c_MD_voicePart hb0 ?_
  unfold B_MD_voicePart_0
  intro x1 y1 _ _
  have ex1 : x1 = π 0 1 := y1.trans R.2.1.1
  refine ⟨fun c => k207 (fun w => by
    unfold mkb at w
    simp only [Bool.and_eq_true, decide_eq_true_eq] at w
    omega), fun c => ⟨⟨by omega, by omega⟩, ⟨by omega, by omega⟩, ?_⟩⟩
  obtain ⟨D, eD⟩ : ∃ D : Nat, π 0 1 = (D : Int) + 1 := ⟨(π 0 1 - 1).toNat, by omega⟩
  have eDp : dp π = D + 1 := by unfold dp; omega
  have eDt : (x1 - 1).toNat = D := by omega
  rw [eDt]
  intro x5 e5 _ _
  obtain ⟨r15, r16⟩ := R.2.2.1 D (by omega)
  have WD := W.2.2.1 D (by omega)
  have pdl := P.2.1 D (by omega)
  unfold PD at pdl
  have eoo : oo π D = (π 15 D).toNat := rfl
  have etop : top π = oo π D := by unfold top oo; rw [eDp]; rfl
  have hoz : (π 15 D).toNat < sz π := by omega
  have l1 : ll π (dp π - 1) = ll π D := by rw [eDp]; rfl
  have hlz : ll π D < sz π := WD.1.2
  have hK5 : (x5 = 2 ↔ π 1 (oo π D) = 91) := by
    rw [e5, r16, ← eoo]
    split
    · rename_i q; exact ⟨fun _ => q, fun _ => rfl⟩
    · rename_i q; exact ⟨fun w => absurd w (by decide), fun w => absurd w q⟩
  have kd : π 1 (oo π D) = 91 ∨ π 1 (oo π D) = 123 := by rcases WD.2.2.2 with w | w; exact Or.inl w.1; exact Or.inr w.1
  -- the memory with a mark more
  have mfacts : ∀ K : Int, mkb π K = true → (K = 58 ∨ K = 93 ∨ K = 125) → sp_part t i π = .inr (i + 1, addM π (tK t i)) ∨ K ≠ tK t i := by
    intro K hm hK
    by_cases q : K = tK t i
    · left; unfold sp_part; rw [if_pos (by rw [← q]; exact hm)]
    · exact Or.inr q
  -- a mark but :
  have k132 : ∀ (v t1 : Int), ((v = 1 ∧ π 1 (oo π D) = 91 ∧ t1 = 93) ∨ (v = 0 ∧ π 1 (oo π D) = 123 ∧ t1 = 125)) → (π 1 (oo π D) = 91 → tK t i ≠ 58) → B_MD_voicePart_132 G s v t1 h (QEm s X μ (sp_part t i π) h) := by
    intro v t1 hv n58
    unfold B_MD_voicePart_132
    refine con_mono (isS (k := t1) (by unfold isSg; omega)) ?_
    rintro r h1 ⟨z3, rfl, hb1, rfl, -, z02⟩
    refine ⟨z3, rfl, hb1, fun c3 => ?_, fun c3 => ?_⟩
    · refine k207 (fun w => ?_)
      have nt := z02.mp c3
      by_cases hK : tK t i = 58 ∨ tK t i = 93 ∨ tK t i = 125
      · have := (mkb_t hK).mp w
        rw [etop] at this
        rcases hv with ⟨-, u2, u3⟩ | ⟨-, u2, u3⟩
        · have := n58 u2
          rcases hK with k | k | k
          · exact this k
          · omega
          · rw [if_pos k] at *; omega
        · rcases hK with k | k | k
          · rw [if_neg (by omega)] at this; omega
          · rw [if_neg (by omega)] at this; omega
          · omega
      · exact mkb_f hK w
    · have yt : tK t i = t1 := Classical.not_not.mp (fun w => c3 (z02.mpr w))
      have hK : tK t i = 58 ∨ tK t i = 93 ∨ tK t i = 125 := by omega
      have hm : mkb π (tK t i) = true := by
        rw [mkb_t hK, etop]
        refine ⟨by omega, ?_⟩
        split <;> omega
      have nK58 : ¬ tK t i = 58 := by omega
      have es : sp_part t i π = .inr (i + 1, addM π (tK t i)) := by unfold sp_part; rw [if_pos hm]
      intro x5' e5' _ _ x7 e7 _ _
      have ex5 : x5' = (sz π : Int) := by rw [e5', R.1, hz]
      have ex7 : x7 = π 0 1 := e7.trans R.2.1.1
      subst ex5
      refine ⟨⟨by omega, by omega⟩, ⟨by omega, by omega⟩, ?_⟩
      have : (x7 - 1).toNat = D := by omega
      rw [this]
      intro x9 e9 _ _
      have ex9 : x9 = ((oo π D : Nat) : Int) := by rw [e9, r15, eoo]; omega
      subst ex9
      refine ⟨⟨by omega, by omega⟩, ?_⟩
      rw [tn_c]
      intro h12 e12
      refine ⟨⟨by omega, by omega⟩, ?_⟩
      rw [tn_c]
      intro h20 e20
      have f20 : fr (fun a k => a = 210 ∧ (k = sz π ∨ k = oo π D)) h1 h20 := fr_i (fr_i fr_0 e12 (by omega)) e20 (by omega)
      have hb20 := hb_i (hb_i hb1 e12) e20
      have fin : ∀ t2 : Int, t2 = mkd (tK t i) → B_MD_voicePart_189 G s t2 h20 (QEm s X μ (sp_part t i π) h1) := by
        intro t2 et2
        unfold B_MD_voicePart_189
        refine con_mono (t_MD_put (p := sz π) hb20 (by rw [fr_g f20 (by omega), R.1, hz]) (by omega)) ?_
        rintro r h2 ⟨rfl, hb2, f2, m1, m2⟩
        refine ⟨rfl, hb2, fun x4 e4 _ _ => ?_⟩
        have ex4 : x4 = π 0 1 := by rw [e4, fr_g f2 (by omega), fr_g f20 (by omega)]; exact R.2.1.1
        refine ⟨⟨by omega, by omega⟩, fun h6 e6 => ?_⟩
        have f6 : fr (fun a k => (a = 210 ∧ (k = sz π ∨ k = oo π D)) ∨ (a = 201 ∧ k = sz π) ∨ (a = 170 ∧ (k = 43 ∨ k = 63))) h1 h6 := fr_i (fr_t (fr_w f20 (fun a k w => by omega)) f2 (fun a k w => by omega)) e6 (by omega)
        have H6 := RMs_V H f6 (fun a k w => by omega)
        refine con_mono (t_MD_step (hb_i hb2 e6) hA H6 (by rw [et]; unfold gk; omega)) ?_
        rintro r h8 ⟨z, rfl, hb8, f8, H8, rfl⟩
        have ff : fr (fun a k => (a = 170 ∧ k ≠ 64) ∨ (a = 201 ∧ k = sz π) ∨ (a = 210 ∧ (k = sz π ∨ k = oo π D))) h1 h8 := fr_t (fr_w f6 (fun a k w => by omega)) f8 (fun a k w => by omega)
        have gV : fr WVm h1 h8 := fr_t (fr_w f6 (fun a k w => by omega)) f8 (fun a k w => by omega)
        refine ⟨1, rfl, hb8, Or.inr rfl, 1, rfl, hb8, gV, Or.inr rfl, ?_⟩
        rw [es]
        obtain ⟨z0, z1, v1, v14, l14, l16⟩ := addM_v (π := π) (K := tK t i) (by rw [eDp]; show (π 16 D).toNat ≠ sz π; omega)
        rw [if_neg nK58] at z1
        rw [eDp] at l14 l16
        have l14' : addM π (tK t i) 14 (ll π D) = π 0 0 := l14
        have MM : MKm (addM π (tK t i)) h8 := by
          refine MKm_end (π' := addM π (tK t i)) (D := D) M W.2.2 eDp (by unfold sz; omega) (by unfold dp; omega) (fun j hj => addM_o (by omega) (by omega) (by omega) (by omega)) (fun j hj hj2 => addM_o (by omega) (by omega) (by rw [eDp]; show ¬ (14 = 14 ∧ j = ll π D); omega) (by omega)) (by unfold lk; rw [l14']; rfl) (fun d hd => addM_o (by omega) (by omega) (by omega) (by omega)) (fun d hd => addM_o (by omega) (by omega) (by omega) (by rw [eDp]; omega)) ?_ ⟨?_, ?_⟩ (fun j h1 h2 => fr_g ff (by omega)) (fun a j h1 h2 => fr_g ff (by omega))
          · rw [v1]; rcases hv with ⟨-, u2, u3⟩ | ⟨-, u2, u3⟩
            · exact Or.inl ⟨yt.trans u3, u2⟩
            · exact Or.inr ⟨yt.trans u3, u2⟩
          · rw [fr_g f8 (by omega), mm_i e6 (by omega), fr_g f2 (by omega), mm_i e20 (by omega), mv_i e12]
          · rw [fr_g f8 (by omega), mm_i e6 (by omega), fr_g f2 (by omega), mv_i e20]
        refine ⟨rfl, H8, RPm_addM R P (by omega) hK ff (fun a k w => by omega) ⟨?_, ?_, ?_⟩, PW_addM P (by omega) hK, WC_addM W hm, MM, by show addM π (tK t i) 0 0 + 1 ≤ ((i + 1 : Nat) : Int); rw [z0]; omega⟩
        · rw [fr_g f8 (by omega), mm_i e6 (by omega), m2, hz]
        · rw [if_neg nK58, fr_g f8 (by omega), mv_i e6, ex4]
        · rw [fr_g f8 (by omega), mm_i e6 (by omega), m1, et2]
      refine ⟨fun c0 => fin 6 ?_, fun c0 => fin 4 ?_⟩
      · rcases hv with ⟨u, -, -⟩ | ⟨-, -, u⟩
        · omega
        · rw [yt, u]; rfl
      · rcases hv with ⟨-, -, u⟩ | ⟨u, -, -⟩
        · rw [yt, u]; rfl
        · exact absurd u c0
  unfold B_MD_voicePart_27 B_MD_voicePart_120
  refine ⟨fun c2 => ⟨fun d => absurd d (by decide), fun _ => ?_⟩, fun c2 => ⟨fun _ => ⟨fun _ => ?_, fun d => absurd rfl d⟩, fun d => absurd rfl d⟩⟩
  · have k91 := hK5.mp c2
    refine con_mono (isS (k := 58) (by unfold isSg; omega)) ?_
    rintro r h1 ⟨z3, rfl, hb1, rfl, -, z02⟩
    refine ⟨z3, rfl, hb1, fun c3 => ⟨fun d => absurd d (by decide), fun _ => k132 1 93 (Or.inl ⟨rfl, k91, rfl⟩) (fun _ => z02.mp c3)⟩, fun c3 => ?_⟩
    have y58 : tK t i = 58 := Classical.not_not.mp (fun w => c3 (z02.mpr w))
    have hm : mkb π (tK t i) = true := by
      rw [mkb_t (Or.inl y58), etop, if_neg (by omega)]
      exact ⟨by omega, k91⟩
    have es : sp_part t i π = .inr (i + 1, addM π (tK t i)) := by unfold sp_part; rw [if_pos hm]
    rw [y58] at es
    obtain ⟨ow, M1, M2⟩ := id M
    obtain ⟨C, Hc, hC⟩ := M1 D (by omega) k91
    have hCn := MKc_n Hc C (Nat.le_refl _)
    intro x5' e5' _ _
    have ex5 : x5' = π 0 1 := e5'.trans R.2.1.1
    refine ⟨⟨by omega, by omega⟩, ⟨by omega, by omega⟩, ?_⟩
    have : (x5' - 1).toNat = D := by omega
    rw [this]
    intro x7 e7 _ _
    have ex7 : x7 = ((oo π D : Nat) : Int) := by rw [e7, r15, eoo]; omega
    subst ex7
    refine ⟨⟨by omega, by omega⟩, ?_⟩
    rw [tn_c]
    intro x10 e10 _ _
    have ex10 : x10 = (C : Int) := e10.trans Hc.1
    subst ex10
    have fin : ∀ h2 : ah_T, hb s h2 → fr (fun a k => 211 ≤ a ∧ a ≤ 212) h1 h2 → (h1.2.1 214 (oo π D) = 0 → h2.2.1 211 (oo π D) = (sz π : Int) ∧ ∀ j, h2.2.1 212 j = h1.2.1 212 j) → (h1.2.1 214 (oo π D) ≠ 0 → h2.2.1 211 (oo π D) = h1.2.1 211 (oo π D) ∧ h2.2.1 212 (h1.2.1 213 (oo π D)).toNat = (sz π : Int) ∧ ∀ j, j ≠ (h1.2.1 213 (oo π D)).toNat → h2.2.1 212 j = h1.2.1 212 j) → (∀ j, j ≠ oo π D → h2.2.1 211 j = h1.2.1 211 j) → B_MD_voicePart_90 G s ((oo π D : Nat) : Int) h2 (QEm s X μ (sp_part t i π) h1) := by
      intro h2 hb2 f2 g2 g3 g4
      unfold B_MD_voicePart_90
      intro x2 e2 _ _
      have ex2 : x2 = (sz π : Int) := by rw [e2, fr_g f2 (by omega), R.1, hz]
      subst ex2
      refine ⟨⟨by omega, by omega⟩, ?_⟩
      rw [tn_c]
      intro h4 e4 x7 e7 _ _
      have ex7 : x7 = (C : Int) := by rw [e7, mm_i e4 (by omega), fr_g f2 (by omega)]; exact Hc.1
      refine ⟨⟨by omega, by omega⟩, fun h9 e9 => ?_⟩
      have f9 : fr (fun a k => (211 ≤ a ∧ a ≤ 212) ∨ ((a = 213 ∨ a = 214) ∧ k = oo π D)) h1 h9 := fr_i (fr_i (fr_w f2 (fun a k w => by omega)) e4 (by omega)) e9 (by omega)
      have hb9 := hb_i (hb_i hb2 e4) e9
      refine con_mono (t_MD_put (p := sz π) hb9 (by rw [fr_g f9 (by omega), R.1, hz]) (by omega)) ?_
      rintro r h11 ⟨rfl, hb11, f11, m1, m2⟩
      refine ⟨rfl, hb11, ?_⟩
      have f11' : fr (fun a k => (211 ≤ a ∧ a ≤ 212) ∨ ((a = 213 ∨ a = 214) ∧ k = oo π D) ∨ (a = 201 ∧ k = sz π) ∨ (a = 170 ∧ k = 43)) h1 h11 := fr_t (fr_w f9 (fun a k w => by omega)) f11 (fun a k w => by omega)
      have H11 := RMs_V H f11' (fun a k w => by omega)
      refine con_mono (t_MD_step hb11 hA H11 (by rw [et, y58]; exact ⟨by decide, by decide⟩)) ?_
      rintro r h14 ⟨z, rfl, hb14, f14, H14, rfl⟩
      have ff : fr (fun a k => (a = 170 ∧ k ≠ 63 ∧ k ≠ 64) ∨ (a = 201 ∧ k = sz π) ∨ (211 ≤ a ∧ a ≤ 212) ∨ ((a = 213 ∨ a = 214) ∧ k = oo π D)) h1 h14 := fr_t (fr_w f11' (fun a k w => by omega)) f14 (fun a k w => by omega)
      have gV : fr WVm h1 h14 := fr_t (fr_w f11' (fun a k w => by omega)) f14 (fun a k w => by omega)
      have same : ∀ a j, (a = 211 ∨ a = 212) → h14.2.1 a j = h2.2.1 a j := fun a j w => by rw [fr_g f14 (by omega), fr_g f11 (by omega), mm_i e9 (by omega), mm_i e4 (by omega)]
      refine ⟨1, rfl, hb14, Or.inr rfl, 1, rfl, hb14, gV, Or.inr rfl, ?_⟩
      rw [es]
      obtain ⟨z0, z1, v1, v14, l14, l16⟩ := addM_v (π := π) (K := 58) (by rw [eDp]; show (π 16 D).toNat ≠ sz π; omega)
      rw [if_pos rfl] at z1
      rw [eDp] at l14 l16
      have l14' : addM π 58 14 (ll π D) = π 0 0 := l14
      have l16' : addM π 58 16 D = π 0 0 := l16
      have MM : MKm (addM π 58) h14 := by
        refine MKm_col (π' := addM π 58) (D := D) M W.2.2 eDp (by unfold sz; omega) (by unfold dp; omega) (fun j hj => addM_o (by omega) (by omega) (by omega) (by omega)) (fun j hj hj2 => addM_o (by omega) (by omega) (by rw [eDp]; show ¬ (14 = 14 ∧ j = ll π D); omega) (by omega)) (by unfold lk; rw [l14']; rfl) (fun d hd => addM_o (by omega) (by omega) (by omega) (by omega)) (fun d hd => addM_o (by omega) (by omega) (by omega) (by rw [eDp]; omega)) (by unfold ll; rw [l16']; rfl) v1 k91 (fun j hj => fr_g ff (by omega)) ⟨?_, ?_⟩ (fun w => ?_) (fun w => ?_) (fun a j h1 h2 h3 h4 => ?_)
        · rw [fr_g f14 (by omega), fr_g f11 (by omega), mv_i e9, ex7, Hc.1]
        · rw [fr_g f14 (by omega), fr_g f11 (by omega), mm_i e9 (by omega), mv_i e4]
        · obtain ⟨u1, u2⟩ := g2 w
          exact ⟨by rw [same _ _ (Or.inl rfl)]; exact u1, fun j => by rw [same _ _ (Or.inr rfl)]; exact u2 j⟩
        · obtain ⟨u1, u2, u3⟩ := g3 w
          exact ⟨by rw [same _ _ (Or.inl rfl)]; exact u1, by rw [same _ _ (Or.inr rfl)]; exact u2, fun j hj => by rw [same _ _ (Or.inr rfl)]; exact u3 j hj⟩
        · by_cases c211 : a = 211
          · rw [c211, same _ _ (Or.inl rfl)]; exact g4 j h4
          · exact fr_g ff (by omega)
      refine ⟨rfl, H14, RPm_addM R P (by omega) (Or.inl rfl) ff (fun a k w => by omega) ⟨?_, ?_, ?_⟩, PW_addM P (by omega) (Or.inl rfl), WC_addM W (by rw [y58] at hm; exact hm), MM, by show addM π 58 0 0 + 1 ≤ ((i + 1 : Nat) : Int); rw [z0]; omega⟩
      · rw [fr_g f14 (by omega), m2, hz]
      · rw [if_pos rfl, fr_g ff (by omega)]; exact R.2.1.1
      · rw [fr_g f14 (by omega), m1]; rfl
    refine ⟨fun c0 x20 e20 _ _ h21 e21 => ?_, fun c0 x14 e14 _ _ x15 e15 _ _ => ?_⟩
    · have ex20 : x20 = (sz π : Int) := by rw [e20, R.1, hz]
      subst ex20
      exact fin h21 (hb_i hb1 e21) (fr_i fr_0 e21 (by omega)) (fun _ => ⟨mv_i e21, fun j => mm_i e21 (by omega)⟩) (fun w => by rw [Hc.1] at w; omega) (fun j hj => mm_i e21 (by omega))
    · have hC1 := (Hc.2.2.1 (by omega)).2
      have ex14 : x14 = ((mkn π (oo π D) C : Nat) : Int) := e14.trans hC1
      have ex15 : x15 = (sz π : Int) := by rw [e15, R.1, hz]
      subst ex14 ex15
      have hlt : mkn π (oo π D) C < sz π := by rw [← hC]; exact hlz
      refine ⟨⟨by omega, by omega⟩, ?_⟩
      rw [tn_c]
      intro h17 e17
      refine fin h17 (hb_i hb1 e17) (fr_i fr_0 e17 (by omega)) (fun w => by rw [Hc.1] at w; omega) (fun _ => ⟨mm_i e17 (by omega), ?_, fun j hj => ?_⟩) (fun j hj => mm_i e17 (by omega))
      · rw [hC1, tn_c]; exact mv_i e17
      · rw [hC1, tn_c] at hj; exact mm_i e17 (by omega)
  · have n91 : ¬ π 1 (oo π D) = 91 := fun w => c2 (hK5.mpr w)
    exact k132 0 125 (Or.inr ⟨rfl, by omega, rfl⟩) (fun w => absurd w n91)
