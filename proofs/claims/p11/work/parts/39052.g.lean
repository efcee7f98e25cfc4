/-! ===== the reference: parts of a voice in its cells ===== -/
def mkd (K : Int) : Int := if K = 256 then 0 else if K = 124 then 1 else if K = 91 then 2 else if K = 58 then 3 else if K = 93 then 4 else if K = 123 then 5 else 6
/-- pitches of a sound -/
def ESm (π : pm_T) (j : Nat) (h : ah_T) : Prop := h.2.1 204 j = π 5 j ∧ h.2.1 207 j = π 17 j ∧ ∀ p : Nat, (p : Int) < π 5 j → h.2.1 205 (4 * j + p) = π (6 + p) j ∧ h.2.1 206 (4 * j + p) = π (10 + p) j
def EMj (π : pm_T) (j : Nat) (h : ah_T) : Prop := (h.2.1 202 j = π 2 j ∧ h.2.1 209 j = π 3 j ∧ h.2.1 208 j = π 4 j) ∧ ESm π j h
def RMj (π : pm_T) (j : Nat) (h : ah_T) : Prop := h.2.1 201 j = mkd (π 1 j) ∧ (π 1 j = 256 → EMj π j h) ∧ (π 1 j = 123 → h.2.1 202 j = π 2 j ∧ h.2.1 203 j = π 3 j)
/-- the parts but the count of them -/
def RPx (π : pm_T) (h : ah_T) : Prop := (h.2.1 170 63 = π 0 1 ∧ h.2.1 170 64 = π 0 2) ∧ (∀ d : Nat, (d : Int) < π 0 1 → h.2.1 215 d = π 15 d ∧ h.2.1 216 d = (if π 1 (π 15 d).toNat = 91 then 2 else 5)) ∧ ∀ j : Nat, (j : Int) < π 0 0 → RMj π j h
def RPm (π : pm_T) (h : ah_T) : Prop := h.2.1 170 43 = π 0 0 ∧ RPx π h
/-- what reading parts writes -/
abbrev WVm : Nat → Nat → Prop := fun a k => (a = 170 ∧ ((3 ≤ k ∧ k ≤ 12) ∨ k = 43 ∨ k = 63 ∨ k = 64)) ∨ (201 ≤ a ∧ a ≤ 216)
theorem WK_V : ∀ a k, WK a k → WVm a k := fun a k q => Or.inl ⟨q.1, Or.inl q.2⟩
theorem WM_V : ∀ a k, WM a k → WVm a k := fun a k q => WK_V a k (WM_K a k q)
/-- what reading any item writes -/
abbrev WJb : Nat → Nat → Prop := fun a k => WJ a k ∨ ((a = 185 ∨ a = 186) ∧ 4 ≤ k) ∨ ((187 ≤ a ∧ a ≤ 198 ∧ a ≠ 192 ∧ a ≠ 193) ∧ 1200 ≤ k) ∨ ((a = 192 ∨ a = 193) ∧ 4800 ≤ k) ∨ ((a = 199 ∨ a = 200) ∧ 408 ≤ k) ∨ (201 ≤ a ∧ a ≤ 220)
theorem WJ_b : ∀ a k, WJ a k → WJb a k := fun _ _ q => Or.inl q
theorem WV_J : ∀ a k, WVm a k → WJb a k := fun a k q => q.elim (fun w => Or.inl (Or.inl ⟨w.1, by omega⟩)) (fun w => Or.inr (Or.inr (Or.inr (Or.inr (Or.inr ⟨by omega, by omega⟩)))))
theorem WJ_c : ∀ a k, WJ a k → a ≤ 184 ∨ 201 ≤ a := by
  intro a k q
  rcases q with q | q | q | q | q | q <;> omega
theorem RMs_V {X : tx_T} {i : Nat} {μ : pm_T} {W : Nat → Nat → Prop} {h h' : ah_T} (H : RMs X i μ h) (f : fr W h h') (hW : ∀ a k, W a k → (a = 170 ∧ 12 < k) ∨ 201 ≤ a) : RMs X i μ h' :=
  ⟨RMt_f H.1 f (fun a k w => by have := hW a k w; omega), RSn_f H.2.1 f (fun a k w => by have := hW a k w; omega), (fr_g f (fun w => by have := hW _ _ w; omega)).trans H.2.2⟩
theorem ESm_c {π π' : pm_T} {j : Nat} {h h' : ah_T} (H : ESm π j h) (h5 : π 5 j ≤ 4) (e : ∀ a, (5 ≤ a ∧ a ≤ 13) ∨ a = 17 → π' a j = π a j) (g : h'.2.1 204 j = h.2.1 204 j ∧ h'.2.1 207 j = h.2.1 207 j) (g2 : ∀ k, 4 * j ≤ k → k < 4 * j + 4 → h'.2.1 205 k = h.2.1 205 k ∧ h'.2.1 206 k = h.2.1 206 k) : ESm π' j h' := by
  obtain ⟨a1, a2, a3⟩ := H
  refine ⟨by rw [g.1, e 5 (by omega)]; exact a1, by rw [g.2, e 17 (by omega)]; exact a2, fun p hp => ?_⟩
  rw [e 5 (by omega)] at hp
  rw [(g2 _ (by omega) (by omega)).1, (g2 _ (by omega) (by omega)).2, e (6 + p) (by omega), e (10 + p) (by omega)]
  exact a3 p hp
theorem RMj_c {π π' : pm_T} {j : Nat} {h h' : ah_T} (H : RMj π j h) (P : PJ π j) (e : ∀ a, (1 ≤ a ∧ a ≤ 13) ∨ a = 17 → π' a j = π a j) (g : ∀ a, (201 ≤ a ∧ a ≤ 204) ∨ (207 ≤ a ∧ a ≤ 209) → h'.2.1 a j = h.2.1 a j) (g2 : ∀ k, 4 * j ≤ k → k < 4 * j + 4 → h'.2.1 205 k = h.2.1 205 k ∧ h'.2.1 206 k = h.2.1 206 k) : RMj π' j h' := by
  obtain ⟨a1, a2, a3⟩ := H
  have e1 := e 1 (by omega)
  refine ⟨by rw [g 201 (by omega), e1]; exact a1, fun q => ?_, fun q => ?_⟩
  · rw [e1] at q
    obtain ⟨b1, b2⟩ := a2 q
    have S := (P.2.1 q).2.2.2
    exact ⟨by rw [g 202 (by omega), g 209 (by omega), g 208 (by omega), e 2 (by omega), e 3 (by omega), e 4 (by omega)]; exact b1, ESm_c b2 S.1.2 (fun a w => e a (by omega)) ⟨g _ (by omega), g _ (by omega)⟩ g2⟩
  · rw [e1] at q
    rw [g 202 (by omega), g 203 (by omega), e 2 (by omega), e 3 (by omega)]; exact a3 q
/-- the parts stay; the count of admitted and the sound being read may change -/
theorem RPx_s {π π' : pm_T} {h h' : ah_T} {W : Nat → Nat → Prop} (H : RPx π h) (P : PW π) (f : fr W h h') (hW : ∀ a k, W a k → (a ≤ 170 ∧ (a = 170 → k ≠ 63)) ∨ ((a = 205 ∨ a = 206) ∧ 4 * sz π ≤ k) ∨ ((201 ≤ a ∧ a ≤ 204 ∨ 207 ≤ a ∧ a ≤ 214) ∧ sz π ≤ k)) (e : ∀ a k, (k ≠ sz π ∧ (a ≠ 0 ∨ (k ≠ 2 ∧ k ≠ 4))) ∨ (14 ≤ a ∧ a ≤ 16) → π' a k = π a k) (e0 : π' 0 0 = π 0 0 ∧ π' 0 1 = π 0 1) (e2 : h'.2.1 170 64 = π' 0 2) : RPx π' h' := by
  obtain ⟨⟨a1, a2⟩, hd, hj⟩ := H
  obtain ⟨c0, c1⟩ := e0
  have p0 := P.1.1
  have hz : (sz π : Int) = π 0 0 := by unfold sz; omega
  have g : ∀ (a k : Nat), ¬ ((a ≤ 170 ∧ (a = 170 → k ≠ 63)) ∨ ((a = 205 ∨ a = 206) ∧ 4 * sz π ≤ k) ∨ ((201 ≤ a ∧ a ≤ 204 ∨ 207 ≤ a ∧ a ≤ 214) ∧ sz π ≤ k)) → h'.2.1 a k = h.2.1 a k := fun a k q => fr_g f (fun w => q (hW a k w))
  refine ⟨⟨by rw [g _ _ (by omega), c1]; exact a1, e2⟩, fun d hd' => ?_, fun j hj' => ?_⟩
  · rw [c1] at hd'
    have pd := P.2.1 d hd'
    have : (π 15 d).toNat ≠ sz π := by have := pd.1; omega
    rw [g _ _ (by omega), g _ _ (by omega), e 15 d (by omega), e 1 _ (Or.inl ⟨this, by omega⟩)]; exact hd d hd'
  · rw [c0] at hj'
    have nz : j ≠ sz π := by omega
    exact RMj_c (hj j hj') (P.2.2 j hj') (fun a q => e a j (Or.inl ⟨nz, by omega⟩)) (fun a q => g _ _ (by omega)) (fun k h1 h2 => ⟨g _ _ (by omega), g _ _ (by omega)⟩)
theorem RPx_t {π : pm_T} {h h' : ah_T} {W : Nat → Nat → Prop} (H : RPx π h) (P : PW π) (f : fr W h h') (hW : ∀ a k, W a k → a = 170 ∧ k ≠ 63 ∧ k ≠ 64) : RPx π h' :=
  RPx_s H P f (fun a k w => by have := hW a k w; omega) (fun _ _ _ => rfl) ⟨rfl, rfl⟩ ((fr_g f (fun w => by have := hW _ _ w; omega)).trans H.1.2)
theorem t_MD_put {G : cx_T} {s p : Nat} {h : ah_T} {a1 : Int} (hb0 : hb s h) (hp : h.2.1 170 43 = (p : Int)) (hp2 : p < 2100) : con G 0 0 0 m_MD_put [av_R (some 170), av_I a1] h (fun r h' => r = none ∧ hb s h' ∧ fr (fun a k => (a = 201 ∧ k = p) ∨ (a = 170 ∧ k = 43)) h h' ∧ h'.2.1 201 p = a1 ∧ h'.2.1 170 43 = (p : Int) + 1) := by
  refine c_MD_put hb0 (fun _ => ?_)
  unfold B_MD_put_0
  intro x2 e2 _ _
  obtain rfl : x2 = (p : Int) := e2.trans hp
  refine ⟨⟨by omega, by omega⟩, ?_⟩
  rw [tn_c]
  intro h4 e4
  refine ⟨⟨by omega, by omega⟩, fun h8 e8 => ⟨rfl, hb_i (hb_i hb0 e4) e8, fr_i (fr_i fr_0 e4 (Or.inl ⟨rfl, rfl⟩)) e8 (Or.inr ⟨rfl, rfl⟩), ?_, mv_i e8⟩⟩
  rw [mm_i e8 (by omega), mv_i e4]
theorem sg_sw : ∀ b : Nat, 65 ≤ b → b ≤ 71 → 0 ≤ sw b ∧ sw b ≤ 6 ∧ (sw b % 7 + 2) % 7 + 65 = b := by
  intro b h1 h2
  have : b = 65 ∨ b = 66 ∨ b = 67 ∨ b = 68 ∨ b = 69 ∨ b = 70 ∨ b = 71 := by omega
  rcases this with rfl | rfl | rfl | rfl | rfl | rfl | rfl <;> decide
/-- the signs of a PITCH by its KEY and STEP -/
theorem sg_mk {X : tx_T} {i : Nat} (hA : XA X) (hi : i < X.2.2.2.1) (hk : tK X.2.2.1 i = 258) : sgt X.2.2.1 i = (mk X.1 X.2.1 (X.2.2.2.2.1 i) : Int) := by
  obtain ⟨h1, h2, h3, h4⟩ := hA.2.1 i hi
  have hlt : X.2.2.2.2.1 i < X.2.1 := by
    rcases Nat.lt_or_ge (X.2.2.2.2.1 i) X.2.1 with w | w
    · exact w
    · have := (h3 (by omega)).1; omega
  obtain ⟨⟨t1, t2, t3, t4⟩, -⟩ := h4 hlt
  generalize X.1 = T at *
  generalize X.2.1 = n at *
  generalize X.2.2.2.2.1 i = p at *
  have cP : 65 ≤ T p ∧ T p ≤ 71 := by
    refine Classical.byContradiction fun c1 => ?_
    by_cases c2 : isSm (T p)
    · obtain ⟨-, s1, s2⟩ := t2 c2
      by_cases c : 8 < X.2.2.2.2.2 i - p
      · have := s1 c; omega
      · have := (s2 (by omega)).1; have := knm_b (x := lvl T p (X.2.2.2.2.2 i - p)); omega
    · by_cases c3 : isDg (T p)
      · obtain ⟨-, s1, s2⟩ := t3 c3
        by_cases c : 4 < X.2.2.2.2.2 i - p
        · have := s1 c; omega
        · have := (s2 (by omega)).1; omega
      · obtain ⟨-, a2, a3⟩ := t4 c1 c2 c3
        by_cases c : isSg (T p)
        · have := a2 c; unfold isSg at c; omega
        · have := a3 c; omega
  obtain ⟨q1, q2⟩ := t1 cP
  by_cases d : 48 ≤ tb T n (p + 1 + mk T n p) ∧ tb T n (p + 1 + mk T n p) ≤ 56
  · obtain ⟨-, v, st, -⟩ := q1 d
    obtain ⟨b, eb⟩ : ∃ b : Nat, T p = (b : Int) := ⟨(T p).toNat, by omega⟩
    obtain ⟨w1, w2, w3⟩ := sg_sw b (by omega) (by omega)
    have hm := mk_2 (T := T) (n := n) (p := p)
    unfold sgt sgk
    rw [v, st, eb]
    generalize tb T n (p + 1 + mk T n p) = D at d ⊢
    have e1 : (7 * (D - 48) + sw b) / 7 = D - 48 := by omega
    have e2 : (7 * (D - 48) + sw b) % 7 = sw b % 7 := by omega
    rw [e1, e2, w3]
    have e0 : 12 * (D - 48) + wh b + (if tb T n (p + 1) = 35 then (mk T n p : Int) else -(mk T n p : Int)) - (12 * (D - 48) + wh b) = (if tb T n (p + 1) = 35 then (mk T n p : Int) else -(mk T n p : Int)) := by omega
    rw [e0]
    split <;> split <;> omega
  · have := q2 d; omega

/-! ===== the reference: a sound ===== -/
/-- a sound is being read: its part is counted already -/
def RSm (π : pm_T) (h : ah_T) : Prop := h.2.1 170 43 = π 0 0 + 1 ∧ RPx π h ∧ PW π ∧ PS π ∧ h.2.1 201 (sz π) = 0 ∧ ESm π (sz π) h
/-- what reading a sound writes -/
abbrev WSm : Nat → Nat → Prop := fun a k => (a = 170 ∧ ((3 ≤ k ∧ k ≤ 12) ∨ k = 43 ∨ k = 64)) ∨ (201 ≤ a ∧ a ≤ 209)
theorem WK_S : ∀ a k, WK a k → WSm a k := fun a k q => Or.inl ⟨q.1, Or.inl q.2⟩
theorem WM_S : ∀ a k, WM a k → WSm a k := fun a k q => WK_S a k (WM_K a k q)
abbrev WPp (p : Nat) : Nat → Nat → Prop := fun a k => (a = 170 ∧ ((3 ≤ k ∧ k ≤ 10) ∨ k = 64)) ∨ ((a = 204 ∨ a = 207) ∧ k = p) ∨ ((a = 205 ∨ a = 206) ∧ 4 * p ≤ k ∧ k < 4 * p + 4)
theorem t_MD_pitchOf {G : cx_T} {s : Nat} {h : ah_T} {X : tx_T} {i : Nat} {μ π : pm_T} (hb0 : hb s h) (hA : XA X) (H : RMs X i μ h) (R : RSm π h) (hk : tK X.2.2.1 i = 258) (h5 : π 5 (sz π) < 4) (hp : sz π < 2100) :
    con G 3 0 0 m_MD_pitchOf [av_R (some 170), av_I (sz π : Int)] h (fun r h' => ∃ z, r = some (av_I z) ∧ hb s h' ∧ fr WSm h h' ∧ ((π 0 2 < 300 ∧ z = 1 ∧ RMs X (i + 1) μ h' ∧ RSm (pch X.2.2.1 i (sgt X.2.2.1 i) (adm π)) h') ∨ (¬ π 0 2 < 300 ∧ z = 0 ∧ h'.2.1 170 11 = 3 ∧ h'.2.1 170 12 = tP X.2.2.1 i))) := by
  have hT : TG X.2.2.1 X.2.2.2.1 := XA_g hA
  have hkb := hT.2.2 i H.1.2.1 hk
  have hsg := sg_mk hA H.1.2.1 hk
  have h8 := H.1.2.2.2.2.2.2.2.1 hk
  obtain ⟨R1, R2, P, S, R3, R4⟩ := R
  obtain ⟨⟨s1, s2, s3, s4⟩, s5, s6⟩ := S
  obtain ⟨P0, -, -⟩ := id P
  obtain ⟨e, en⟩ : ∃ e : Nat, π 5 (sz π) = (e : Int) := ⟨(π 5 (sz π)).toNat, by omega⟩
  refine c_MD_pitchOf hb0 (fun _ => ?_)
  unfold B_MD_pitchOf_0
  intro x1 e1 _ _
  have ex1 : x1 = π 0 2 := e1.trans R2.1.2
  refine ⟨fun c y ey _ _ => ?_, fun c => ⟨⟨by omega, by omega⟩, fun h4 e4 => ⟨⟨by omega, by omega⟩, ⟨by omega, by omega⟩, ?_⟩⟩⟩
  · refine con_mono (t_MD_wrongk hb0 H.2.2) ?_
    rintro r h' ⟨z, rfl, hb1, f1, rfl, q1, q2⟩
    exact ⟨0, rfl, hb1, Or.inl rfl, 0, rfl, hb1, fr_w f1 WK_S, Or.inr ⟨by omega, rfl, q1, by rw [q2, ey]; exact H.1.2.2.1⟩⟩
  rw [tn_c]
  intro x8 e8 _ _
  have ex8 : x8 = (e : Int) := by rw [e8, mm_i e4 (by omega), R4.1, en]
  subst ex8
  refine ⟨⟨by omega, by omega⟩, fun x12 e12 _ _ => ⟨⟨by omega, by omega⟩, ?_⟩⟩
  have ek : (4 * (sz π : Int) + (e : Int)).toNat = 4 * sz π + e := by omega
  rw [ek]
  intro h14 e14 x17 e17 _ _ h18 e18 x21 e21 _ _ x22 e22 _ _
  have g12 : x12 = tV' X.2.2.1 i := by rw [e12, mm_i e4 (by omega)]; exact h8.1
  have g17 : x17 = tS X.2.2.1 i := by rw [e17, mm_i e14 (by omega), mm_i e4 (by omega)]; exact h8.2.1
  have g21 : x21 = π 17 (sz π) := by rw [e21, mm_i e18 (by omega), mm_i e14 (by omega), mm_i e4 (by omega)]; exact R4.2.1
  have g22 : x22 = sgt X.2.2.1 i := by rw [e22, mm_i e18 (by omega), mm_i e14 (by omega), mm_i e4 (by omega), hsg]; exact h8.2.2
  have hm := mk_2 (T := X.1) (n := X.2.1) (p := X.2.2.2.2.1 i)
  have b17 : 0 ≤ π 17 (sz π) ∧ π 17 (sz π) ≤ 100000 := by
    rw [s4]
    have : ∀ k : Nat, k ≤ 4 → (k : Int) ≤ π 5 (sz π) → 0 ≤ sgs π (sz π) k ∧ sgs π (sz π) k ≤ 2000 * k := by
      intro k
      induction k with
      | zero => intro _ _; exact ⟨Int.le_refl _, Int.le_refl _⟩
      | succ k ih =>
        intro h1 h2
        have i1 := ih (by omega) (by omega)
        obtain ⟨⟨w1, w2⟩, w3, w4⟩ := s3 k (by omega)
        have w5 : 0 ≤ sgk (π (6 + k) (sz π)) (π (10 + k) (sz π)) ∧ sgk (π (6 + k) (sz π)) (π (10 + k) (sz π)) ≤ 2000 := by
          unfold sgk
          have := wh_b (b := (π (10 + k) (sz π) % 7 + 2) % 7 + 65)
          split <;> omega
        rw [sgs]; omega
    have := this (π 5 (sz π)).toNat (by omega) (by omega)
    omega
  refine ⟨⟨by omega, by omega⟩, fun h24 e24 => ⟨⟨by omega, by omega⟩, fun h29 e29 => ?_⟩⟩
  have f29 : fr (WPp (sz π)) h h29 := fr_i (fr_i (fr_i (fr_i (fr_i fr_0 e4 (by omega)) e14 (by omega)) e18 (by omega)) e24 (by omega)) e29 (by omega)
  have H29 := RMs_V H (fr_i (fr_i (fr_i (fr_i (fr_i (W := fun a k => (a = 170 ∧ k = 64) ∨ 201 ≤ a) fr_0 e4 (by omega)) e14 (by omega)) e18 (by omega)) e24 (by omega)) e29 (by omega)) (fun a k w => by omega)
  refine con_mono (t_MD_step (hb_i (hb_i (hb_i (hb_i (hb_i hb0 e4) e14) e18) e24) e29) hA H29 ⟨by omega, by omega⟩) ?_
  rintro r h' ⟨z, rfl, hb1, f1, H1, rfl⟩
  have f : fr (WPp (sz π)) h h' := fr_t f29 f1 (fun a k w => by omega)
  have c3 : π 0 2 < 300 := by omega
  refine ⟨1, rfl, hb1, Or.inr rfl, 1, rfl, hb1, fr_w f (fun a k w => by omega), Or.inl ⟨c3, rfl, H1, ?_⟩⟩
  obtain ⟨p1, p2⟩ := PW_adm P ⟨⟨s1, s2, s3, s4⟩, s5, s6⟩ c3
  have a5 : adm π 5 (sz (adm π)) = π 5 (sz π) := by rw [sz_adm, adm_o (by omega)]
  have en' : adm π 5 (sz (adm π)) = (e : Int) := a5.trans en
  obtain ⟨q1, q2⟩ := PW_pch (t := X.2.2.1) (i := i) p1 p2 (by rw [a5]; exact h5) (by rw [a5, adm_o (by omega), adm_2]; omega) (by rw [adm_o (by omega), adm_2]; omega) hkb
  have po : ∀ a k, ¬ (a = 0 ∧ (k = 4 ∨ k = 2)) → (k ≠ sz π ∨ (a ≠ 5 ∧ a ≠ 17 ∧ a ≠ 6 + e ∧ a ≠ 10 + e)) → pch X.2.2.1 i (sgt X.2.2.1 i) (adm π) a k = π a k := fun a k q r => by
    rw [pch_o en' (by omega) (by rw [sz_adm]; omega), adm_o (by omega)]
  have es : sz (pch X.2.2.1 i (sgt X.2.2.1 i) (adm π)) = sz π := by rw [sz_pch, sz_adm]
  have m64 : h'.2.1 170 64 = π 0 2 + 1 := by rw [fr_g f1 (by omega), mm_i e29 (by omega), mm_i e24 (by omega), mm_i e18 (by omega), mm_i e14 (by omega), mv_i e4, ex1]
  have v5 : pch X.2.2.1 i (sgt X.2.2.1 i) (adm π) 5 (sz π) = π 5 (sz π) + 1 := by
    have := pch_5 (t := X.2.2.1) (i := i) (g := sgt X.2.2.1 i) (π := adm π)
    rw [sz_adm] at this
    rw [this, adm_o (by omega)]
  have v17 : pch X.2.2.1 i (sgt X.2.2.1 i) (adm π) 17 (sz π) = π 17 (sz π) + sgt X.2.2.1 i := by
    have := pch_17 (t := X.2.2.1) (i := i) (g := sgt X.2.2.1 i) (π := adm π)
    rw [sz_adm] at this
    rw [this, adm_o (by omega)]
  have vk := pch_k (t := X.2.2.1) (i := i) (g := sgt X.2.2.1 i) en' (by omega)
  rw [sz_adm] at vk
  refine ⟨?_, RPx_s R2 P f (fun a k w => by omega) (fun a k q => po a k (by omega) (by omega)) ⟨po _ _ (by omega) (by omega), po _ _ (by omega) (by omega)⟩ ?_, q1, q2, ?_, ?_⟩
  · rw [po 0 0 (by omega) (by omega), fr_g f (by omega)]; exact R1
  · rw [m64, pch_o en' (by omega) (by omega), adm_2]
  · rw [es, fr_g f (by omega)]; exact R3
  · rw [es]
    refine ⟨?_, ?_, fun p hp => ?_⟩
    · rw [v5, fr_g f1 (by omega), mv_i e29, en]
    · rw [v17, fr_g f1 (by omega), mm_i e29 (by omega), mv_i e24, g21, g22]
    · rw [v5] at hp
      by_cases hc : p = e
      · subst hc
        rw [vk.1, vk.2, fr_g f1 (by omega), fr_g f1 (by omega), mm_i e29 (by omega), mm_i e24 (by omega), mm_i e18 (by omega), mv_i e14, mm_i e29 (by omega), mm_i e24 (by omega), mv_i e18]
        exact ⟨g12, g17⟩
      · rw [po _ _ (by omega) (by omega), po _ _ (by omega) (by omega), fr_g f1 (by omega), fr_g f1 (by omega), mm_i e29 (by omega), mm_i e24 (by omega), mm_i e18 (by omega), mm_i e14 (by omega), mm_i e4 (by omega), mm_i e29 (by omega), mm_i e24 (by omega), mm_i e18 (by omega), mm_i e14 (by omega), mm_i e4 (by omega)]
        exact R4.2.2 p (by omega)
